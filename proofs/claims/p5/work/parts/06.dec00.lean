theorem d_TM_init_0 : decode prog_1_method_1_code 0 = .ok (.aload_n 0, 1) := by decide +kernel
theorem d_TM_init_1 : decode prog_1_method_1_code 1 = .ok (.invokespecial 3, 3) := by decide +kernel
theorem d_TM_init_4 : decode prog_1_method_1_code 4 = .ok (.aload_n 0, 1) := by decide +kernel
theorem d_TM_init_5 : decode prog_1_method_1_code 5 = .ok (.new 9, 3) := by decide +kernel
theorem d_TM_init_8 : decode prog_1_method_1_code 8 = .ok (.dup, 1) := by decide +kernel
theorem d_TM_init_9 : decode prog_1_method_1_code 9 = .ok (.invokespecial 11, 3) := by decide +kernel
theorem d_TM_init_12 : decode prog_1_method_1_code 12 = .ok (.putfield 12, 3) := by decide +kernel
theorem d_TM_init_15 : decode prog_1_method_1_code 15 = .ok (.aload_n 0, 1) := by decide +kernel
theorem d_TM_init_16 : decode prog_1_method_1_code 16 = .ok (.new 16, 3) := by decide +kernel
theorem d_TM_init_19 : decode prog_1_method_1_code 19 = .ok (.dup, 1) := by decide +kernel
theorem d_TM_init_20 : decode prog_1_method_1_code 20 = .ok (.invokespecial 18, 3) := by decide +kernel
theorem d_TM_init_23 : decode prog_1_method_1_code 23 = .ok (.putfield 19, 3) := by decide +kernel
theorem d_TM_init_26 : decode prog_1_method_1_code 26 = .ok (.aload_n 0, 1) := by decide +kernel
theorem d_TM_init_27 : decode prog_1_method_1_code 27 = .ok (.new 23, 3) := by decide +kernel
theorem d_TM_init_30 : decode prog_1_method_1_code 30 = .ok (.dup, 1) := by decide +kernel
theorem d_TM_init_31 : decode prog_1_method_1_code 31 = .ok (.invokespecial 25, 3) := by decide +kernel
theorem d_TM_init_34 : decode prog_1_method_1_code 34 = .ok (.putfield 26, 3) := by decide +kernel
theorem d_TM_init_37 : decode prog_1_method_1_code 37 = .ok (.aload_n 0, 1) := by decide +kernel
theorem d_TM_init_38 : decode prog_1_method_1_code 38 = .ok (.new 30, 3) := by decide +kernel
theorem d_TM_init_41 : decode prog_1_method_1_code 41 = .ok (.dup, 1) := by decide +kernel
theorem d_TM_init_42 : decode prog_1_method_1_code 42 = .ok (.aload_n 0, 1) := by decide +kernel
theorem d_TM_init_43 : decode prog_1_method_1_code 43 = .ok (.getfield 12, 3) := by decide +kernel
theorem d_TM_init_46 : decode prog_1_method_1_code 46 = .ok (.aload_n 0, 1) := by decide +kernel
theorem d_TM_init_47 : decode prog_1_method_1_code 47 = .ok (.getfield 19, 3) := by decide +kernel
theorem d_TM_init_50 : decode prog_1_method_1_code 50 = .ok (.aload_n 0, 1) := by decide +kernel
theorem d_TM_init_51 : decode prog_1_method_1_code 51 = .ok (.getfield 26, 3) := by decide +kernel
theorem d_TM_init_54 : decode prog_1_method_1_code 54 = .ok (.invokespecial 32, 3) := by decide +kernel
theorem d_TM_init_57 : decode prog_1_method_1_code 57 = .ok (.putfield 35, 3) := by decide +kernel
theorem d_TM_init_60 : decode prog_1_method_1_code 60 = .ok (.return_, 1) := by decide +kernel
theorem d_TM_begin_0 : decode prog_1_method_5_code 0 = .ok (.aload_n 0, 1) := by decide +kernel
theorem d_TM_begin_1 : decode prog_1_method_5_code 1 = .ok (.getfield 19, 3) := by decide +kernel
theorem d_TM_begin_4 : decode prog_1_method_5_code 4 = .ok (.iload_n 1, 1) := by decide +kernel
theorem d_TM_begin_5 : decode prog_1_method_5_code 5 = .ok (.invokevirtual 73, 3) := by decide +kernel
theorem d_TM_begin_8 : decode prog_1_method_5_code 8 = .ok (.ifCond .ne 13, 3) := by decide +kernel
theorem d_TM_begin_11 : decode prog_1_method_5_code 11 = .ok (.new 76, 3) := by decide +kernel
theorem d_TM_begin_14 : decode prog_1_method_5_code 14 = .ok (.dup, 1) := by decide +kernel
theorem d_TM_begin_15 : decode prog_1_method_5_code 15 = .ok (.ldc 78, 2) := by decide +kernel
theorem d_TM_begin_17 : decode prog_1_method_5_code 17 = .ok (.invokespecial 80, 3) := by decide +kernel
theorem d_TM_begin_20 : decode prog_1_method_5_code 20 = .ok (.athrow, 1) := by decide +kernel
theorem d_TM_begin_21 : decode prog_1_method_5_code 21 = .ok (.iload_n 2, 1) := by decide +kernel
theorem d_TM_begin_22 : decode prog_1_method_5_code 22 = .ok (.invokestatic 81, 3) := by decide +kernel
theorem d_TM_begin_25 : decode prog_1_method_5_code 25 = .ok (.ifCond .eq 15, 3) := by decide +kernel
theorem d_TM_begin_28 : decode prog_1_method_5_code 28 = .ok (.aload_n 0, 1) := by decide +kernel
theorem d_TM_begin_29 : decode prog_1_method_5_code 29 = .ok (.getfield 19, 3) := by decide +kernel
theorem d_TM_begin_32 : decode prog_1_method_5_code 32 = .ok (.iload_n 1, 1) := by decide +kernel
theorem d_TM_begin_33 : decode prog_1_method_5_code 33 = .ok (.iload_n 2, 1) := by decide +kernel
theorem d_TM_begin_34 : decode prog_1_method_5_code 34 = .ok (.invokevirtual 92, 3) := by decide +kernel
theorem d_TM_begin_37 : decode prog_1_method_5_code 37 = .ok (.goto 4, 3) := by decide +kernel
theorem d_TM_begin_40 : decode prog_1_method_5_code 40 = .ok (.iconst (-1), 1) := by decide +kernel
theorem d_TM_begin_41 : decode prog_1_method_5_code 41 = .ok (.istore_n 3, 1) := by decide +kernel
theorem d_TM_begin_42 : decode prog_1_method_5_code 42 = .ok (.iload_n 3, 1) := by decide +kernel
theorem d_TM_begin_43 : decode prog_1_method_5_code 43 = .ok (.iconst (-1), 1) := by decide +kernel
theorem d_TM_begin_44 : decode prog_1_method_5_code 44 = .ok (.if_icmp .eq 36, 3) := by decide +kernel
theorem d_TM_begin_47 : decode prog_1_method_5_code 47 = .ok (.aload_n 0, 1) := by decide +kernel
theorem d_TM_begin_48 : decode prog_1_method_5_code 48 = .ok (.getfield 19, 3) := by decide +kernel
theorem d_TM_begin_51 : decode prog_1_method_5_code 51 = .ok (.iload_n 3, 1) := by decide +kernel
theorem d_TM_begin_52 : decode prog_1_method_5_code 52 = .ok (.iload_n 2, 1) := by decide +kernel
theorem d_TM_begin_53 : decode prog_1_method_5_code 53 = .ok (.invokevirtual 96, 3) := by decide +kernel
theorem d_TM_begin_56 : decode prog_1_method_5_code 56 = .ok (.iconst 4, 1) := by decide +kernel
theorem d_TM_begin_57 : decode prog_1_method_5_code 57 = .ok (.if_icmp .ne 23, 3) := by decide +kernel
theorem d_TM_begin_60 : decode prog_1_method_5_code 60 = .ok (.aload_n 0, 1) := by decide +kernel
theorem d_TM_begin_61 : decode prog_1_method_5_code 61 = .ok (.getfield 12, 3) := by decide +kernel
theorem d_TM_begin_64 : decode prog_1_method_5_code 64 = .ok (.aload_n 0, 1) := by decide +kernel
theorem d_TM_begin_65 : decode prog_1_method_5_code 65 = .ok (.getfield 19, 3) := by decide +kernel
theorem d_TM_begin_68 : decode prog_1_method_5_code 68 = .ok (.iload_n 3, 1) := by decide +kernel
theorem d_TM_begin_69 : decode prog_1_method_5_code 69 = .ok (.iload_n 2, 1) := by decide +kernel
theorem d_TM_begin_70 : decode prog_1_method_5_code 70 = .ok (.invokevirtual 99, 3) := by decide +kernel
theorem d_TM_begin_73 : decode prog_1_method_5_code 73 = .ok (.iconst 0, 1) := by decide +kernel
theorem d_TM_begin_74 : decode prog_1_method_5_code 74 = .ok (.invokevirtual 102, 3) := by decide +kernel
theorem d_TM_begin_77 : decode prog_1_method_5_code 77 = .ok (.ifCond .ne 13, 3) := by decide +kernel
theorem d_TM_begin_80 : decode prog_1_method_5_code 80 = .ok (.new 47, 3) := by decide +kernel
theorem d_TM_begin_83 : decode prog_1_method_5_code 83 = .ok (.dup, 1) := by decide +kernel
theorem d_TM_begin_84 : decode prog_1_method_5_code 84 = .ok (.ldc 105, 2) := by decide +kernel
theorem d_TM_begin_86 : decode prog_1_method_5_code 86 = .ok (.invokespecial 51, 3) := by decide +kernel
theorem d_TM_begin_89 : decode prog_1_method_5_code 89 = .ok (.athrow, 1) := by decide +kernel
theorem d_TM_begin_90 : decode prog_1_method_5_code 90 = .ok (.aload_n 0, 1) := by decide +kernel
theorem d_TM_begin_91 : decode prog_1_method_5_code 91 = .ok (.getfield 35, 3) := by decide +kernel
theorem d_TM_begin_94 : decode prog_1_method_5_code 94 = .ok (.getfield 58, 3) := by decide +kernel
theorem d_TM_begin_97 : decode prog_1_method_5_code 97 = .ok (.ifCond .ne 13, 3) := by decide +kernel
theorem d_TM_begin_100 : decode prog_1_method_5_code 100 = .ok (.new 61, 3) := by decide +kernel
theorem d_TM_begin_103 : decode prog_1_method_5_code 103 = .ok (.dup, 1) := by decide +kernel
theorem d_TM_begin_104 : decode prog_1_method_5_code 104 = .ok (.ldc 86, 2) := by decide +kernel
theorem d_TM_begin_106 : decode prog_1_method_5_code 106 = .ok (.invokespecial 65, 3) := by decide +kernel
theorem d_TM_begin_109 : decode prog_1_method_5_code 109 = .ok (.athrow, 1) := by decide +kernel
theorem d_TM_begin_110 : decode prog_1_method_5_code 110 = .ok (.aload_n 0, 1) := by decide +kernel
theorem d_TM_begin_111 : decode prog_1_method_5_code 111 = .ok (.getfield 35, 3) := by decide +kernel
theorem d_TM_begin_114 : decode prog_1_method_5_code 114 = .ok (.aload_n 0, 1) := by decide +kernel
theorem d_TM_begin_115 : decode prog_1_method_5_code 115 = .ok (.getfield 19, 3) := by decide +kernel
theorem d_TM_begin_118 : decode prog_1_method_5_code 118 = .ok (.iload_n 3, 1) := by decide +kernel
theorem d_TM_begin_119 : decode prog_1_method_5_code 119 = .ok (.iload_n 2, 1) := by decide +kernel
theorem d_TM_begin_120 : decode prog_1_method_5_code 120 = .ok (.invokevirtual 99, 3) := by decide +kernel
theorem d_TM_begin_123 : decode prog_1_method_5_code 123 = .ok (.iload_n 1, 1) := by decide +kernel
theorem d_TM_begin_124 : decode prog_1_method_5_code 124 = .ok (.iload_n 3, 1) := by decide +kernel
theorem d_TM_begin_125 : decode prog_1_method_5_code 125 = .ok (.invokevirtual 107, 3) := by decide +kernel
theorem d_TM_begin_128 : decode prog_1_method_5_code 128 = .ok (.return_, 1) := by decide +kernel
theorem d_TM_code_0 : decode prog_1_method_2_code 0 = .ok (.aload_n 0, 1) := by decide +kernel
theorem d_TM_code_1 : decode prog_1_method_2_code 1 = .ok (.getfield 12, 3) := by decide +kernel
theorem d_TM_code_4 : decode prog_1_method_2_code 4 = .ok (.iload_n 1, 1) := by decide +kernel
theorem d_TM_code_5 : decode prog_1_method_2_code 5 = .ok (.iload_n 2, 1) := by decide +kernel
theorem d_TM_code_6 : decode prog_1_method_2_code 6 = .ok (.invokevirtual 39, 3) := by decide +kernel
theorem d_TM_code_9 : decode prog_1_method_2_code 9 = .ok (.ireturn, 1) := by decide +kernel
theorem d_TM_collect_0 : decode prog_1_method_8_code 0 = .ok (.aload_n 0, 1) := by decide +kernel
theorem d_TM_collect_1 : decode prog_1_method_8_code 1 = .ok (.getfield 19, 3) := by decide +kernel
theorem d_TM_collect_4 : decode prog_1_method_8_code 4 = .ok (.invokevirtual 124, 3) := by decide +kernel
theorem d_TM_collect_7 : decode prog_1_method_8_code 7 = .ok (.aload_n 0, 1) := by decide +kernel
theorem d_TM_collect_8 : decode prog_1_method_8_code 8 = .ok (.getfield 35, 3) := by decide +kernel
theorem d_TM_collect_11 : decode prog_1_method_8_code 11 = .ok (.invokevirtual 127, 3) := by decide +kernel
theorem d_TM_collect_14 : decode prog_1_method_8_code 14 = .ok (.aload_n 0, 1) := by decide +kernel
theorem d_TM_collect_15 : decode prog_1_method_8_code 15 = .ok (.getfield 19, 3) := by decide +kernel
theorem d_TM_collect_18 : decode prog_1_method_8_code 18 = .ok (.invokevirtual 130, 3) := by decide +kernel
theorem d_TM_collect_21 : decode prog_1_method_8_code 21 = .ok (.ireturn, 1) := by decide +kernel
theorem d_TM_has_0 : decode prog_1_method_12_code 0 = .ok (.aload_n 0, 1) := by decide +kernel
theorem d_TM_has_1 : decode prog_1_method_12_code 1 = .ok (.getfield 19, 3) := by decide +kernel
theorem d_TM_has_4 : decode prog_1_method_12_code 4 = .ok (.iload_n 1, 1) := by decide +kernel
theorem d_TM_has_5 : decode prog_1_method_12_code 5 = .ok (.invokevirtual 73, 3) := by decide +kernel
theorem d_TM_has_8 : decode prog_1_method_12_code 8 = .ok (.ifCond .eq 22, 3) := by decide +kernel
theorem d_TM_has_11 : decode prog_1_method_12_code 11 = .ok (.iload_n 2, 1) := by decide +kernel
theorem d_TM_has_12 : decode prog_1_method_12_code 12 = .ok (.invokestatic 81, 3) := by decide +kernel
theorem d_TM_has_15 : decode prog_1_method_12_code 15 = .ok (.ifCond .eq 15, 3) := by decide +kernel
theorem d_TM_has_18 : decode prog_1_method_12_code 18 = .ok (.aload_n 0, 1) := by decide +kernel
theorem d_TM_has_19 : decode prog_1_method_12_code 19 = .ok (.getfield 19, 3) := by decide +kernel
theorem d_TM_has_22 : decode prog_1_method_12_code 22 = .ok (.iload_n 1, 1) := by decide +kernel
theorem d_TM_has_23 : decode prog_1_method_12_code 23 = .ok (.iload_n 2, 1) := by decide +kernel
theorem d_TM_has_24 : decode prog_1_method_12_code 24 = .ok (.invokevirtual 92, 3) := by decide +kernel
theorem d_TM_has_27 : decode prog_1_method_12_code 27 = .ok (.goto 4, 3) := by decide +kernel
theorem d_TM_has_30 : decode prog_1_method_12_code 30 = .ok (.iconst (-1), 1) := by decide +kernel
theorem d_TM_has_31 : decode prog_1_method_12_code 31 = .ok (.istore 4, 2) := by decide +kernel
theorem d_TM_has_33 : decode prog_1_method_12_code 33 = .ok (.iload 4, 2) := by decide +kernel
theorem d_TM_has_35 : decode prog_1_method_12_code 35 = .ok (.iconst (-1), 1) := by decide +kernel
theorem d_TM_has_36 : decode prog_1_method_12_code 36 = .ok (.if_icmp .eq 12, 3) := by decide +kernel
theorem d_TM_has_39 : decode prog_1_method_12_code 39 = .ok (.iload_n 3, 1) := by decide +kernel
theorem d_TM_has_40 : decode prog_1_method_12_code 40 = .ok (.ifCond .lt 8, 3) := by decide +kernel
theorem d_TM_has_43 : decode prog_1_method_12_code 43 = .ok (.iload_n 3, 1) := by decide +kernel
theorem d_TM_has_44 : decode prog_1_method_12_code 44 = .ok (.iconst 2, 1) := by decide +kernel
theorem d_TM_has_45 : decode prog_1_method_12_code 45 = .ok (.if_icmp .le 13, 3) := by decide +kernel
theorem d_TM_has_48 : decode prog_1_method_12_code 48 = .ok (.new 76, 3) := by decide +kernel
theorem d_TM_has_51 : decode prog_1_method_12_code 51 = .ok (.dup, 1) := by decide +kernel
theorem d_TM_has_52 : decode prog_1_method_12_code 52 = .ok (.ldc 177, 2) := by decide +kernel
theorem d_TM_has_54 : decode prog_1_method_12_code 54 = .ok (.invokespecial 80, 3) := by decide +kernel
theorem d_TM_has_57 : decode prog_1_method_12_code 57 = .ok (.athrow, 1) := by decide +kernel
theorem d_TM_has_58 : decode prog_1_method_12_code 58 = .ok (.iload_n 3, 1) := by decide +kernel
theorem d_TM_has_59 : decode prog_1_method_12_code 59 = .ok (.ifCond .ne 16, 3) := by decide +kernel
theorem d_TM_has_62 : decode prog_1_method_12_code 62 = .ok (.aload_n 0, 1) := by decide +kernel
theorem d_TM_has_63 : decode prog_1_method_12_code 63 = .ok (.getfield 19, 3) := by decide +kernel
theorem d_TM_has_66 : decode prog_1_method_12_code 66 = .ok (.iload 4, 2) := by decide +kernel
theorem d_TM_has_68 : decode prog_1_method_12_code 68 = .ok (.iload_n 2, 1) := by decide +kernel
theorem d_TM_has_69 : decode prog_1_method_12_code 69 = .ok (.invokevirtual 96, 3) := by decide +kernel
theorem d_TM_has_72 : decode prog_1_method_12_code 72 = .ok (.goto 23, 3) := by decide +kernel
theorem d_TM_has_75 : decode prog_1_method_12_code 75 = .ok (.iload_n 3, 1) := by decide +kernel
theorem d_TM_has_76 : decode prog_1_method_12_code 76 = .ok (.iconst 1, 1) := by decide +kernel
theorem d_TM_has_77 : decode prog_1_method_12_code 77 = .ok (.if_icmp .ne 16, 3) := by decide +kernel
theorem d_TM_has_80 : decode prog_1_method_12_code 80 = .ok (.aload_n 0, 1) := by decide +kernel
theorem d_TM_has_81 : decode prog_1_method_12_code 81 = .ok (.getfield 19, 3) := by decide +kernel
theorem d_TM_has_84 : decode prog_1_method_12_code 84 = .ok (.iload 4, 2) := by decide +kernel
theorem d_TM_has_86 : decode prog_1_method_12_code 86 = .ok (.iload_n 2, 1) := by decide +kernel
theorem d_TM_has_87 : decode prog_1_method_12_code 87 = .ok (.invokevirtual 99, 3) := by decide +kernel
theorem d_TM_has_90 : decode prog_1_method_12_code 90 = .ok (.goto 5, 3) := by decide +kernel
theorem d_TM_has_93 : decode prog_1_method_12_code 93 = .ok (.iload 4, 2) := by decide +kernel
theorem d_TM_has_95 : decode prog_1_method_12_code 95 = .ok (.ireturn, 1) := by decide +kernel
theorem d_TM_isOf_0 : decode prog_1_method_13_code 0 = .ok (.aload_n 0, 1) := by decide +kernel
theorem d_TM_isOf_1 : decode prog_1_method_13_code 1 = .ok (.getfield 19, 3) := by decide +kernel
theorem d_TM_isOf_4 : decode prog_1_method_13_code 4 = .ok (.iload_n 1, 1) := by decide +kernel
theorem d_TM_isOf_5 : decode prog_1_method_13_code 5 = .ok (.iload_n 2, 1) := by decide +kernel
theorem d_TM_isOf_6 : decode prog_1_method_13_code 6 = .ok (.invokevirtual 179, 3) := by decide +kernel
theorem d_TM_isOf_9 : decode prog_1_method_13_code 9 = .ok (.ireturn, 1) := by decide +kernel
theorem d_TM_isProperty_0 : decode prog_1_method_14_code 0 = .ok (.iload_n 0, 1) := by decide +kernel
theorem d_TM_isProperty_1 : decode prog_1_method_14_code 1 = .ok (.ifCond .lt 13, 3) := by decide +kernel
theorem d_TM_isProperty_4 : decode prog_1_method_14_code 4 = .ok (.iload_n 0, 1) := by decide +kernel
theorem d_TM_isProperty_5 : decode prog_1_method_14_code 5 = .ok (.bipush 8, 2) := by decide +kernel
theorem d_TM_isProperty_7 : decode prog_1_method_14_code 7 = .ok (.if_icmp .ge 7, 3) := by decide +kernel
theorem d_TM_isProperty_10 : decode prog_1_method_14_code 10 = .ok (.iconst 1, 1) := by decide +kernel
theorem d_TM_isProperty_11 : decode prog_1_method_14_code 11 = .ok (.goto 4, 3) := by decide +kernel
theorem d_TM_isProperty_14 : decode prog_1_method_14_code 14 = .ok (.iconst 0, 1) := by decide +kernel
theorem d_TM_isProperty_15 : decode prog_1_method_14_code 15 = .ok (.ireturn, 1) := by decide +kernel
theorem d_TM_object_0 : decode prog_1_method_3_code 0 = .ok (.iload_n 1, 1) := by decide +kernel
theorem d_TM_object_1 : decode prog_1_method_3_code 1 = .ok (.iconst (-1), 1) := by decide +kernel
theorem d_TM_object_2 : decode prog_1_method_3_code 2 = .ok (.if_icmp .ne 7, 3) := by decide +kernel
theorem d_TM_object_5 : decode prog_1_method_3_code 5 = .ok (.iconst 0, 1) := by decide +kernel
theorem d_TM_object_6 : decode prog_1_method_3_code 6 = .ok (.goto 22, 3) := by decide +kernel
theorem d_TM_object_9 : decode prog_1_method_3_code 9 = .ok (.iload_n 2, 1) := by decide +kernel
theorem d_TM_object_10 : decode prog_1_method_3_code 10 = .ok (.iconst (-1), 1) := by decide +kernel
theorem d_TM_object_11 : decode prog_1_method_3_code 11 = .ok (.if_icmp .ne 7, 3) := by decide +kernel
theorem d_TM_object_14 : decode prog_1_method_3_code 14 = .ok (.iconst 1, 1) := by decide +kernel
theorem d_TM_object_15 : decode prog_1_method_3_code 15 = .ok (.goto 13, 3) := by decide +kernel
theorem d_TM_object_18 : decode prog_1_method_3_code 18 = .ok (.iload_n 3, 1) := by decide +kernel
theorem d_TM_object_19 : decode prog_1_method_3_code 19 = .ok (.iconst (-1), 1) := by decide +kernel
theorem d_TM_object_20 : decode prog_1_method_3_code 20 = .ok (.if_icmp .ne 7, 3) := by decide +kernel
theorem d_TM_object_23 : decode prog_1_method_3_code 23 = .ok (.iconst 2, 1) := by decide +kernel
theorem d_TM_object_24 : decode prog_1_method_3_code 24 = .ok (.goto 4, 3) := by decide +kernel
theorem d_TM_object_27 : decode prog_1_method_3_code 27 = .ok (.iconst 3, 1) := by decide +kernel
theorem d_TM_object_28 : decode prog_1_method_3_code 28 = .ok (.istore 4, 2) := by decide +kernel
theorem d_TM_object_30 : decode prog_1_method_3_code 30 = .ok (.iload 4, 2) := by decide +kernel
theorem d_TM_object_32 : decode prog_1_method_3_code 32 = .ok (.ifCond .le 14, 3) := by decide +kernel
theorem d_TM_object_35 : decode prog_1_method_3_code 35 = .ok (.aload_n 0, 1) := by decide +kernel
theorem d_TM_object_36 : decode prog_1_method_3_code 36 = .ok (.getfield 19, 3) := by decide +kernel
theorem d_TM_object_39 : decode prog_1_method_3_code 39 = .ok (.iload_n 1, 1) := by decide +kernel
theorem d_TM_object_40 : decode prog_1_method_3_code 40 = .ok (.invokevirtual 43, 3) := by decide +kernel
theorem d_TM_object_43 : decode prog_1_method_3_code 43 = .ok (.ifCond .eq 37, 3) := by decide +kernel
theorem d_TM_object_46 : decode prog_1_method_3_code 46 = .ok (.iload 4, 2) := by decide +kernel
theorem d_TM_object_48 : decode prog_1_method_3_code 48 = .ok (.iconst 1, 1) := by decide +kernel
theorem d_TM_object_49 : decode prog_1_method_3_code 49 = .ok (.if_icmp .le 14, 3) := by decide +kernel
theorem d_TM_object_52 : decode prog_1_method_3_code 52 = .ok (.aload_n 0, 1) := by decide +kernel
theorem d_TM_object_53 : decode prog_1_method_3_code 53 = .ok (.getfield 19, 3) := by decide +kernel
theorem d_TM_object_56 : decode prog_1_method_3_code 56 = .ok (.iload_n 2, 1) := by decide +kernel
theorem d_TM_object_57 : decode prog_1_method_3_code 57 = .ok (.invokevirtual 43, 3) := by decide +kernel
theorem d_TM_object_60 : decode prog_1_method_3_code 60 = .ok (.ifCond .eq 20, 3) := by decide +kernel
theorem d_TM_object_63 : decode prog_1_method_3_code 63 = .ok (.iload 4, 2) := by decide +kernel
theorem d_TM_object_65 : decode prog_1_method_3_code 65 = .ok (.iconst 2, 1) := by decide +kernel
theorem d_TM_object_66 : decode prog_1_method_3_code 66 = .ok (.if_icmp .le 24, 3) := by decide +kernel
theorem d_TM_object_69 : decode prog_1_method_3_code 69 = .ok (.aload_n 0, 1) := by decide +kernel
theorem d_TM_object_70 : decode prog_1_method_3_code 70 = .ok (.getfield 19, 3) := by decide +kernel
theorem d_TM_object_73 : decode prog_1_method_3_code 73 = .ok (.iload_n 3, 1) := by decide +kernel
theorem d_TM_object_74 : decode prog_1_method_3_code 74 = .ok (.invokevirtual 43, 3) := by decide +kernel
theorem d_TM_object_77 : decode prog_1_method_3_code 77 = .ok (.ifCond .ne 13, 3) := by decide +kernel
theorem d_TM_object_80 : decode prog_1_method_3_code 80 = .ok (.new 47, 3) := by decide +kernel
theorem d_TM_object_83 : decode prog_1_method_3_code 83 = .ok (.dup, 1) := by decide +kernel
theorem d_TM_object_84 : decode prog_1_method_3_code 84 = .ok (.ldc 49, 2) := by decide +kernel
theorem d_TM_object_86 : decode prog_1_method_3_code 86 = .ok (.invokespecial 51, 3) := by decide +kernel
theorem d_TM_object_89 : decode prog_1_method_3_code 89 = .ok (.athrow, 1) := by decide +kernel
theorem d_TM_object_90 : decode prog_1_method_3_code 90 = .ok (.aload_n 0, 1) := by decide +kernel
theorem d_TM_object_91 : decode prog_1_method_3_code 91 = .ok (.getfield 19, 3) := by decide +kernel
theorem d_TM_object_94 : decode prog_1_method_3_code 94 = .ok (.getfield 54, 3) := by decide +kernel
theorem d_TM_object_97 : decode prog_1_method_3_code 97 = .ok (.bipush 16, 2) := by decide +kernel
theorem d_TM_object_99 : decode prog_1_method_3_code 99 = .ok (.if_icmp .eq 13, 3) := by decide +kernel
theorem d_TM_object_102 : decode prog_1_method_3_code 102 = .ok (.aload_n 0, 1) := by decide +kernel
theorem d_TM_object_103 : decode prog_1_method_3_code 103 = .ok (.getfield 35, 3) := by decide +kernel
theorem d_TM_object_106 : decode prog_1_method_3_code 106 = .ok (.getfield 58, 3) := by decide +kernel
theorem d_TM_object_109 : decode prog_1_method_3_code 109 = .ok (.ifCond .ne 13, 3) := by decide +kernel
theorem d_TM_object_112 : decode prog_1_method_3_code 112 = .ok (.new 61, 3) := by decide +kernel
theorem d_TM_object_115 : decode prog_1_method_3_code 115 = .ok (.dup, 1) := by decide +kernel
theorem d_TM_object_116 : decode prog_1_method_3_code 116 = .ok (.ldc 63, 2) := by decide +kernel
theorem d_TM_object_118 : decode prog_1_method_3_code 118 = .ok (.invokespecial 65, 3) := by decide +kernel
theorem d_TM_object_121 : decode prog_1_method_3_code 121 = .ok (.athrow, 1) := by decide +kernel
theorem d_TM_object_122 : decode prog_1_method_3_code 122 = .ok (.aload_n 0, 1) := by decide +kernel
theorem d_TM_object_123 : decode prog_1_method_3_code 123 = .ok (.getfield 26, 3) := by decide +kernel
theorem d_TM_object_126 : decode prog_1_method_3_code 126 = .ok (.invokevirtual 66, 3) := by decide +kernel
theorem d_TM_object_129 : decode prog_1_method_3_code 129 = .ok (.aload_n 0, 1) := by decide +kernel
theorem d_TM_object_130 : decode prog_1_method_3_code 130 = .ok (.getfield 19, 3) := by decide +kernel
theorem d_TM_object_133 : decode prog_1_method_3_code 133 = .ok (.iload 4, 2) := by decide +kernel
theorem d_TM_object_135 : decode prog_1_method_3_code 135 = .ok (.iload_n 1, 1) := by decide +kernel
theorem d_TM_object_136 : decode prog_1_method_3_code 136 = .ok (.iload_n 2, 1) := by decide +kernel
theorem d_TM_object_137 : decode prog_1_method_3_code 137 = .ok (.iload_n 3, 1) := by decide +kernel
theorem d_TM_object_138 : decode prog_1_method_3_code 138 = .ok (.invokevirtual 69, 3) := by decide +kernel
theorem d_TM_object_141 : decode prog_1_method_3_code 141 = .ok (.ireturn, 1) := by decide +kernel
theorem d_TM_part_0 : decode prog_1_method_15_code 0 = .ok (.iload_n 1, 1) := by decide +kernel
theorem d_TM_part_1 : decode prog_1_method_15_code 1 = .ok (.ifCond .lt 20, 3) := by decide +kernel
theorem d_TM_part_4 : decode prog_1_method_15_code 4 = .ok (.iload_n 1, 1) := by decide +kernel
theorem d_TM_part_5 : decode prog_1_method_15_code 5 = .ok (.aload_n 0, 1) := by decide +kernel
theorem d_TM_part_6 : decode prog_1_method_15_code 6 = .ok (.getfield 168, 3) := by decide +kernel
theorem d_TM_part_9 : decode prog_1_method_15_code 9 = .ok (.if_icmp .ge 12, 3) := by decide +kernel
theorem d_TM_part_12 : decode prog_1_method_15_code 12 = .ok (.iload_n 2, 1) := by decide +kernel
theorem d_TM_part_13 : decode prog_1_method_15_code 13 = .ok (.ifCond .lt 8, 3) := by decide +kernel
theorem d_TM_part_16 : decode prog_1_method_15_code 16 = .ok (.iload_n 2, 1) := by decide +kernel
theorem d_TM_part_17 : decode prog_1_method_15_code 17 = .ok (.iconst 1, 1) := by decide +kernel
theorem d_TM_part_18 : decode prog_1_method_15_code 18 = .ok (.if_icmp .le 13, 3) := by decide +kernel
theorem d_TM_part_21 : decode prog_1_method_15_code 21 = .ok (.new 76, 3) := by decide +kernel
theorem d_TM_part_24 : decode prog_1_method_15_code 24 = .ok (.dup, 1) := by decide +kernel
theorem d_TM_part_25 : decode prog_1_method_15_code 25 = .ok (.ldc 182, 2) := by decide +kernel
theorem d_TM_part_27 : decode prog_1_method_15_code 27 = .ok (.invokespecial 80, 3) := by decide +kernel
theorem d_TM_part_30 : decode prog_1_method_15_code 30 = .ok (.athrow, 1) := by decide +kernel
theorem d_TM_part_31 : decode prog_1_method_15_code 31 = .ok (.iload_n 2, 1) := by decide +kernel
theorem d_TM_part_32 : decode prog_1_method_15_code 32 = .ok (.ifCond .ne 12, 3) := by decide +kernel
theorem d_TM_part_35 : decode prog_1_method_15_code 35 = .ok (.aload_n 0, 1) := by decide +kernel
theorem d_TM_part_36 : decode prog_1_method_15_code 36 = .ok (.getfield 184, 3) := by decide +kernel
theorem d_TM_part_39 : decode prog_1_method_15_code 39 = .ok (.iload_n 1, 1) := by decide +kernel
theorem d_TM_part_40 : decode prog_1_method_15_code 40 = .ok (.iaload, 1) := by decide +kernel
theorem d_TM_part_41 : decode prog_1_method_15_code 41 = .ok (.goto 9, 3) := by decide +kernel
theorem d_TM_part_44 : decode prog_1_method_15_code 44 = .ok (.aload_n 0, 1) := by decide +kernel
theorem d_TM_part_45 : decode prog_1_method_15_code 45 = .ok (.getfield 188, 3) := by decide +kernel
theorem d_TM_part_48 : decode prog_1_method_15_code 48 = .ok (.iload_n 1, 1) := by decide +kernel
theorem d_TM_part_49 : decode prog_1_method_15_code 49 = .ok (.iaload, 1) := by decide +kernel
theorem d_TM_part_50 : decode prog_1_method_15_code 50 = .ok (.ireturn, 1) := by decide +kernel
theorem d_TM_property_0 : decode prog_1_method_4_code 0 = .ok (.aload_n 0, 1) := by decide +kernel
theorem d_TM_property_1 : decode prog_1_method_4_code 1 = .ok (.getfield 19, 3) := by decide +kernel
theorem d_TM_property_4 : decode prog_1_method_4_code 4 = .ok (.iload_n 1, 1) := by decide +kernel
theorem d_TM_property_5 : decode prog_1_method_4_code 5 = .ok (.invokevirtual 73, 3) := by decide +kernel
theorem d_TM_property_8 : decode prog_1_method_4_code 8 = .ok (.ifCond .ne 13, 3) := by decide +kernel
theorem d_TM_property_11 : decode prog_1_method_4_code 11 = .ok (.new 76, 3) := by decide +kernel
theorem d_TM_property_14 : decode prog_1_method_4_code 14 = .ok (.dup, 1) := by decide +kernel
theorem d_TM_property_15 : decode prog_1_method_4_code 15 = .ok (.ldc 78, 2) := by decide +kernel
theorem d_TM_property_17 : decode prog_1_method_4_code 17 = .ok (.invokespecial 80, 3) := by decide +kernel
theorem d_TM_property_20 : decode prog_1_method_4_code 20 = .ok (.athrow, 1) := by decide +kernel
theorem d_TM_property_21 : decode prog_1_method_4_code 21 = .ok (.iload_n 2, 1) := by decide +kernel
theorem d_TM_property_22 : decode prog_1_method_4_code 22 = .ok (.invokestatic 81, 3) := by decide +kernel
theorem d_TM_property_25 : decode prog_1_method_4_code 25 = .ok (.ifCond .eq 48, 3) := by decide +kernel
theorem d_TM_property_28 : decode prog_1_method_4_code 28 = .ok (.iload_n 3, 1) := by decide +kernel
theorem d_TM_property_29 : decode prog_1_method_4_code 29 = .ok (.iconst (-1), 1) := by decide +kernel
theorem d_TM_property_30 : decode prog_1_method_4_code 30 = .ok (.if_icmp .lt 43, 3) := by decide +kernel
theorem d_TM_property_33 : decode prog_1_method_4_code 33 = .ok (.iload_n 3, 1) := by decide +kernel
theorem d_TM_property_34 : decode prog_1_method_4_code 34 = .ok (.iconst 4, 1) := by decide +kernel
theorem d_TM_property_35 : decode prog_1_method_4_code 35 = .ok (.if_icmp .gt 38, 3) := by decide +kernel
theorem d_TM_property_38 : decode prog_1_method_4_code 38 = .ok (.iload_n 3, 1) := by decide +kernel
theorem d_TM_property_39 : decode prog_1_method_4_code 39 = .ok (.iconst 3, 1) := by decide +kernel
theorem d_TM_property_40 : decode prog_1_method_4_code 40 = .ok (.if_icmp .ne 15, 3) := by decide +kernel
theorem d_TM_property_43 : decode prog_1_method_4_code 43 = .ok (.aload_n 0, 1) := by decide +kernel
theorem d_TM_property_44 : decode prog_1_method_4_code 44 = .ok (.getfield 19, 3) := by decide +kernel
theorem d_TM_property_47 : decode prog_1_method_4_code 47 = .ok (.iload 4, 2) := by decide +kernel
theorem d_TM_property_49 : decode prog_1_method_4_code 49 = .ok (.invokevirtual 73, 3) := by decide +kernel
theorem d_TM_property_52 : decode prog_1_method_4_code 52 = .ok (.ifCond .eq 21, 3) := by decide +kernel
theorem d_TM_property_55 : decode prog_1_method_4_code 55 = .ok (.iload_n 3, 1) := by decide +kernel
theorem d_TM_property_56 : decode prog_1_method_4_code 56 = .ok (.iconst 4, 1) := by decide +kernel
theorem d_TM_property_57 : decode prog_1_method_4_code 57 = .ok (.if_icmp .ne 26, 3) := by decide +kernel
theorem d_TM_property_60 : decode prog_1_method_4_code 60 = .ok (.iload 4, 2) := by decide +kernel
theorem d_TM_property_62 : decode prog_1_method_4_code 62 = .ok (.ifCond .lt 11, 3) := by decide +kernel
theorem d_TM_property_65 : decode prog_1_method_4_code 65 = .ok (.iload 4, 2) := by decide +kernel
theorem d_TM_property_67 : decode prog_1_method_4_code 67 = .ok (.sipush 300, 3) := by decide +kernel
theorem d_TM_property_70 : decode prog_1_method_4_code 70 = .ok (.if_icmp .lt 13, 3) := by decide +kernel
theorem d_TM_property_73 : decode prog_1_method_4_code 73 = .ok (.new 47, 3) := by decide +kernel
theorem d_TM_property_76 : decode prog_1_method_4_code 76 = .ok (.dup, 1) := by decide +kernel
theorem d_TM_property_77 : decode prog_1_method_4_code 77 = .ok (.ldc 84, 2) := by decide +kernel
theorem d_TM_property_79 : decode prog_1_method_4_code 79 = .ok (.invokespecial 51, 3) := by decide +kernel
theorem d_TM_property_82 : decode prog_1_method_4_code 82 = .ok (.athrow, 1) := by decide +kernel
theorem d_TM_property_83 : decode prog_1_method_4_code 83 = .ok (.aload_n 0, 1) := by decide +kernel
theorem d_TM_property_84 : decode prog_1_method_4_code 84 = .ok (.getfield 35, 3) := by decide +kernel
theorem d_TM_property_87 : decode prog_1_method_4_code 87 = .ok (.getfield 58, 3) := by decide +kernel
theorem d_TM_property_90 : decode prog_1_method_4_code 90 = .ok (.ifCond .ne 13, 3) := by decide +kernel
theorem d_TM_property_93 : decode prog_1_method_4_code 93 = .ok (.new 61, 3) := by decide +kernel
theorem d_TM_property_96 : decode prog_1_method_4_code 96 = .ok (.dup, 1) := by decide +kernel
theorem d_TM_property_97 : decode prog_1_method_4_code 97 = .ok (.ldc 86, 2) := by decide +kernel
theorem d_TM_property_99 : decode prog_1_method_4_code 99 = .ok (.invokespecial 65, 3) := by decide +kernel
theorem d_TM_property_102 : decode prog_1_method_4_code 102 = .ok (.athrow, 1) := by decide +kernel
theorem d_TM_property_103 : decode prog_1_method_4_code 103 = .ok (.aload_n 0, 1) := by decide +kernel
theorem d_TM_property_104 : decode prog_1_method_4_code 104 = .ok (.getfield 19, 3) := by decide +kernel
theorem d_TM_property_107 : decode prog_1_method_4_code 107 = .ok (.iload_n 1, 1) := by decide +kernel
theorem d_TM_property_108 : decode prog_1_method_4_code 108 = .ok (.iload_n 2, 1) := by decide +kernel
theorem d_TM_property_109 : decode prog_1_method_4_code 109 = .ok (.iload_n 3, 1) := by decide +kernel
theorem d_TM_property_110 : decode prog_1_method_4_code 110 = .ok (.iload_n 3, 1) := by decide +kernel
theorem d_TM_property_111 : decode prog_1_method_4_code 111 = .ok (.ifCond .ne 7, 3) := by decide +kernel
theorem d_TM_property_114 : decode prog_1_method_4_code 114 = .ok (.iconst 0, 1) := by decide +kernel
theorem d_TM_property_115 : decode prog_1_method_4_code 115 = .ok (.goto 14, 3) := by decide +kernel
theorem d_TM_property_118 : decode prog_1_method_4_code 118 = .ok (.iload_n 3, 1) := by decide +kernel
theorem d_TM_property_119 : decode prog_1_method_4_code 119 = .ok (.iconst 1, 1) := by decide +kernel
theorem d_TM_property_120 : decode prog_1_method_4_code 120 = .ok (.if_icmp .ne 7, 3) := by decide +kernel
theorem d_TM_property_123 : decode prog_1_method_4_code 123 = .ok (.iconst 1, 1) := by decide +kernel
theorem d_TM_property_124 : decode prog_1_method_4_code 124 = .ok (.goto 5, 3) := by decide +kernel
theorem d_TM_property_127 : decode prog_1_method_4_code 127 = .ok (.iload 4, 2) := by decide +kernel
theorem d_TM_property_129 : decode prog_1_method_4_code 129 = .ok (.invokevirtual 88, 3) := by decide +kernel
theorem d_TM_property_132 : decode prog_1_method_4_code 132 = .ok (.return_, 1) := by decide +kernel
theorem d_TM_run_0 : decode prog_1_method_6_code 0 = .ok (.iload_n 1, 1) := by decide +kernel
theorem d_TM_run_1 : decode prog_1_method_6_code 1 = .ok (.sipush 3000, 3) := by decide +kernel
theorem d_TM_run_4 : decode prog_1_method_6_code 4 = .ok (.invokestatic 111, 3) := by decide +kernel
theorem d_TM_run_7 : decode prog_1_method_6_code 7 = .ok (.istore_n 2, 1) := by decide +kernel
theorem d_TM_run_8 : decode prog_1_method_6_code 8 = .ok (.iconst 0, 1) := by decide +kernel
theorem d_TM_run_9 : decode prog_1_method_6_code 9 = .ok (.istore_n 3, 1) := by decide +kernel
theorem d_TM_run_10 : decode prog_1_method_6_code 10 = .ok (.iload_n 3, 1) := by decide +kernel
theorem d_TM_run_11 : decode prog_1_method_6_code 11 = .ok (.iload_n 2, 1) := by decide +kernel
theorem d_TM_run_12 : decode prog_1_method_6_code 12 = .ok (.if_icmp .ge 37, 3) := by decide +kernel
theorem d_TM_run_15 : decode prog_1_method_6_code 15 = .ok (.aload_n 0, 1) := by decide +kernel
theorem d_TM_run_16 : decode prog_1_method_6_code 16 = .ok (.getfield 35, 3) := by decide +kernel
theorem d_TM_run_19 : decode prog_1_method_6_code 19 = .ok (.getfield 58, 3) := by decide +kernel
theorem d_TM_run_22 : decode prog_1_method_6_code 22 = .ok (.ifCond .ne 27, 3) := by decide +kernel
theorem d_TM_run_25 : decode prog_1_method_6_code 25 = .ok (.aload_n 0, 1) := by decide +kernel
theorem d_TM_run_26 : decode prog_1_method_6_code 26 = .ok (.getfield 35, 3) := by decide +kernel
theorem d_TM_run_29 : decode prog_1_method_6_code 29 = .ok (.invokevirtual 116, 3) := by decide +kernel
theorem d_TM_run_32 : decode prog_1_method_6_code 32 = .ok (.ifCond .ne 11, 3) := by decide +kernel
theorem d_TM_run_35 : decode prog_1_method_6_code 35 = .ok (.aload_n 0, 1) := by decide +kernel
theorem d_TM_run_36 : decode prog_1_method_6_code 36 = .ok (.getfield 35, 3) := by decide +kernel
theorem d_TM_run_39 : decode prog_1_method_6_code 39 = .ok (.iconst 3, 1) := by decide +kernel
theorem d_TM_run_40 : decode prog_1_method_6_code 40 = .ok (.invokevirtual 120, 3) := by decide +kernel
theorem d_TM_run_43 : decode prog_1_method_6_code 43 = .ok (.iinc 3 1, 3) := by decide +kernel
theorem d_TM_run_46 : decode prog_1_method_6_code 46 = .ok (.goto (-36), 3) := by decide +kernel
theorem d_TM_run_49 : decode prog_1_method_6_code 49 = .ok (.aload_n 0, 1) := by decide +kernel
theorem d_TM_run_50 : decode prog_1_method_6_code 50 = .ok (.getfield 35, 3) := by decide +kernel
theorem d_TM_run_53 : decode prog_1_method_6_code 53 = .ok (.getfield 58, 3) := by decide +kernel
theorem d_TM_run_56 : decode prog_1_method_6_code 56 = .ok (.ireturn, 1) := by decide +kernel
theorem d_TM_said_0 : decode prog_1_method_11_code 0 = .ok (.iload_n 1, 1) := by decide +kernel
theorem d_TM_said_1 : decode prog_1_method_11_code 1 = .ok (.iconst (-1), 1) := by decide +kernel
theorem d_TM_said_2 : decode prog_1_method_11_code 2 = .ok (.if_icmp .ne 18, 3) := by decide +kernel
theorem d_TM_said_5 : decode prog_1_method_11_code 5 = .ok (.aload_n 0, 1) := by decide +kernel
theorem d_TM_said_6 : decode prog_1_method_11_code 6 = .ok (.getfield 35, 3) := by decide +kernel
theorem d_TM_said_9 : decode prog_1_method_11_code 9 = .ok (.getfield 174, 3) := by decide +kernel
theorem d_TM_said_12 : decode prog_1_method_11_code 12 = .ok (.iconst 0, 1) := by decide +kernel
theorem d_TM_said_13 : decode prog_1_method_11_code 13 = .ok (.iload_n 2, 1) := by decide +kernel
theorem d_TM_said_14 : decode prog_1_method_11_code 14 = .ok (.invokestatic 138, 3) := by decide +kernel
theorem d_TM_said_17 : decode prog_1_method_11_code 17 = .ok (.goto 15, 3) := by decide +kernel
theorem d_TM_said_20 : decode prog_1_method_11_code 20 = .ok (.aload_n 0, 1) := by decide +kernel
theorem d_TM_said_21 : decode prog_1_method_11_code 21 = .ok (.getfield 35, 3) := by decide +kernel
theorem d_TM_said_24 : decode prog_1_method_11_code 24 = .ok (.getfield 165, 3) := by decide +kernel
theorem d_TM_said_27 : decode prog_1_method_11_code 27 = .ok (.iload_n 1, 1) := by decide +kernel
theorem d_TM_said_28 : decode prog_1_method_11_code 28 = .ok (.iload_n 2, 1) := by decide +kernel
theorem d_TM_said_29 : decode prog_1_method_11_code 29 = .ok (.invokestatic 138, 3) := by decide +kernel
theorem d_TM_said_32 : decode prog_1_method_11_code 32 = .ok (.ireturn, 1) := by decide +kernel
theorem d_TM_show_0 : decode prog_1_method_10_code 0 = .ok (.iload_n 1, 1) := by decide +kernel
theorem d_TM_show_1 : decode prog_1_method_10_code 1 = .ok (.iconst 1, 1) := by decide +kernel
theorem d_TM_show_2 : decode prog_1_method_10_code 2 = .ok (.if_icmp .eq 8, 3) := by decide +kernel
theorem d_TM_show_5 : decode prog_1_method_10_code 5 = .ok (.iload_n 1, 1) := by decide +kernel
theorem d_TM_show_6 : decode prog_1_method_10_code 6 = .ok (.iconst 2, 1) := by decide +kernel
theorem d_TM_show_7 : decode prog_1_method_10_code 7 = .ok (.if_icmp .ne 23, 3) := by decide +kernel
theorem d_TM_show_10 : decode prog_1_method_10_code 10 = .ok (.aload_n 0, 1) := by decide +kernel
theorem d_TM_show_11 : decode prog_1_method_10_code 11 = .ok (.getfield 35, 3) := by decide +kernel
theorem d_TM_show_14 : decode prog_1_method_10_code 14 = .ok (.getfield 142, 3) := by decide +kernel
theorem d_TM_show_17 : decode prog_1_method_10_code 17 = .ok (.ifCond .ne 13, 3) := by decide +kernel
theorem d_TM_show_20 : decode prog_1_method_10_code 20 = .ok (.new 76, 3) := by decide +kernel
theorem d_TM_show_23 : decode prog_1_method_10_code 23 = .ok (.dup, 1) := by decide +kernel
theorem d_TM_show_24 : decode prog_1_method_10_code 24 = .ok (.ldc 145, 2) := by decide +kernel
theorem d_TM_show_26 : decode prog_1_method_10_code 26 = .ok (.invokespecial 80, 3) := by decide +kernel
theorem d_TM_show_29 : decode prog_1_method_10_code 29 = .ok (.athrow, 1) := by decide +kernel
theorem d_TM_show_30 : decode prog_1_method_10_code 30 = .ok (.iload_n 1, 1) := by decide +kernel
theorem d_TM_show_31 : decode prog_1_method_10_code 31 = .ok (.tableswitch 94 0 5 #[37, 45, 56, 67, 75, 83], 37) := by decide +kernel
theorem d_TM_show_68 : decode prog_1_method_10_code 68 = .ok (.aload_n 0, 1) := by decide +kernel
theorem d_TM_show_69 : decode prog_1_method_10_code 69 = .ok (.getfield 35, 3) := by decide +kernel
theorem d_TM_show_72 : decode prog_1_method_10_code 72 = .ok (.getfield 142, 3) := by decide +kernel
theorem d_TM_show_75 : decode prog_1_method_10_code 75 = .ok (.ireturn, 1) := by decide +kernel
theorem d_TM_show_76 : decode prog_1_method_10_code 76 = .ok (.aload_n 0, 1) := by decide +kernel
theorem d_TM_show_77 : decode prog_1_method_10_code 77 = .ok (.getfield 35, 3) := by decide +kernel
theorem d_TM_show_80 : decode prog_1_method_10_code 80 = .ok (.invokevirtual 147, 3) := by decide +kernel
theorem d_TM_show_83 : decode prog_1_method_10_code 83 = .ok (.getfield 151, 3) := by decide +kernel
theorem d_TM_show_86 : decode prog_1_method_10_code 86 = .ok (.ireturn, 1) := by decide +kernel
theorem d_TM_show_87 : decode prog_1_method_10_code 87 = .ok (.aload_n 0, 1) := by decide +kernel
theorem d_TM_show_88 : decode prog_1_method_10_code 88 = .ok (.getfield 35, 3) := by decide +kernel
theorem d_TM_show_91 : decode prog_1_method_10_code 91 = .ok (.invokevirtual 147, 3) := by decide +kernel
theorem d_TM_show_94 : decode prog_1_method_10_code 94 = .ok (.getfield 156, 3) := by decide +kernel
theorem d_TM_show_97 : decode prog_1_method_10_code 97 = .ok (.ireturn, 1) := by decide +kernel
theorem d_TM_show_98 : decode prog_1_method_10_code 98 = .ok (.aload_n 0, 1) := by decide +kernel
theorem d_TM_show_99 : decode prog_1_method_10_code 99 = .ok (.getfield 26, 3) := by decide +kernel
theorem d_TM_show_102 : decode prog_1_method_10_code 102 = .ok (.getfield 159, 3) := by decide +kernel
theorem d_TM_show_105 : decode prog_1_method_10_code 105 = .ok (.ireturn, 1) := by decide +kernel
theorem d_TM_show_106 : decode prog_1_method_10_code 106 = .ok (.aload_n 0, 1) := by decide +kernel
theorem d_TM_show_107 : decode prog_1_method_10_code 107 = .ok (.getfield 19, 3) := by decide +kernel
theorem d_TM_show_110 : decode prog_1_method_10_code 110 = .ok (.invokevirtual 162, 3) := by decide +kernel
theorem d_TM_show_113 : decode prog_1_method_10_code 113 = .ok (.ireturn, 1) := by decide +kernel
theorem d_TM_show_114 : decode prog_1_method_10_code 114 = .ok (.aload_n 0, 1) := by decide +kernel
theorem d_TM_show_115 : decode prog_1_method_10_code 115 = .ok (.getfield 35, 3) := by decide +kernel
theorem d_TM_show_118 : decode prog_1_method_10_code 118 = .ok (.getfield 165, 3) := by decide +kernel
theorem d_TM_show_121 : decode prog_1_method_10_code 121 = .ok (.getfield 168, 3) := by decide +kernel
theorem d_TM_show_124 : decode prog_1_method_10_code 124 = .ok (.ireturn, 1) := by decide +kernel
theorem d_TM_show_125 : decode prog_1_method_10_code 125 = .ok (.new 76, 3) := by decide +kernel
theorem d_TM_show_128 : decode prog_1_method_10_code 128 = .ok (.dup, 1) := by decide +kernel
theorem d_TM_show_129 : decode prog_1_method_10_code 129 = .ok (.ldc 172, 2) := by decide +kernel
theorem d_TM_show_131 : decode prog_1_method_10_code 131 = .ok (.invokespecial 80, 3) := by decide +kernel
theorem d_TM_show_134 : decode prog_1_method_10_code 134 = .ok (.athrow, 1) := by decide +kernel
theorem d_TM_stack_0 : decode prog_1_method_9_code 0 = .ok (.aload_n 0, 1) := by decide +kernel
theorem d_TM_stack_1 : decode prog_1_method_9_code 1 = .ok (.getfield 35, 3) := by decide +kernel
theorem d_TM_stack_4 : decode prog_1_method_9_code 4 = .ok (.getfield 134, 3) := by decide +kernel
theorem d_TM_stack_7 : decode prog_1_method_9_code 7 = .ok (.iload_n 1, 1) := by decide +kernel
theorem d_TM_stack_8 : decode prog_1_method_9_code 8 = .ok (.iload_n 2, 1) := by decide +kernel
theorem d_TM_stack_9 : decode prog_1_method_9_code 9 = .ok (.invokestatic 138, 3) := by decide +kernel
theorem d_TM_stack_12 : decode prog_1_method_9_code 12 = .ok (.ireturn, 1) := by decide +kernel
theorem d_TM_stop_0 : decode prog_1_method_7_code 0 = .ok (.aload_n 0, 1) := by decide +kernel
theorem d_TM_stop_1 : decode prog_1_method_7_code 1 = .ok (.getfield 35, 3) := by decide +kernel
theorem d_TM_stop_4 : decode prog_1_method_7_code 4 = .ok (.getfield 58, 3) := by decide +kernel
theorem d_TM_stop_7 : decode prog_1_method_7_code 7 = .ok (.ifCond .eq 5, 3) := by decide +kernel
theorem d_TM_stop_10 : decode prog_1_method_7_code 10 = .ok (.iconst 0, 1) := by decide +kernel
theorem d_TM_stop_11 : decode prog_1_method_7_code 11 = .ok (.ireturn, 1) := by decide +kernel
theorem d_TM_stop_12 : decode prog_1_method_7_code 12 = .ok (.aload_n 0, 1) := by decide +kernel
theorem d_TM_stop_13 : decode prog_1_method_7_code 13 = .ok (.getfield 35, 3) := by decide +kernel
theorem d_TM_stop_16 : decode prog_1_method_7_code 16 = .ok (.iconst 4, 1) := by decide +kernel
theorem d_TM_stop_17 : decode prog_1_method_7_code 17 = .ok (.invokevirtual 120, 3) := by decide +kernel
theorem d_TM_stop_20 : decode prog_1_method_7_code 20 = .ok (.iconst 1, 1) := by decide +kernel
theorem d_TM_stop_21 : decode prog_1_method_7_code 21 = .ok (.ireturn, 1) := by decide +kernel
theorem d_Frame_init_0 : decode prog_2_method_1_code 0 = .ok (.aload_n 0, 1) := by decide +kernel
theorem d_Frame_init_1 : decode prog_2_method_1_code 1 = .ok (.invokespecial 1, 3) := by decide +kernel
theorem d_Frame_init_4 : decode prog_2_method_1_code 4 = .ok (.return_, 1) := by decide +kernel
theorem d_History_init_0 : decode prog_3_method_1_code 0 = .ok (.aload_n 0, 1) := by decide +kernel
theorem d_History_init_1 : decode prog_3_method_1_code 1 = .ok (.invokespecial 3, 3) := by decide +kernel
theorem d_History_init_4 : decode prog_3_method_1_code 4 = .ok (.aload_n 0, 1) := by decide +kernel
theorem d_History_init_5 : decode prog_3_method_1_code 5 = .ok (.iconst 3, 1) := by decide +kernel
theorem d_History_init_6 : decode prog_3_method_1_code 6 = .ok (.anewarray 9, 3) := by decide +kernel
theorem d_History_init_9 : decode prog_3_method_1_code 9 = .ok (.putfield 11, 3) := by decide +kernel
theorem d_History_init_12 : decode prog_3_method_1_code 12 = .ok (.aload_n 0, 1) := by decide +kernel
theorem d_History_init_13 : decode prog_3_method_1_code 13 = .ok (.iconst 2, 1) := by decide +kernel
theorem d_History_init_14 : decode prog_3_method_1_code 14 = .ok (.anewarray 9, 3) := by decide +kernel
theorem d_History_init_17 : decode prog_3_method_1_code 17 = .ok (.putfield 17, 3) := by decide +kernel
theorem d_History_init_20 : decode prog_3_method_1_code 20 = .ok (.aload_n 0, 1) := by decide +kernel
theorem d_History_init_21 : decode prog_3_method_1_code 21 = .ok (.iconst 2, 1) := by decide +kernel
theorem d_History_init_22 : decode prog_3_method_1_code 22 = .ok (.newarray .boolean, 2) := by decide +kernel
theorem d_History_init_24 : decode prog_3_method_1_code 24 = .ok (.putfield 20, 3) := by decide +kernel
theorem d_History_init_27 : decode prog_3_method_1_code 27 = .ok (.iconst 0, 1) := by decide +kernel
theorem d_History_init_28 : decode prog_3_method_1_code 28 = .ok (.istore_n 1, 1) := by decide +kernel
theorem d_History_init_29 : decode prog_3_method_1_code 29 = .ok (.iload_n 1, 1) := by decide +kernel
theorem d_History_init_30 : decode prog_3_method_1_code 30 = .ok (.iconst 3, 1) := by decide +kernel
theorem d_History_init_31 : decode prog_3_method_1_code 31 = .ok (.if_icmp .ge 22, 3) := by decide +kernel
theorem d_History_init_34 : decode prog_3_method_1_code 34 = .ok (.aload_n 0, 1) := by decide +kernel
theorem d_History_init_35 : decode prog_3_method_1_code 35 = .ok (.getfield 11, 3) := by decide +kernel
theorem d_History_init_38 : decode prog_3_method_1_code 38 = .ok (.iload_n 1, 1) := by decide +kernel
theorem d_History_init_39 : decode prog_3_method_1_code 39 = .ok (.new 9, 3) := by decide +kernel
theorem d_History_init_42 : decode prog_3_method_1_code 42 = .ok (.dup, 1) := by decide +kernel
theorem d_History_init_43 : decode prog_3_method_1_code 43 = .ok (.invokespecial 24, 3) := by decide +kernel
theorem d_History_init_46 : decode prog_3_method_1_code 46 = .ok (.aastore, 1) := by decide +kernel
theorem d_History_init_47 : decode prog_3_method_1_code 47 = .ok (.iinc 1 1, 3) := by decide +kernel
theorem d_History_init_50 : decode prog_3_method_1_code 50 = .ok (.goto (-21), 3) := by decide +kernel
theorem d_History_init_53 : decode prog_3_method_1_code 53 = .ok (.iconst 0, 1) := by decide +kernel
theorem d_History_init_54 : decode prog_3_method_1_code 54 = .ok (.istore_n 1, 1) := by decide +kernel
theorem d_History_init_55 : decode prog_3_method_1_code 55 = .ok (.iload_n 1, 1) := by decide +kernel
theorem d_History_init_56 : decode prog_3_method_1_code 56 = .ok (.iconst 2, 1) := by decide +kernel
theorem d_History_init_57 : decode prog_3_method_1_code 57 = .ok (.if_icmp .ge 22, 3) := by decide +kernel
theorem d_History_init_60 : decode prog_3_method_1_code 60 = .ok (.aload_n 0, 1) := by decide +kernel
theorem d_History_init_61 : decode prog_3_method_1_code 61 = .ok (.getfield 17, 3) := by decide +kernel
theorem d_History_init_64 : decode prog_3_method_1_code 64 = .ok (.iload_n 1, 1) := by decide +kernel
theorem d_History_init_65 : decode prog_3_method_1_code 65 = .ok (.new 9, 3) := by decide +kernel
theorem d_History_init_68 : decode prog_3_method_1_code 68 = .ok (.dup, 1) := by decide +kernel
theorem d_History_init_69 : decode prog_3_method_1_code 69 = .ok (.invokespecial 24, 3) := by decide +kernel
theorem d_History_init_72 : decode prog_3_method_1_code 72 = .ok (.aastore, 1) := by decide +kernel
theorem d_History_init_73 : decode prog_3_method_1_code 73 = .ok (.iinc 1 1, 3) := by decide +kernel
theorem d_History_init_76 : decode prog_3_method_1_code 76 = .ok (.goto (-21), 3) := by decide +kernel
theorem d_History_init_79 : decode prog_3_method_1_code 79 = .ok (.return_, 1) := by decide +kernel
theorem d_History_bringBack_0 : decode prog_3_method_6_code 0 = .ok (.aload_n 0, 1) := by decide +kernel
theorem d_History_bringBack_1 : decode prog_3_method_6_code 1 = .ok (.getfield 20, 3) := by decide +kernel
theorem d_History_bringBack_4 : decode prog_3_method_6_code 4 = .ok (.iload_n 1, 1) := by decide +kernel
theorem d_History_bringBack_5 : decode prog_3_method_6_code 5 = .ok (.baload, 1) := by decide +kernel
theorem d_History_bringBack_6 : decode prog_3_method_6_code 6 = .ok (.ifCond .ne 5, 3) := by decide +kernel
theorem d_History_bringBack_9 : decode prog_3_method_6_code 9 = .ok (.iconst 0, 1) := by decide +kernel
theorem d_History_bringBack_10 : decode prog_3_method_6_code 10 = .ok (.ireturn, 1) := by decide +kernel
theorem d_History_bringBack_11 : decode prog_3_method_6_code 11 = .ok (.aload_n 2, 1) := by decide +kernel
theorem d_History_bringBack_12 : decode prog_3_method_6_code 12 = .ok (.aload_n 0, 1) := by decide +kernel
theorem d_History_bringBack_13 : decode prog_3_method_6_code 13 = .ok (.getfield 17, 3) := by decide +kernel
theorem d_History_bringBack_16 : decode prog_3_method_6_code 16 = .ok (.iload_n 1, 1) := by decide +kernel
theorem d_History_bringBack_17 : decode prog_3_method_6_code 17 = .ok (.aaload, 1) := by decide +kernel
theorem d_History_bringBack_18 : decode prog_3_method_6_code 18 = .ok (.invokevirtual 32, 3) := by decide +kernel
theorem d_History_bringBack_21 : decode prog_3_method_6_code 21 = .ok (.aload_n 0, 1) := by decide +kernel
theorem d_History_bringBack_22 : decode prog_3_method_6_code 22 = .ok (.iconst 0, 1) := by decide +kernel
theorem d_History_bringBack_23 : decode prog_3_method_6_code 23 = .ok (.putfield 25, 3) := by decide +kernel
theorem d_History_bringBack_26 : decode prog_3_method_6_code 26 = .ok (.iconst 1, 1) := by decide +kernel
theorem d_History_bringBack_27 : decode prog_3_method_6_code 27 = .ok (.ireturn, 1) := by decide +kernel
theorem d_History_dropOldest_0 : decode prog_3_method_3_code 0 = .ok (.aload_n 0, 1) := by decide +kernel
theorem d_History_dropOldest_1 : decode prog_3_method_3_code 1 = .ok (.getfield 11, 3) := by decide +kernel
theorem d_History_dropOldest_4 : decode prog_3_method_3_code 4 = .ok (.iconst 0, 1) := by decide +kernel
theorem d_History_dropOldest_5 : decode prog_3_method_3_code 5 = .ok (.aaload, 1) := by decide +kernel
theorem d_History_dropOldest_6 : decode prog_3_method_3_code 6 = .ok (.astore_n 1, 1) := by decide +kernel
theorem d_History_dropOldest_7 : decode prog_3_method_3_code 7 = .ok (.iconst 1, 1) := by decide +kernel
theorem d_History_dropOldest_8 : decode prog_3_method_3_code 8 = .ok (.istore_n 2, 1) := by decide +kernel
theorem d_History_dropOldest_9 : decode prog_3_method_3_code 9 = .ok (.iload_n 2, 1) := by decide +kernel
theorem d_History_dropOldest_10 : decode prog_3_method_3_code 10 = .ok (.iconst 3, 1) := by decide +kernel
theorem d_History_dropOldest_11 : decode prog_3_method_3_code 11 = .ok (.if_icmp .ge 23, 3) := by decide +kernel
theorem d_History_dropOldest_14 : decode prog_3_method_3_code 14 = .ok (.aload_n 0, 1) := by decide +kernel
theorem d_History_dropOldest_15 : decode prog_3_method_3_code 15 = .ok (.getfield 11, 3) := by decide +kernel
theorem d_History_dropOldest_18 : decode prog_3_method_3_code 18 = .ok (.iload_n 2, 1) := by decide +kernel
theorem d_History_dropOldest_19 : decode prog_3_method_3_code 19 = .ok (.iconst 1, 1) := by decide +kernel
theorem d_History_dropOldest_20 : decode prog_3_method_3_code 20 = .ok (.isub, 1) := by decide +kernel
theorem d_History_dropOldest_21 : decode prog_3_method_3_code 21 = .ok (.aload_n 0, 1) := by decide +kernel
theorem d_History_dropOldest_22 : decode prog_3_method_3_code 22 = .ok (.getfield 11, 3) := by decide +kernel
theorem d_History_dropOldest_25 : decode prog_3_method_3_code 25 = .ok (.iload_n 2, 1) := by decide +kernel
theorem d_History_dropOldest_26 : decode prog_3_method_3_code 26 = .ok (.aaload, 1) := by decide +kernel
theorem d_History_dropOldest_27 : decode prog_3_method_3_code 27 = .ok (.aastore, 1) := by decide +kernel
theorem d_History_dropOldest_28 : decode prog_3_method_3_code 28 = .ok (.iinc 2 1, 3) := by decide +kernel
theorem d_History_dropOldest_31 : decode prog_3_method_3_code 31 = .ok (.goto (-22), 3) := by decide +kernel
theorem d_History_dropOldest_34 : decode prog_3_method_3_code 34 = .ok (.aload_n 0, 1) := by decide +kernel
theorem d_History_dropOldest_35 : decode prog_3_method_3_code 35 = .ok (.getfield 11, 3) := by decide +kernel
theorem d_History_dropOldest_38 : decode prog_3_method_3_code 38 = .ok (.iconst 2, 1) := by decide +kernel
theorem d_History_dropOldest_39 : decode prog_3_method_3_code 39 = .ok (.aload_n 1, 1) := by decide +kernel
theorem d_History_dropOldest_40 : decode prog_3_method_3_code 40 = .ok (.aastore, 1) := by decide +kernel
theorem d_History_dropOldest_41 : decode prog_3_method_3_code 41 = .ok (.aload_n 0, 1) := by decide +kernel
theorem d_History_dropOldest_42 : decode prog_3_method_3_code 42 = .ok (.dup, 1) := by decide +kernel
theorem d_History_dropOldest_43 : decode prog_3_method_3_code 43 = .ok (.getfield 25, 3) := by decide +kernel
theorem d_History_dropOldest_46 : decode prog_3_method_3_code 46 = .ok (.iconst 1, 1) := by decide +kernel
theorem d_History_dropOldest_47 : decode prog_3_method_3_code 47 = .ok (.isub, 1) := by decide +kernel
theorem d_History_dropOldest_48 : decode prog_3_method_3_code 48 = .ok (.putfield 25, 3) := by decide +kernel
theorem d_History_dropOldest_51 : decode prog_3_method_3_code 51 = .ok (.return_, 1) := by decide +kernel
theorem d_History_dropPoints_0 : decode prog_3_method_7_code 0 = .ok (.aload_n 0, 1) := by decide +kernel
theorem d_History_dropPoints_1 : decode prog_3_method_7_code 1 = .ok (.iconst 0, 1) := by decide +kernel
theorem d_History_dropPoints_2 : decode prog_3_method_7_code 2 = .ok (.putfield 25, 3) := by decide +kernel
theorem d_History_dropPoints_5 : decode prog_3_method_7_code 5 = .ok (.return_, 1) := by decide +kernel
theorem d_History_dropSaved_0 : decode prog_3_method_8_code 0 = .ok (.iconst 0, 1) := by decide +kernel
theorem d_History_dropSaved_1 : decode prog_3_method_8_code 1 = .ok (.istore_n 1, 1) := by decide +kernel
theorem d_History_dropSaved_2 : decode prog_3_method_8_code 2 = .ok (.iload_n 1, 1) := by decide +kernel
theorem d_History_dropSaved_3 : decode prog_3_method_8_code 3 = .ok (.iconst 2, 1) := by decide +kernel
theorem d_History_dropSaved_4 : decode prog_3_method_8_code 4 = .ok (.if_icmp .ge 16, 3) := by decide +kernel
theorem d_History_dropSaved_7 : decode prog_3_method_8_code 7 = .ok (.aload_n 0, 1) := by decide +kernel
theorem d_History_dropSaved_8 : decode prog_3_method_8_code 8 = .ok (.getfield 20, 3) := by decide +kernel
theorem d_History_dropSaved_11 : decode prog_3_method_8_code 11 = .ok (.iload_n 1, 1) := by decide +kernel
theorem d_History_dropSaved_12 : decode prog_3_method_8_code 12 = .ok (.iconst 0, 1) := by decide +kernel
theorem d_History_dropSaved_13 : decode prog_3_method_8_code 13 = .ok (.bastore, 1) := by decide +kernel
theorem d_History_dropSaved_14 : decode prog_3_method_8_code 14 = .ok (.iinc 1 1, 3) := by decide +kernel
theorem d_History_dropSaved_17 : decode prog_3_method_8_code 17 = .ok (.goto (-15), 3) := by decide +kernel
theorem d_History_dropSaved_20 : decode prog_3_method_8_code 20 = .ok (.return_, 1) := by decide +kernel
theorem d_History_save_0 : decode prog_3_method_5_code 0 = .ok (.aload_n 0, 1) := by decide +kernel
theorem d_History_save_1 : decode prog_3_method_5_code 1 = .ok (.getfield 17, 3) := by decide +kernel
theorem d_History_save_4 : decode prog_3_method_5_code 4 = .ok (.iload_n 1, 1) := by decide +kernel
theorem d_History_save_5 : decode prog_3_method_5_code 5 = .ok (.aaload, 1) := by decide +kernel
theorem d_History_save_6 : decode prog_3_method_5_code 6 = .ok (.aload_n 2, 1) := by decide +kernel
theorem d_History_save_7 : decode prog_3_method_5_code 7 = .ok (.invokevirtual 32, 3) := by decide +kernel
theorem d_History_save_10 : decode prog_3_method_5_code 10 = .ok (.aload_n 0, 1) := by decide +kernel
theorem d_History_save_11 : decode prog_3_method_5_code 11 = .ok (.getfield 20, 3) := by decide +kernel
theorem d_History_save_14 : decode prog_3_method_5_code 14 = .ok (.iload_n 1, 1) := by decide +kernel
theorem d_History_save_15 : decode prog_3_method_5_code 15 = .ok (.iconst 1, 1) := by decide +kernel
theorem d_History_save_16 : decode prog_3_method_5_code 16 = .ok (.bastore, 1) := by decide +kernel
theorem d_History_save_17 : decode prog_3_method_5_code 17 = .ok (.return_, 1) := by decide +kernel
theorem d_History_setPoint_0 : decode prog_3_method_2_code 0 = .ok (.aload_n 0, 1) := by decide +kernel
theorem d_History_setPoint_1 : decode prog_3_method_2_code 1 = .ok (.getfield 25, 3) := by decide +kernel
theorem d_History_setPoint_4 : decode prog_3_method_2_code 4 = .ok (.iconst 3, 1) := by decide +kernel
theorem d_History_setPoint_5 : decode prog_3_method_2_code 5 = .ok (.if_icmp .ne 7, 3) := by decide +kernel
theorem d_History_setPoint_8 : decode prog_3_method_2_code 8 = .ok (.aload_n 0, 1) := by decide +kernel
theorem d_History_setPoint_9 : decode prog_3_method_2_code 9 = .ok (.invokevirtual 29, 3) := by decide +kernel
theorem d_History_setPoint_12 : decode prog_3_method_2_code 12 = .ok (.aload_n 0, 1) := by decide +kernel
theorem d_History_setPoint_13 : decode prog_3_method_2_code 13 = .ok (.getfield 11, 3) := by decide +kernel
theorem d_History_setPoint_16 : decode prog_3_method_2_code 16 = .ok (.aload_n 0, 1) := by decide +kernel
theorem d_History_setPoint_17 : decode prog_3_method_2_code 17 = .ok (.getfield 25, 3) := by decide +kernel
theorem d_History_setPoint_20 : decode prog_3_method_2_code 20 = .ok (.aaload, 1) := by decide +kernel
theorem d_History_setPoint_21 : decode prog_3_method_2_code 21 = .ok (.aload_n 1, 1) := by decide +kernel
theorem d_History_setPoint_22 : decode prog_3_method_2_code 22 = .ok (.invokevirtual 32, 3) := by decide +kernel
theorem d_History_setPoint_25 : decode prog_3_method_2_code 25 = .ok (.aload_n 0, 1) := by decide +kernel
theorem d_History_setPoint_26 : decode prog_3_method_2_code 26 = .ok (.dup, 1) := by decide +kernel
theorem d_History_setPoint_27 : decode prog_3_method_2_code 27 = .ok (.getfield 25, 3) := by decide +kernel
theorem d_History_setPoint_30 : decode prog_3_method_2_code 30 = .ok (.iconst 1, 1) := by decide +kernel
theorem d_History_setPoint_31 : decode prog_3_method_2_code 31 = .ok (.iadd, 1) := by decide +kernel
theorem d_History_setPoint_32 : decode prog_3_method_2_code 32 = .ok (.putfield 25, 3) := by decide +kernel
theorem d_History_setPoint_35 : decode prog_3_method_2_code 35 = .ok (.return_, 1) := by decide +kernel
theorem d_History_undo_0 : decode prog_3_method_4_code 0 = .ok (.aload_n 0, 1) := by decide +kernel
theorem d_History_undo_1 : decode prog_3_method_4_code 1 = .ok (.getfield 25, 3) := by decide +kernel
theorem d_History_undo_4 : decode prog_3_method_4_code 4 = .ok (.ifCond .ne 5, 3) := by decide +kernel
theorem d_History_undo_7 : decode prog_3_method_4_code 7 = .ok (.iconst 0, 1) := by decide +kernel
theorem d_History_undo_8 : decode prog_3_method_4_code 8 = .ok (.ireturn, 1) := by decide +kernel
theorem d_History_undo_9 : decode prog_3_method_4_code 9 = .ok (.aload_n 0, 1) := by decide +kernel
theorem d_History_undo_10 : decode prog_3_method_4_code 10 = .ok (.dup, 1) := by decide +kernel
theorem d_History_undo_11 : decode prog_3_method_4_code 11 = .ok (.getfield 25, 3) := by decide +kernel
theorem d_History_undo_14 : decode prog_3_method_4_code 14 = .ok (.iconst 1, 1) := by decide +kernel
theorem d_History_undo_15 : decode prog_3_method_4_code 15 = .ok (.isub, 1) := by decide +kernel
theorem d_History_undo_16 : decode prog_3_method_4_code 16 = .ok (.putfield 25, 3) := by decide +kernel
theorem d_History_undo_19 : decode prog_3_method_4_code 19 = .ok (.aload_n 1, 1) := by decide +kernel
theorem d_History_undo_20 : decode prog_3_method_4_code 20 = .ok (.aload_n 0, 1) := by decide +kernel
theorem d_History_undo_21 : decode prog_3_method_4_code 21 = .ok (.getfield 11, 3) := by decide +kernel
theorem d_History_undo_24 : decode prog_3_method_4_code 24 = .ok (.aload_n 0, 1) := by decide +kernel
theorem d_History_undo_25 : decode prog_3_method_4_code 25 = .ok (.getfield 25, 3) := by decide +kernel
theorem d_History_undo_28 : decode prog_3_method_4_code 28 = .ok (.aaload, 1) := by decide +kernel
theorem d_History_undo_29 : decode prog_3_method_4_code 29 = .ok (.invokevirtual 32, 3) := by decide +kernel
theorem d_History_undo_32 : decode prog_3_method_4_code 32 = .ok (.iconst 1, 1) := by decide +kernel
theorem d_History_undo_33 : decode prog_3_method_4_code 33 = .ok (.ireturn, 1) := by decide +kernel
theorem d_Script_init_0 : decode prog_4_method_1_code 0 = .ok (.aload_n 0, 1) := by decide +kernel
theorem d_Script_init_1 : decode prog_4_method_1_code 1 = .ok (.invokespecial 3, 3) := by decide +kernel
theorem d_Script_init_4 : decode prog_4_method_1_code 4 = .ok (.aload_n 0, 1) := by decide +kernel
theorem d_Script_init_5 : decode prog_4_method_1_code 5 = .ok (.sipush 300, 3) := by decide +kernel
theorem d_Script_init_8 : decode prog_4_method_1_code 8 = .ok (.newarray .int, 2) := by decide +kernel
theorem d_Script_init_10 : decode prog_4_method_1_code 10 = .ok (.putfield 9, 3) := by decide +kernel
theorem d_Script_init_13 : decode prog_4_method_1_code 13 = .ok (.return_, 1) := by decide +kernel
theorem d_Script_address_0 : decode prog_4_method_4_code 0 = .ok (.aload_n 0, 1) := by decide +kernel
theorem d_Script_address_1 : decode prog_4_method_4_code 1 = .ok (.iload_n 1, 1) := by decide +kernel
theorem d_Script_address_2 : decode prog_4_method_4_code 2 = .ok (.invokevirtual 19, 3) := by decide +kernel
theorem d_Script_address_5 : decode prog_4_method_4_code 5 = .ok (.bipush 8, 2) := by decide +kernel
theorem d_Script_address_7 : decode prog_4_method_4_code 7 = .ok (.ishl, 1) := by decide +kernel
theorem d_Script_address_8 : decode prog_4_method_4_code 8 = .ok (.aload_n 0, 1) := by decide +kernel
theorem d_Script_address_9 : decode prog_4_method_4_code 9 = .ok (.iload_n 1, 1) := by decide +kernel
theorem d_Script_address_10 : decode prog_4_method_4_code 10 = .ok (.iconst 1, 1) := by decide +kernel
theorem d_Script_address_11 : decode prog_4_method_4_code 11 = .ok (.iadd, 1) := by decide +kernel
theorem d_Script_address_12 : decode prog_4_method_4_code 12 = .ok (.invokevirtual 19, 3) := by decide +kernel
theorem d_Script_address_15 : decode prog_4_method_4_code 15 = .ok (.ior, 1) := by decide +kernel
theorem d_Script_address_16 : decode prog_4_method_4_code 16 = .ok (.ireturn, 1) := by decide +kernel
theorem d_Script_append_0 : decode prog_4_method_2_code 0 = .ok (.iload_n 2, 1) := by decide +kernel
theorem d_Script_append_1 : decode prog_4_method_2_code 1 = .ok (.iconst 1, 1) := by decide +kernel
theorem d_Script_append_2 : decode prog_4_method_2_code 2 = .ok (.if_icmp .lt 20, 3) := by decide +kernel
theorem d_Script_append_5 : decode prog_4_method_2_code 5 = .ok (.iload_n 2, 1) := by decide +kernel
theorem d_Script_append_6 : decode prog_4_method_2_code 6 = .ok (.iconst 4, 1) := by decide +kernel
theorem d_Script_append_7 : decode prog_4_method_2_code 7 = .ok (.if_icmp .gt 15, 3) := by decide +kernel
theorem d_Script_append_10 : decode prog_4_method_2_code 10 = .ok (.aload_n 0, 1) := by decide +kernel
theorem d_Script_append_11 : decode prog_4_method_2_code 11 = .ok (.getfield 15, 3) := by decide +kernel
theorem d_Script_append_14 : decode prog_4_method_2_code 14 = .ok (.iload_n 2, 1) := by decide +kernel
theorem d_Script_append_15 : decode prog_4_method_2_code 15 = .ok (.iadd, 1) := by decide +kernel
theorem d_Script_append_16 : decode prog_4_method_2_code 16 = .ok (.sipush 300, 3) := by decide +kernel
theorem d_Script_append_19 : decode prog_4_method_2_code 19 = .ok (.if_icmp .le 5, 3) := by decide +kernel
theorem d_Script_append_22 : decode prog_4_method_2_code 22 = .ok (.iconst 0, 1) := by decide +kernel
theorem d_Script_append_23 : decode prog_4_method_2_code 23 = .ok (.ireturn, 1) := by decide +kernel
theorem d_Script_append_24 : decode prog_4_method_2_code 24 = .ok (.iload_n 2, 1) := by decide +kernel
theorem d_Script_append_25 : decode prog_4_method_2_code 25 = .ok (.iconst 1, 1) := by decide +kernel
theorem d_Script_append_26 : decode prog_4_method_2_code 26 = .ok (.isub, 1) := by decide +kernel
theorem d_Script_append_27 : decode prog_4_method_2_code 27 = .ok (.istore_n 3, 1) := by decide +kernel
theorem d_Script_append_28 : decode prog_4_method_2_code 28 = .ok (.iload_n 3, 1) := by decide +kernel
theorem d_Script_append_29 : decode prog_4_method_2_code 29 = .ok (.ifCond .lt 38, 3) := by decide +kernel
theorem d_Script_append_32 : decode prog_4_method_2_code 32 = .ok (.aload_n 0, 1) := by decide +kernel
theorem d_Script_append_33 : decode prog_4_method_2_code 33 = .ok (.getfield 9, 3) := by decide +kernel
theorem d_Script_append_36 : decode prog_4_method_2_code 36 = .ok (.aload_n 0, 1) := by decide +kernel
theorem d_Script_append_37 : decode prog_4_method_2_code 37 = .ok (.getfield 15, 3) := by decide +kernel
theorem d_Script_append_40 : decode prog_4_method_2_code 40 = .ok (.iload_n 1, 1) := by decide +kernel
theorem d_Script_append_41 : decode prog_4_method_2_code 41 = .ok (.bipush 8, 2) := by decide +kernel
theorem d_Script_append_43 : decode prog_4_method_2_code 43 = .ok (.iload_n 3, 1) := by decide +kernel
theorem d_Script_append_44 : decode prog_4_method_2_code 44 = .ok (.imul, 1) := by decide +kernel
theorem d_Script_append_45 : decode prog_4_method_2_code 45 = .ok (.iushr, 1) := by decide +kernel
theorem d_Script_append_46 : decode prog_4_method_2_code 46 = .ok (.sipush 255, 3) := by decide +kernel
theorem d_Script_append_49 : decode prog_4_method_2_code 49 = .ok (.iand, 1) := by decide +kernel
theorem d_Script_append_50 : decode prog_4_method_2_code 50 = .ok (.iastore, 1) := by decide +kernel
theorem d_Script_append_51 : decode prog_4_method_2_code 51 = .ok (.aload_n 0, 1) := by decide +kernel
theorem d_Script_append_52 : decode prog_4_method_2_code 52 = .ok (.dup, 1) := by decide +kernel
theorem d_Script_append_53 : decode prog_4_method_2_code 53 = .ok (.getfield 15, 3) := by decide +kernel
theorem d_Script_append_56 : decode prog_4_method_2_code 56 = .ok (.iconst 1, 1) := by decide +kernel
theorem d_Script_append_57 : decode prog_4_method_2_code 57 = .ok (.iadd, 1) := by decide +kernel
theorem d_Script_append_58 : decode prog_4_method_2_code 58 = .ok (.putfield 15, 3) := by decide +kernel
theorem d_Script_append_61 : decode prog_4_method_2_code 61 = .ok (.iinc 3 (-1), 3) := by decide +kernel
theorem d_Script_append_64 : decode prog_4_method_2_code 64 = .ok (.goto (-36), 3) := by decide +kernel
theorem d_Script_append_67 : decode prog_4_method_2_code 67 = .ok (.iconst 1, 1) := by decide +kernel
theorem d_Script_append_68 : decode prog_4_method_2_code 68 = .ok (.ireturn, 1) := by decide +kernel
theorem d_Script_at_0 : decode prog_4_method_3_code 0 = .ok (.iload_n 1, 1) := by decide +kernel
theorem d_Script_at_1 : decode prog_4_method_3_code 1 = .ok (.ifCond .lt 20, 3) := by decide +kernel
theorem d_Script_at_4 : decode prog_4_method_3_code 4 = .ok (.iload_n 1, 1) := by decide +kernel
theorem d_Script_at_5 : decode prog_4_method_3_code 5 = .ok (.aload_n 0, 1) := by decide +kernel
theorem d_Script_at_6 : decode prog_4_method_3_code 6 = .ok (.getfield 15, 3) := by decide +kernel
theorem d_Script_at_9 : decode prog_4_method_3_code 9 = .ok (.if_icmp .ge 12, 3) := by decide +kernel
theorem d_Script_at_12 : decode prog_4_method_3_code 12 = .ok (.aload_n 0, 1) := by decide +kernel
theorem d_Script_at_13 : decode prog_4_method_3_code 13 = .ok (.getfield 9, 3) := by decide +kernel
theorem d_Script_at_16 : decode prog_4_method_3_code 16 = .ok (.iload_n 1, 1) := by decide +kernel
theorem d_Script_at_17 : decode prog_4_method_3_code 17 = .ok (.iaload, 1) := by decide +kernel
theorem d_Script_at_18 : decode prog_4_method_3_code 18 = .ok (.goto 4, 3) := by decide +kernel
theorem d_Script_at_21 : decode prog_4_method_3_code 21 = .ok (.iconst (-1), 1) := by decide +kernel
theorem d_Script_at_22 : decode prog_4_method_3_code 22 = .ok (.ireturn, 1) := by decide +kernel
theorem d_Script_beginning_0 : decode prog_4_method_10_code 0 = .ok (.iload_n 1, 1) := by decide +kernel
theorem d_Script_beginning_1 : decode prog_4_method_10_code 1 = .ok (.iconst 3, 1) := by decide +kernel
theorem d_Script_beginning_2 : decode prog_4_method_10_code 2 = .ok (.iadd, 1) := by decide +kernel
theorem d_Script_beginning_3 : decode prog_4_method_10_code 3 = .ok (.iconst 4, 1) := by decide +kernel
theorem d_Script_beginning_4 : decode prog_4_method_10_code 4 = .ok (.aload_n 0, 1) := by decide +kernel
theorem d_Script_beginning_5 : decode prog_4_method_10_code 5 = .ok (.iload_n 1, 1) := by decide +kernel
theorem d_Script_beginning_6 : decode prog_4_method_10_code 6 = .ok (.iconst 2, 1) := by decide +kernel
theorem d_Script_beginning_7 : decode prog_4_method_10_code 7 = .ok (.iadd, 1) := by decide +kernel
theorem d_Script_beginning_8 : decode prog_4_method_10_code 8 = .ok (.invokevirtual 19, 3) := by decide +kernel
