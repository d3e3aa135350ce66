theorem d_TM_property_127 : decode prog_1_method_4_code 127 = .ok (.iload 4, 2) := by decide +kernel
theorem d_TM_property_129 : decode prog_1_method_4_code 129 = .ok (.invokevirtual 88, 3) := by decide +kernel
theorem d_TM_property_132 : decode prog_1_method_4_code 132 = .ok (.return_, 1) := by decide +kernel
theorem d_TM_run_0 : decode prog_1_method_6_code 0 = .ok (.iload_n 1, 1) := by decide +kernel
theorem d_TM_run_1 : decode prog_1_method_6_code 1 = .ok (.sipush 3000, 3) := by decide +kernel
theorem d_TM_run_4 : decode prog_1_method_6_code 4 = .ok (.invokestatic 111, 3) := by decide +kernel
theorem d_TM_run_7 : decode prog_1_method_6_code 7 = .ok (.istore_n 2, 1) := by decide +kernel
theorem d_TM_run_8 : decode prog_1_method_6_code 8 = .ok (.iconst 0, 1) := by decide +kernel
theorem d_TM_run_9 : decode prog_1_method_6_code 9 = .ok (.istore_n 3, 1) := by decide +kernel
theorem d_TM_run_10 : decode prog_1_method_6_code 10 = .ok (.iload_n 3, 1) := by decide +kernel
theorem d_TM_run_11 : decode prog_1_method_6_code 11 = .ok (.iload_n 2, 1) := by decide +kernel
theorem d_TM_run_12 : decode prog_1_method_6_code 12 = .ok (.if_icmp .ge 37, 3) := by decide +kernel
theorem d_TM_run_15 : decode prog_1_method_6_code 15 = .ok (.aload_n 0, 1) := by decide +kernel
theorem d_TM_run_16 : decode prog_1_method_6_code 16 = .ok (.getfield 35, 3) := by decide +kernel
theorem d_TM_run_19 : decode prog_1_method_6_code 19 = .ok (.getfield 58, 3) := by decide +kernel
theorem d_TM_run_22 : decode prog_1_method_6_code 22 = .ok (.ifCond .ne 27, 3) := by decide +kernel
theorem d_TM_run_25 : decode prog_1_method_6_code 25 = .ok (.aload_n 0, 1) := by decide +kernel
theorem d_TM_run_26 : decode prog_1_method_6_code 26 = .ok (.getfield 35, 3) := by decide +kernel
theorem d_TM_run_29 : decode prog_1_method_6_code 29 = .ok (.invokevirtual 116, 3) := by decide +kernel
theorem d_TM_run_32 : decode prog_1_method_6_code 32 = .ok (.ifCond .ne 11, 3) := by decide +kernel
theorem d_TM_run_35 : decode prog_1_method_6_code 35 = .ok (.aload_n 0, 1) := by decide +kernel
theorem d_TM_run_36 : decode prog_1_method_6_code 36 = .ok (.getfield 35, 3) := by decide +kernel
theorem d_TM_run_39 : decode prog_1_method_6_code 39 = .ok (.iconst 3, 1) := by decide +kernel
theorem d_TM_run_40 : decode prog_1_method_6_code 40 = .ok (.invokevirtual 120, 3) := by decide +kernel
theorem d_TM_run_43 : decode prog_1_method_6_code 43 = .ok (.iinc 3 1, 3) := by decide +kernel
theorem d_TM_run_46 : decode prog_1_method_6_code 46 = .ok (.goto (-36), 3) := by decide +kernel
theorem d_TM_run_49 : decode prog_1_method_6_code 49 = .ok (.aload_n 0, 1) := by decide +kernel
theorem d_TM_run_50 : decode prog_1_method_6_code 50 = .ok (.getfield 35, 3) := by decide +kernel
theorem d_TM_run_53 : decode prog_1_method_6_code 53 = .ok (.getfield 58, 3) := by decide +kernel
theorem d_TM_run_56 : decode prog_1_method_6_code 56 = .ok (.ireturn, 1) := by decide +kernel
theorem d_TM_said_0 : decode prog_1_method_11_code 0 = .ok (.iload_n 1, 1) := by decide +kernel
theorem d_TM_said_1 : decode prog_1_method_11_code 1 = .ok (.iconst (-1), 1) := by decide +kernel
theorem d_TM_said_2 : decode prog_1_method_11_code 2 = .ok (.if_icmp .ne 18, 3) := by decide +kernel
theorem d_TM_said_5 : decode prog_1_method_11_code 5 = .ok (.aload_n 0, 1) := by decide +kernel
theorem d_TM_said_6 : decode prog_1_method_11_code 6 = .ok (.getfield 35, 3) := by decide +kernel
theorem d_TM_said_9 : decode prog_1_method_11_code 9 = .ok (.getfield 174, 3) := by decide +kernel
theorem d_TM_said_12 : decode prog_1_method_11_code 12 = .ok (.iconst 0, 1) := by decide +kernel
theorem d_TM_said_13 : decode prog_1_method_11_code 13 = .ok (.iload_n 2, 1) := by decide +kernel
theorem d_TM_said_14 : decode prog_1_method_11_code 14 = .ok (.invokestatic 138, 3) := by decide +kernel
theorem d_TM_said_17 : decode prog_1_method_11_code 17 = .ok (.goto 15, 3) := by decide +kernel
theorem d_TM_said_20 : decode prog_1_method_11_code 20 = .ok (.aload_n 0, 1) := by decide +kernel
theorem d_TM_said_21 : decode prog_1_method_11_code 21 = .ok (.getfield 35, 3) := by decide +kernel
theorem d_TM_said_24 : decode prog_1_method_11_code 24 = .ok (.getfield 165, 3) := by decide +kernel
theorem d_TM_said_27 : decode prog_1_method_11_code 27 = .ok (.iload_n 1, 1) := by decide +kernel
theorem d_TM_said_28 : decode prog_1_method_11_code 28 = .ok (.iload_n 2, 1) := by decide +kernel
theorem d_TM_said_29 : decode prog_1_method_11_code 29 = .ok (.invokestatic 138, 3) := by decide +kernel
theorem d_TM_said_32 : decode prog_1_method_11_code 32 = .ok (.ireturn, 1) := by decide +kernel
theorem d_TM_show_0 : decode prog_1_method_10_code 0 = .ok (.iload_n 1, 1) := by decide +kernel
theorem d_TM_show_1 : decode prog_1_method_10_code 1 = .ok (.iconst 1, 1) := by decide +kernel
theorem d_TM_show_2 : decode prog_1_method_10_code 2 = .ok (.if_icmp .eq 8, 3) := by decide +kernel
theorem d_TM_show_5 : decode prog_1_method_10_code 5 = .ok (.iload_n 1, 1) := by decide +kernel
theorem d_TM_show_6 : decode prog_1_method_10_code 6 = .ok (.iconst 2, 1) := by decide +kernel
theorem d_TM_show_7 : decode prog_1_method_10_code 7 = .ok (.if_icmp .ne 23, 3) := by decide +kernel
theorem d_TM_show_10 : decode prog_1_method_10_code 10 = .ok (.aload_n 0, 1) := by decide +kernel
theorem d_TM_show_11 : decode prog_1_method_10_code 11 = .ok (.getfield 35, 3) := by decide +kernel
theorem d_TM_show_14 : decode prog_1_method_10_code 14 = .ok (.getfield 142, 3) := by decide +kernel
theorem d_TM_show_17 : decode prog_1_method_10_code 17 = .ok (.ifCond .ne 13, 3) := by decide +kernel
theorem d_TM_show_20 : decode prog_1_method_10_code 20 = .ok (.new 76, 3) := by decide +kernel
theorem d_TM_show_23 : decode prog_1_method_10_code 23 = .ok (.dup, 1) := by decide +kernel
theorem d_TM_show_24 : decode prog_1_method_10_code 24 = .ok (.ldc 145, 2) := by decide +kernel
theorem d_TM_show_26 : decode prog_1_method_10_code 26 = .ok (.invokespecial 80, 3) := by decide +kernel
theorem d_TM_show_29 : decode prog_1_method_10_code 29 = .ok (.athrow, 1) := by decide +kernel
theorem d_TM_show_30 : decode prog_1_method_10_code 30 = .ok (.iload_n 1, 1) := by decide +kernel
theorem d_TM_show_31 : decode prog_1_method_10_code 31 = .ok (.tableswitch 94 0 5 #[37, 45, 56, 67, 75, 83], 37) := by decide +kernel
theorem d_TM_show_68 : decode prog_1_method_10_code 68 = .ok (.aload_n 0, 1) := by decide +kernel
theorem d_TM_show_69 : decode prog_1_method_10_code 69 = .ok (.getfield 35, 3) := by decide +kernel
theorem d_TM_show_72 : decode prog_1_method_10_code 72 = .ok (.getfield 142, 3) := by decide +kernel
theorem d_TM_show_75 : decode prog_1_method_10_code 75 = .ok (.ireturn, 1) := by decide +kernel
theorem d_TM_show_76 : decode prog_1_method_10_code 76 = .ok (.aload_n 0, 1) := by decide +kernel
theorem d_TM_show_77 : decode prog_1_method_10_code 77 = .ok (.getfield 35, 3) := by decide +kernel
theorem d_TM_show_80 : decode prog_1_method_10_code 80 = .ok (.invokevirtual 147, 3) := by decide +kernel
theorem d_TM_show_83 : decode prog_1_method_10_code 83 = .ok (.getfield 151, 3) := by decide +kernel
theorem d_TM_show_86 : decode prog_1_method_10_code 86 = .ok (.ireturn, 1) := by decide +kernel
theorem d_TM_show_87 : decode prog_1_method_10_code 87 = .ok (.aload_n 0, 1) := by decide +kernel
theorem d_TM_show_88 : decode prog_1_method_10_code 88 = .ok (.getfield 35, 3) := by decide +kernel
theorem d_TM_show_91 : decode prog_1_method_10_code 91 = .ok (.invokevirtual 147, 3) := by decide +kernel
theorem d_TM_show_94 : decode prog_1_method_10_code 94 = .ok (.getfield 156, 3) := by decide +kernel
theorem d_TM_show_97 : decode prog_1_method_10_code 97 = .ok (.ireturn, 1) := by decide +kernel
theorem d_TM_show_98 : decode prog_1_method_10_code 98 = .ok (.aload_n 0, 1) := by decide +kernel
theorem d_TM_show_99 : decode prog_1_method_10_code 99 = .ok (.getfield 26, 3) := by decide +kernel
theorem d_TM_show_102 : decode prog_1_method_10_code 102 = .ok (.getfield 159, 3) := by decide +kernel
theorem d_TM_show_105 : decode prog_1_method_10_code 105 = .ok (.ireturn, 1) := by decide +kernel
theorem d_TM_show_106 : decode prog_1_method_10_code 106 = .ok (.aload_n 0, 1) := by decide +kernel
theorem d_TM_show_107 : decode prog_1_method_10_code 107 = .ok (.getfield 19, 3) := by decide +kernel
theorem d_TM_show_110 : decode prog_1_method_10_code 110 = .ok (.invokevirtual 162, 3) := by decide +kernel
theorem d_TM_show_113 : decode prog_1_method_10_code 113 = .ok (.ireturn, 1) := by decide +kernel
theorem d_TM_show_114 : decode prog_1_method_10_code 114 = .ok (.aload_n 0, 1) := by decide +kernel
theorem d_TM_show_115 : decode prog_1_method_10_code 115 = .ok (.getfield 35, 3) := by decide +kernel
theorem d_TM_show_118 : decode prog_1_method_10_code 118 = .ok (.getfield 165, 3) := by decide +kernel
theorem d_TM_show_121 : decode prog_1_method_10_code 121 = .ok (.getfield 168, 3) := by decide +kernel
theorem d_TM_show_124 : decode prog_1_method_10_code 124 = .ok (.ireturn, 1) := by decide +kernel
theorem d_TM_show_125 : decode prog_1_method_10_code 125 = .ok (.new 76, 3) := by decide +kernel
theorem d_TM_show_128 : decode prog_1_method_10_code 128 = .ok (.dup, 1) := by decide +kernel
theorem d_TM_show_129 : decode prog_1_method_10_code 129 = .ok (.ldc 172, 2) := by decide +kernel
theorem d_TM_show_131 : decode prog_1_method_10_code 131 = .ok (.invokespecial 80, 3) := by decide +kernel
theorem d_TM_show_134 : decode prog_1_method_10_code 134 = .ok (.athrow, 1) := by decide +kernel
theorem d_TM_stack_0 : decode prog_1_method_9_code 0 = .ok (.aload_n 0, 1) := by decide +kernel
theorem d_TM_stack_1 : decode prog_1_method_9_code 1 = .ok (.getfield 35, 3) := by decide +kernel
theorem d_TM_stack_4 : decode prog_1_method_9_code 4 = .ok (.getfield 134, 3) := by decide +kernel
theorem d_TM_stack_7 : decode prog_1_method_9_code 7 = .ok (.iload_n 1, 1) := by decide +kernel
theorem d_TM_stack_8 : decode prog_1_method_9_code 8 = .ok (.iload_n 2, 1) := by decide +kernel
theorem d_TM_stack_9 : decode prog_1_method_9_code 9 = .ok (.invokestatic 138, 3) := by decide +kernel
theorem d_TM_stack_12 : decode prog_1_method_9_code 12 = .ok (.ireturn, 1) := by decide +kernel
theorem d_TM_stop_0 : decode prog_1_method_7_code 0 = .ok (.aload_n 0, 1) := by decide +kernel
theorem d_TM_stop_1 : decode prog_1_method_7_code 1 = .ok (.getfield 35, 3) := by decide +kernel
theorem d_TM_stop_4 : decode prog_1_method_7_code 4 = .ok (.getfield 58, 3) := by decide +kernel
theorem d_TM_stop_7 : decode prog_1_method_7_code 7 = .ok (.ifCond .eq 5, 3) := by decide +kernel
theorem d_TM_stop_10 : decode prog_1_method_7_code 10 = .ok (.iconst 0, 1) := by decide +kernel
theorem d_TM_stop_11 : decode prog_1_method_7_code 11 = .ok (.ireturn, 1) := by decide +kernel
theorem d_TM_stop_12 : decode prog_1_method_7_code 12 = .ok (.aload_n 0, 1) := by decide +kernel
theorem d_TM_stop_13 : decode prog_1_method_7_code 13 = .ok (.getfield 35, 3) := by decide +kernel
theorem d_TM_stop_16 : decode prog_1_method_7_code 16 = .ok (.iconst 4, 1) := by decide +kernel
theorem d_TM_stop_17 : decode prog_1_method_7_code 17 = .ok (.invokevirtual 120, 3) := by decide +kernel
theorem d_TM_stop_20 : decode prog_1_method_7_code 20 = .ok (.iconst 1, 1) := by decide +kernel
theorem d_TM_stop_21 : decode prog_1_method_7_code 21 = .ok (.ireturn, 1) := by decide +kernel
theorem d_Frame_init_0 : decode prog_2_method_1_code 0 = .ok (.aload_n 0, 1) := by decide +kernel
theorem d_Frame_init_1 : decode prog_2_method_1_code 1 = .ok (.invokespecial 1, 3) := by decide +kernel
theorem d_Frame_init_4 : decode prog_2_method_1_code 4 = .ok (.return_, 1) := by decide +kernel
theorem d_History_init_0 : decode prog_3_method_1_code 0 = .ok (.aload_n 0, 1) := by decide +kernel
theorem d_History_init_1 : decode prog_3_method_1_code 1 = .ok (.invokespecial 3, 3) := by decide +kernel
theorem d_History_init_4 : decode prog_3_method_1_code 4 = .ok (.aload_n 0, 1) := by decide +kernel
theorem d_History_init_5 : decode prog_3_method_1_code 5 = .ok (.iconst 3, 1) := by decide +kernel
theorem d_History_init_6 : decode prog_3_method_1_code 6 = .ok (.anewarray 9, 3) := by decide +kernel
theorem d_History_init_9 : decode prog_3_method_1_code 9 = .ok (.putfield 11, 3) := by decide +kernel
theorem d_History_init_12 : decode prog_3_method_1_code 12 = .ok (.aload_n 0, 1) := by decide +kernel
theorem d_History_init_13 : decode prog_3_method_1_code 13 = .ok (.iconst 2, 1) := by decide +kernel
theorem d_History_init_14 : decode prog_3_method_1_code 14 = .ok (.anewarray 9, 3) := by decide +kernel
theorem d_History_init_17 : decode prog_3_method_1_code 17 = .ok (.putfield 17, 3) := by decide +kernel
theorem d_History_init_20 : decode prog_3_method_1_code 20 = .ok (.aload_n 0, 1) := by decide +kernel
theorem d_History_init_21 : decode prog_3_method_1_code 21 = .ok (.iconst 2, 1) := by decide +kernel
theorem d_History_init_22 : decode prog_3_method_1_code 22 = .ok (.newarray .boolean, 2) := by decide +kernel
theorem d_History_init_24 : decode prog_3_method_1_code 24 = .ok (.putfield 20, 3) := by decide +kernel
theorem d_History_init_27 : decode prog_3_method_1_code 27 = .ok (.iconst 0, 1) := by decide +kernel
theorem d_History_init_28 : decode prog_3_method_1_code 28 = .ok (.istore_n 1, 1) := by decide +kernel
theorem d_History_init_29 : decode prog_3_method_1_code 29 = .ok (.iload_n 1, 1) := by decide +kernel
theorem d_History_init_30 : decode prog_3_method_1_code 30 = .ok (.iconst 3, 1) := by decide +kernel
theorem d_History_init_31 : decode prog_3_method_1_code 31 = .ok (.if_icmp .ge 22, 3) := by decide +kernel
theorem d_History_init_34 : decode prog_3_method_1_code 34 = .ok (.aload_n 0, 1) := by decide +kernel
theorem d_History_init_35 : decode prog_3_method_1_code 35 = .ok (.getfield 11, 3) := by decide +kernel
theorem d_History_init_38 : decode prog_3_method_1_code 38 = .ok (.iload_n 1, 1) := by decide +kernel
theorem d_History_init_39 : decode prog_3_method_1_code 39 = .ok (.new 9, 3) := by decide +kernel
theorem d_History_init_42 : decode prog_3_method_1_code 42 = .ok (.dup, 1) := by decide +kernel
theorem d_History_init_43 : decode prog_3_method_1_code 43 = .ok (.invokespecial 24, 3) := by decide +kernel
theorem d_History_init_46 : decode prog_3_method_1_code 46 = .ok (.aastore, 1) := by decide +kernel
theorem d_History_init_47 : decode prog_3_method_1_code 47 = .ok (.iinc 1 1, 3) := by decide +kernel
theorem d_History_init_50 : decode prog_3_method_1_code 50 = .ok (.goto (-21), 3) := by decide +kernel
theorem d_History_init_53 : decode prog_3_method_1_code 53 = .ok (.iconst 0, 1) := by decide +kernel
theorem d_History_init_54 : decode prog_3_method_1_code 54 = .ok (.istore_n 1, 1) := by decide +kernel
theorem d_History_init_55 : decode prog_3_method_1_code 55 = .ok (.iload_n 1, 1) := by decide +kernel
theorem d_History_init_56 : decode prog_3_method_1_code 56 = .ok (.iconst 2, 1) := by decide +kernel
theorem d_History_init_57 : decode prog_3_method_1_code 57 = .ok (.if_icmp .ge 22, 3) := by decide +kernel
theorem d_History_init_60 : decode prog_3_method_1_code 60 = .ok (.aload_n 0, 1) := by decide +kernel
theorem d_History_init_61 : decode prog_3_method_1_code 61 = .ok (.getfield 17, 3) := by decide +kernel
theorem d_History_init_64 : decode prog_3_method_1_code 64 = .ok (.iload_n 1, 1) := by decide +kernel
theorem d_History_init_65 : decode prog_3_method_1_code 65 = .ok (.new 9, 3) := by decide +kernel
theorem d_History_init_68 : decode prog_3_method_1_code 68 = .ok (.dup, 1) := by decide +kernel
theorem d_History_init_69 : decode prog_3_method_1_code 69 = .ok (.invokespecial 24, 3) := by decide +kernel
theorem d_History_init_72 : decode prog_3_method_1_code 72 = .ok (.aastore, 1) := by decide +kernel
theorem d_History_init_73 : decode prog_3_method_1_code 73 = .ok (.iinc 1 1, 3) := by decide +kernel
theorem d_History_init_76 : decode prog_3_method_1_code 76 = .ok (.goto (-21), 3) := by decide +kernel
theorem d_History_init_79 : decode prog_3_method_1_code 79 = .ok (.return_, 1) := by decide +kernel
theorem d_History_bringBack_0 : decode prog_3_method_6_code 0 = .ok (.aload_n 0, 1) := by decide +kernel
theorem d_History_bringBack_1 : decode prog_3_method_6_code 1 = .ok (.getfield 20, 3) := by decide +kernel
theorem d_History_bringBack_4 : decode prog_3_method_6_code 4 = .ok (.iload_n 1, 1) := by decide +kernel
theorem d_History_bringBack_5 : decode prog_3_method_6_code 5 = .ok (.baload, 1) := by decide +kernel
theorem d_History_bringBack_6 : decode prog_3_method_6_code 6 = .ok (.ifCond .ne 5, 3) := by decide +kernel
theorem d_History_bringBack_9 : decode prog_3_method_6_code 9 = .ok (.iconst 0, 1) := by decide +kernel
theorem d_History_bringBack_10 : decode prog_3_method_6_code 10 = .ok (.ireturn, 1) := by decide +kernel
theorem d_History_bringBack_11 : decode prog_3_method_6_code 11 = .ok (.aload_n 2, 1) := by decide +kernel
theorem d_History_bringBack_12 : decode prog_3_method_6_code 12 = .ok (.aload_n 0, 1) := by decide +kernel
theorem d_History_bringBack_13 : decode prog_3_method_6_code 13 = .ok (.getfield 17, 3) := by decide +kernel
theorem d_History_bringBack_16 : decode prog_3_method_6_code 16 = .ok (.iload_n 1, 1) := by decide +kernel
theorem d_History_bringBack_17 : decode prog_3_method_6_code 17 = .ok (.aaload, 1) := by decide +kernel
theorem d_History_bringBack_18 : decode prog_3_method_6_code 18 = .ok (.invokevirtual 32, 3) := by decide +kernel
theorem d_History_bringBack_21 : decode prog_3_method_6_code 21 = .ok (.aload_n 0, 1) := by decide +kernel
theorem d_History_bringBack_22 : decode prog_3_method_6_code 22 = .ok (.iconst 0, 1) := by decide +kernel
theorem d_History_bringBack_23 : decode prog_3_method_6_code 23 = .ok (.putfield 25, 3) := by decide +kernel
theorem d_History_bringBack_26 : decode prog_3_method_6_code 26 = .ok (.iconst 1, 1) := by decide +kernel
theorem d_History_bringBack_27 : decode prog_3_method_6_code 27 = .ok (.ireturn, 1) := by decide +kernel
theorem d_History_dropOldest_0 : decode prog_3_method_3_code 0 = .ok (.aload_n 0, 1) := by decide +kernel
theorem d_History_dropOldest_1 : decode prog_3_method_3_code 1 = .ok (.getfield 11, 3) := by decide +kernel
theorem d_History_dropOldest_4 : decode prog_3_method_3_code 4 = .ok (.iconst 0, 1) := by decide +kernel
theorem d_History_dropOldest_5 : decode prog_3_method_3_code 5 = .ok (.aaload, 1) := by decide +kernel
theorem d_History_dropOldest_6 : decode prog_3_method_3_code 6 = .ok (.astore_n 1, 1) := by decide +kernel
theorem d_History_dropOldest_7 : decode prog_3_method_3_code 7 = .ok (.iconst 1, 1) := by decide +kernel
theorem d_History_dropOldest_8 : decode prog_3_method_3_code 8 = .ok (.istore_n 2, 1) := by decide +kernel
theorem d_History_dropOldest_9 : decode prog_3_method_3_code 9 = .ok (.iload_n 2, 1) := by decide +kernel
theorem d_History_dropOldest_10 : decode prog_3_method_3_code 10 = .ok (.iconst 3, 1) := by decide +kernel
theorem d_History_dropOldest_11 : decode prog_3_method_3_code 11 = .ok (.if_icmp .ge 23, 3) := by decide +kernel
theorem d_History_dropOldest_14 : decode prog_3_method_3_code 14 = .ok (.aload_n 0, 1) := by decide +kernel
theorem d_History_dropOldest_15 : decode prog_3_method_3_code 15 = .ok (.getfield 11, 3) := by decide +kernel
theorem d_History_dropOldest_18 : decode prog_3_method_3_code 18 = .ok (.iload_n 2, 1) := by decide +kernel
theorem d_History_dropOldest_19 : decode prog_3_method_3_code 19 = .ok (.iconst 1, 1) := by decide +kernel
theorem d_History_dropOldest_20 : decode prog_3_method_3_code 20 = .ok (.isub, 1) := by decide +kernel
theorem d_History_dropOldest_21 : decode prog_3_method_3_code 21 = .ok (.aload_n 0, 1) := by decide +kernel
theorem d_History_dropOldest_22 : decode prog_3_method_3_code 22 = .ok (.getfield 11, 3) := by decide +kernel
theorem d_History_dropOldest_25 : decode prog_3_method_3_code 25 = .ok (.iload_n 2, 1) := by decide +kernel
theorem d_History_dropOldest_26 : decode prog_3_method_3_code 26 = .ok (.aaload, 1) := by decide +kernel
theorem d_History_dropOldest_27 : decode prog_3_method_3_code 27 = .ok (.aastore, 1) := by decide +kernel
theorem d_History_dropOldest_28 : decode prog_3_method_3_code 28 = .ok (.iinc 2 1, 3) := by decide +kernel
theorem d_History_dropOldest_31 : decode prog_3_method_3_code 31 = .ok (.goto (-22), 3) := by decide +kernel
theorem d_History_dropOldest_34 : decode prog_3_method_3_code 34 = .ok (.aload_n 0, 1) := by decide +kernel
theorem d_History_dropOldest_35 : decode prog_3_method_3_code 35 = .ok (.getfield 11, 3) := by decide +kernel
theorem d_History_dropOldest_38 : decode prog_3_method_3_code 38 = .ok (.iconst 2, 1) := by decide +kernel
theorem d_History_dropOldest_39 : decode prog_3_method_3_code 39 = .ok (.aload_n 1, 1) := by decide +kernel
theorem d_History_dropOldest_40 : decode prog_3_method_3_code 40 = .ok (.aastore, 1) := by decide +kernel
theorem d_History_dropOldest_41 : decode prog_3_method_3_code 41 = .ok (.aload_n 0, 1) := by decide +kernel
theorem d_History_dropOldest_42 : decode prog_3_method_3_code 42 = .ok (.dup, 1) := by decide +kernel
theorem d_History_dropOldest_43 : decode prog_3_method_3_code 43 = .ok (.getfield 25, 3) := by decide +kernel
theorem d_History_dropOldest_46 : decode prog_3_method_3_code 46 = .ok (.iconst 1, 1) := by decide +kernel
theorem d_History_dropOldest_47 : decode prog_3_method_3_code 47 = .ok (.isub, 1) := by decide +kernel
theorem d_History_dropOldest_48 : decode prog_3_method_3_code 48 = .ok (.putfield 25, 3) := by decide +kernel
theorem d_History_dropOldest_51 : decode prog_3_method_3_code 51 = .ok (.return_, 1) := by decide +kernel
theorem d_History_dropPoints_0 : decode prog_3_method_7_code 0 = .ok (.aload_n 0, 1) := by decide +kernel
theorem d_History_dropPoints_1 : decode prog_3_method_7_code 1 = .ok (.iconst 0, 1) := by decide +kernel
theorem d_History_dropPoints_2 : decode prog_3_method_7_code 2 = .ok (.putfield 25, 3) := by decide +kernel
theorem d_History_dropPoints_5 : decode prog_3_method_7_code 5 = .ok (.return_, 1) := by decide +kernel
theorem d_History_dropSaved_0 : decode prog_3_method_8_code 0 = .ok (.iconst 0, 1) := by decide +kernel
theorem d_History_dropSaved_1 : decode prog_3_method_8_code 1 = .ok (.istore_n 1, 1) := by decide +kernel
theorem d_History_dropSaved_2 : decode prog_3_method_8_code 2 = .ok (.iload_n 1, 1) := by decide +kernel
theorem d_History_dropSaved_3 : decode prog_3_method_8_code 3 = .ok (.iconst 2, 1) := by decide +kernel
theorem d_History_dropSaved_4 : decode prog_3_method_8_code 4 = .ok (.if_icmp .ge 16, 3) := by decide +kernel
theorem d_History_dropSaved_7 : decode prog_3_method_8_code 7 = .ok (.aload_n 0, 1) := by decide +kernel
theorem d_History_dropSaved_8 : decode prog_3_method_8_code 8 = .ok (.getfield 20, 3) := by decide +kernel
theorem d_History_dropSaved_11 : decode prog_3_method_8_code 11 = .ok (.iload_n 1, 1) := by decide +kernel
theorem d_History_dropSaved_12 : decode prog_3_method_8_code 12 = .ok (.iconst 0, 1) := by decide +kernel
theorem d_History_dropSaved_13 : decode prog_3_method_8_code 13 = .ok (.bastore, 1) := by decide +kernel
theorem d_History_dropSaved_14 : decode prog_3_method_8_code 14 = .ok (.iinc 1 1, 3) := by decide +kernel
theorem d_History_dropSaved_17 : decode prog_3_method_8_code 17 = .ok (.goto (-15), 3) := by decide +kernel
theorem d_History_dropSaved_20 : decode prog_3_method_8_code 20 = .ok (.return_, 1) := by decide +kernel
theorem d_History_save_0 : decode prog_3_method_5_code 0 = .ok (.aload_n 0, 1) := by decide +kernel
theorem d_History_save_1 : decode prog_3_method_5_code 1 = .ok (.getfield 17, 3) := by decide +kernel
theorem d_History_save_4 : decode prog_3_method_5_code 4 = .ok (.iload_n 1, 1) := by decide +kernel
theorem d_History_save_5 : decode prog_3_method_5_code 5 = .ok (.aaload, 1) := by decide +kernel
theorem d_History_save_6 : decode prog_3_method_5_code 6 = .ok (.aload_n 2, 1) := by decide +kernel
theorem d_History_save_7 : decode prog_3_method_5_code 7 = .ok (.invokevirtual 32, 3) := by decide +kernel
theorem d_History_save_10 : decode prog_3_method_5_code 10 = .ok (.aload_n 0, 1) := by decide +kernel
theorem d_History_save_11 : decode prog_3_method_5_code 11 = .ok (.getfield 20, 3) := by decide +kernel
theorem d_History_save_14 : decode prog_3_method_5_code 14 = .ok (.iload_n 1, 1) := by decide +kernel
theorem d_History_save_15 : decode prog_3_method_5_code 15 = .ok (.iconst 1, 1) := by decide +kernel
theorem d_History_save_16 : decode prog_3_method_5_code 16 = .ok (.bastore, 1) := by decide +kernel
theorem d_History_save_17 : decode prog_3_method_5_code 17 = .ok (.return_, 1) := by decide +kernel
theorem d_History_setPoint_0 : decode prog_3_method_2_code 0 = .ok (.aload_n 0, 1) := by decide +kernel
theorem d_History_setPoint_1 : decode prog_3_method_2_code 1 = .ok (.getfield 25, 3) := by decide +kernel
theorem d_History_setPoint_4 : decode prog_3_method_2_code 4 = .ok (.iconst 3, 1) := by decide +kernel
theorem d_History_setPoint_5 : decode prog_3_method_2_code 5 = .ok (.if_icmp .ne 7, 3) := by decide +kernel
theorem d_History_setPoint_8 : decode prog_3_method_2_code 8 = .ok (.aload_n 0, 1) := by decide +kernel
theorem d_History_setPoint_9 : decode prog_3_method_2_code 9 = .ok (.invokevirtual 29, 3) := by decide +kernel
theorem d_History_setPoint_12 : decode prog_3_method_2_code 12 = .ok (.aload_n 0, 1) := by decide +kernel
theorem d_History_setPoint_13 : decode prog_3_method_2_code 13 = .ok (.getfield 11, 3) := by decide +kernel
theorem d_History_setPoint_16 : decode prog_3_method_2_code 16 = .ok (.aload_n 0, 1) := by decide +kernel
theorem d_History_setPoint_17 : decode prog_3_method_2_code 17 = .ok (.getfield 25, 3) := by decide +kernel
theorem d_History_setPoint_20 : decode prog_3_method_2_code 20 = .ok (.aaload, 1) := by decide +kernel
theorem d_History_setPoint_21 : decode prog_3_method_2_code 21 = .ok (.aload_n 1, 1) := by decide +kernel
theorem d_History_setPoint_22 : decode prog_3_method_2_code 22 = .ok (.invokevirtual 32, 3) := by decide +kernel
theorem d_History_setPoint_25 : decode prog_3_method_2_code 25 = .ok (.aload_n 0, 1) := by decide +kernel
theorem d_History_setPoint_26 : decode prog_3_method_2_code 26 = .ok (.dup, 1) := by decide +kernel
theorem d_History_setPoint_27 : decode prog_3_method_2_code 27 = .ok (.getfield 25, 3) := by decide +kernel
theorem d_History_setPoint_30 : decode prog_3_method_2_code 30 = .ok (.iconst 1, 1) := by decide +kernel
theorem d_History_setPoint_31 : decode prog_3_method_2_code 31 = .ok (.iadd, 1) := by decide +kernel
theorem d_History_setPoint_32 : decode prog_3_method_2_code 32 = .ok (.putfield 25, 3) := by decide +kernel
theorem d_History_setPoint_35 : decode prog_3_method_2_code 35 = .ok (.return_, 1) := by decide +kernel
theorem d_History_undo_0 : decode prog_3_method_4_code 0 = .ok (.aload_n 0, 1) := by decide +kernel
theorem d_History_undo_1 : decode prog_3_method_4_code 1 = .ok (.getfield 25, 3) := by decide +kernel
theorem d_History_undo_4 : decode prog_3_method_4_code 4 = .ok (.ifCond .ne 5, 3) := by decide +kernel
theorem d_History_undo_7 : decode prog_3_method_4_code 7 = .ok (.iconst 0, 1) := by decide +kernel
theorem d_History_undo_8 : decode prog_3_method_4_code 8 = .ok (.ireturn, 1) := by decide +kernel
theorem d_History_undo_9 : decode prog_3_method_4_code 9 = .ok (.aload_n 0, 1) := by decide +kernel
theorem d_History_undo_10 : decode prog_3_method_4_code 10 = .ok (.dup, 1) := by decide +kernel
theorem d_History_undo_11 : decode prog_3_method_4_code 11 = .ok (.getfield 25, 3) := by decide +kernel
theorem d_History_undo_14 : decode prog_3_method_4_code 14 = .ok (.iconst 1, 1) := by decide +kernel
theorem d_History_undo_15 : decode prog_3_method_4_code 15 = .ok (.isub, 1) := by decide +kernel
theorem d_History_undo_16 : decode prog_3_method_4_code 16 = .ok (.putfield 25, 3) := by decide +kernel
theorem d_History_undo_19 : decode prog_3_method_4_code 19 = .ok (.aload_n 1, 1) := by decide +kernel
theorem d_History_undo_20 : decode prog_3_method_4_code 20 = .ok (.aload_n 0, 1) := by decide +kernel
theorem d_History_undo_21 : decode prog_3_method_4_code 21 = .ok (.getfield 11, 3) := by decide +kernel
theorem d_History_undo_24 : decode prog_3_method_4_code 24 = .ok (.aload_n 0, 1) := by decide +kernel
theorem d_History_undo_25 : decode prog_3_method_4_code 25 = .ok (.getfield 25, 3) := by decide +kernel
theorem d_History_undo_28 : decode prog_3_method_4_code 28 = .ok (.aaload, 1) := by decide +kernel
theorem d_History_undo_29 : decode prog_3_method_4_code 29 = .ok (.invokevirtual 32, 3) := by decide +kernel
theorem d_History_undo_32 : decode prog_3_method_4_code 32 = .ok (.iconst 1, 1) := by decide +kernel
theorem d_History_undo_33 : decode prog_3_method_4_code 33 = .ok (.ireturn, 1) := by decide +kernel
theorem d_Script_init_0 : decode prog_4_method_1_code 0 = .ok (.aload_n 0, 1) := by decide +kernel
theorem d_Script_init_1 : decode prog_4_method_1_code 1 = .ok (.invokespecial 3, 3) := by decide +kernel
theorem d_Script_init_4 : decode prog_4_method_1_code 4 = .ok (.aload_n 0, 1) := by decide +kernel
theorem d_Script_init_5 : decode prog_4_method_1_code 5 = .ok (.sipush 300, 3) := by decide +kernel
theorem d_Script_init_8 : decode prog_4_method_1_code 8 = .ok (.newarray .int, 2) := by decide +kernel
theorem d_Script_init_10 : decode prog_4_method_1_code 10 = .ok (.putfield 9, 3) := by decide +kernel
theorem d_Script_init_13 : decode prog_4_method_1_code 13 = .ok (.return_, 1) := by decide +kernel
theorem d_Script_address_0 : decode prog_4_method_4_code 0 = .ok (.aload_n 0, 1) := by decide +kernel
theorem d_Script_address_1 : decode prog_4_method_4_code 1 = .ok (.iload_n 1, 1) := by decide +kernel
theorem d_Script_address_2 : decode prog_4_method_4_code 2 = .ok (.invokevirtual 19, 3) := by decide +kernel
theorem d_Script_address_5 : decode prog_4_method_4_code 5 = .ok (.bipush 8, 2) := by decide +kernel
theorem d_Script_address_7 : decode prog_4_method_4_code 7 = .ok (.ishl, 1) := by decide +kernel
theorem d_Script_address_8 : decode prog_4_method_4_code 8 = .ok (.aload_n 0, 1) := by decide +kernel
theorem d_Script_address_9 : decode prog_4_method_4_code 9 = .ok (.iload_n 1, 1) := by decide +kernel
theorem d_Script_address_10 : decode prog_4_method_4_code 10 = .ok (.iconst 1, 1) := by decide +kernel
theorem d_Script_address_11 : decode prog_4_method_4_code 11 = .ok (.iadd, 1) := by decide +kernel
theorem d_Script_address_12 : decode prog_4_method_4_code 12 = .ok (.invokevirtual 19, 3) := by decide +kernel
theorem d_Script_address_15 : decode prog_4_method_4_code 15 = .ok (.ior, 1) := by decide +kernel
theorem d_Script_address_16 : decode prog_4_method_4_code 16 = .ok (.ireturn, 1) := by decide +kernel
theorem d_Script_append_0 : decode prog_4_method_2_code 0 = .ok (.iload_n 2, 1) := by decide +kernel
theorem d_Script_append_1 : decode prog_4_method_2_code 1 = .ok (.iconst 1, 1) := by decide +kernel
theorem d_Script_append_2 : decode prog_4_method_2_code 2 = .ok (.if_icmp .lt 20, 3) := by decide +kernel
theorem d_Script_append_5 : decode prog_4_method_2_code 5 = .ok (.iload_n 2, 1) := by decide +kernel
theorem d_Script_append_6 : decode prog_4_method_2_code 6 = .ok (.iconst 4, 1) := by decide +kernel
theorem d_Script_append_7 : decode prog_4_method_2_code 7 = .ok (.if_icmp .gt 15, 3) := by decide +kernel
theorem d_Script_append_10 : decode prog_4_method_2_code 10 = .ok (.aload_n 0, 1) := by decide +kernel
theorem d_Script_append_11 : decode prog_4_method_2_code 11 = .ok (.getfield 15, 3) := by decide +kernel
theorem d_Script_append_14 : decode prog_4_method_2_code 14 = .ok (.iload_n 2, 1) := by decide +kernel
theorem d_Script_append_15 : decode prog_4_method_2_code 15 = .ok (.iadd, 1) := by decide +kernel
theorem d_Script_append_16 : decode prog_4_method_2_code 16 = .ok (.sipush 300, 3) := by decide +kernel
theorem d_Script_append_19 : decode prog_4_method_2_code 19 = .ok (.if_icmp .le 5, 3) := by decide +kernel
theorem d_Script_append_22 : decode prog_4_method_2_code 22 = .ok (.iconst 0, 1) := by decide +kernel
theorem d_Script_append_23 : decode prog_4_method_2_code 23 = .ok (.ireturn, 1) := by decide +kernel
theorem d_Script_append_24 : decode prog_4_method_2_code 24 = .ok (.iload_n 2, 1) := by decide +kernel
theorem d_Script_append_25 : decode prog_4_method_2_code 25 = .ok (.iconst 1, 1) := by decide +kernel
theorem d_Script_append_26 : decode prog_4_method_2_code 26 = .ok (.isub, 1) := by decide +kernel
theorem d_Script_append_27 : decode prog_4_method_2_code 27 = .ok (.istore_n 3, 1) := by decide +kernel
theorem d_Script_append_28 : decode prog_4_method_2_code 28 = .ok (.iload_n 3, 1) := by decide +kernel
theorem d_Script_append_29 : decode prog_4_method_2_code 29 = .ok (.ifCond .lt 38, 3) := by decide +kernel
theorem d_Script_append_32 : decode prog_4_method_2_code 32 = .ok (.aload_n 0, 1) := by decide +kernel
theorem d_Script_append_33 : decode prog_4_method_2_code 33 = .ok (.getfield 9, 3) := by decide +kernel
theorem d_Script_append_36 : decode prog_4_method_2_code 36 = .ok (.aload_n 0, 1) := by decide +kernel
theorem d_Script_append_37 : decode prog_4_method_2_code 37 = .ok (.getfield 15, 3) := by decide +kernel
theorem d_Script_append_40 : decode prog_4_method_2_code 40 = .ok (.iload_n 1, 1) := by decide +kernel
theorem d_Script_append_41 : decode prog_4_method_2_code 41 = .ok (.bipush 8, 2) := by decide +kernel
theorem d_Script_append_43 : decode prog_4_method_2_code 43 = .ok (.iload_n 3, 1) := by decide +kernel
theorem d_Script_append_44 : decode prog_4_method_2_code 44 = .ok (.imul, 1) := by decide +kernel
theorem d_Script_append_45 : decode prog_4_method_2_code 45 = .ok (.iushr, 1) := by decide +kernel
theorem d_Script_append_46 : decode prog_4_method_2_code 46 = .ok (.sipush 255, 3) := by decide +kernel
theorem d_Script_append_49 : decode prog_4_method_2_code 49 = .ok (.iand, 1) := by decide +kernel
theorem d_Script_append_50 : decode prog_4_method_2_code 50 = .ok (.iastore, 1) := by decide +kernel
theorem d_Script_append_51 : decode prog_4_method_2_code 51 = .ok (.aload_n 0, 1) := by decide +kernel
theorem d_Script_append_52 : decode prog_4_method_2_code 52 = .ok (.dup, 1) := by decide +kernel
theorem d_Script_append_53 : decode prog_4_method_2_code 53 = .ok (.getfield 15, 3) := by decide +kernel
theorem d_Script_append_56 : decode prog_4_method_2_code 56 = .ok (.iconst 1, 1) := by decide +kernel
theorem d_Script_append_57 : decode prog_4_method_2_code 57 = .ok (.iadd, 1) := by decide +kernel
theorem d_Script_append_58 : decode prog_4_method_2_code 58 = .ok (.putfield 15, 3) := by decide +kernel
theorem d_Script_append_61 : decode prog_4_method_2_code 61 = .ok (.iinc 3 (-1), 3) := by decide +kernel
theorem d_Script_append_64 : decode prog_4_method_2_code 64 = .ok (.goto (-36), 3) := by decide +kernel
theorem d_Script_append_67 : decode prog_4_method_2_code 67 = .ok (.iconst 1, 1) := by decide +kernel
theorem d_Script_append_68 : decode prog_4_method_2_code 68 = .ok (.ireturn, 1) := by decide +kernel
theorem d_Script_at_0 : decode prog_4_method_3_code 0 = .ok (.iload_n 1, 1) := by decide +kernel
theorem d_Script_at_1 : decode prog_4_method_3_code 1 = .ok (.ifCond .lt 20, 3) := by decide +kernel
theorem d_Script_at_4 : decode prog_4_method_3_code 4 = .ok (.iload_n 1, 1) := by decide +kernel
theorem d_Script_at_5 : decode prog_4_method_3_code 5 = .ok (.aload_n 0, 1) := by decide +kernel
theorem d_Script_at_6 : decode prog_4_method_3_code 6 = .ok (.getfield 15, 3) := by decide +kernel
theorem d_Script_at_9 : decode prog_4_method_3_code 9 = .ok (.if_icmp .ge 12, 3) := by decide +kernel
theorem d_Script_at_12 : decode prog_4_method_3_code 12 = .ok (.aload_n 0, 1) := by decide +kernel
theorem d_Script_at_13 : decode prog_4_method_3_code 13 = .ok (.getfield 9, 3) := by decide +kernel
theorem d_Script_at_16 : decode prog_4_method_3_code 16 = .ok (.iload_n 1, 1) := by decide +kernel
theorem d_Script_at_17 : decode prog_4_method_3_code 17 = .ok (.iaload, 1) := by decide +kernel
theorem d_Script_at_18 : decode prog_4_method_3_code 18 = .ok (.goto 4, 3) := by decide +kernel
theorem d_Script_at_21 : decode prog_4_method_3_code 21 = .ok (.iconst (-1), 1) := by decide +kernel
theorem d_Script_at_22 : decode prog_4_method_3_code 22 = .ok (.ireturn, 1) := by decide +kernel
theorem d_Script_beginning_0 : decode prog_4_method_10_code 0 = .ok (.iload_n 1, 1) := by decide +kernel
theorem d_Script_beginning_1 : decode prog_4_method_10_code 1 = .ok (.iconst 3, 1) := by decide +kernel
theorem d_Script_beginning_2 : decode prog_4_method_10_code 2 = .ok (.iadd, 1) := by decide +kernel
theorem d_Script_beginning_3 : decode prog_4_method_10_code 3 = .ok (.iconst 4, 1) := by decide +kernel
theorem d_Script_beginning_4 : decode prog_4_method_10_code 4 = .ok (.aload_n 0, 1) := by decide +kernel
theorem d_Script_beginning_5 : decode prog_4_method_10_code 5 = .ok (.iload_n 1, 1) := by decide +kernel
theorem d_Script_beginning_6 : decode prog_4_method_10_code 6 = .ok (.iconst 2, 1) := by decide +kernel
theorem d_Script_beginning_7 : decode prog_4_method_10_code 7 = .ok (.iadd, 1) := by decide +kernel
theorem d_Script_beginning_8 : decode prog_4_method_10_code 8 = .ok (.invokevirtual 19, 3) := by decide +kernel
theorem d_Script_beginning_11 : decode prog_4_method_10_code 11 = .ok (.imul, 1) := by decide +kernel
theorem d_Script_beginning_12 : decode prog_4_method_10_code 12 = .ok (.iadd, 1) := by decide +kernel
theorem d_Script_beginning_13 : decode prog_4_method_10_code 13 = .ok (.ireturn, 1) := by decide +kernel
theorem d_Script_behind_0 : decode prog_4_method_7_code 0 = .ok (.iload_n 2, 1) := by decide +kernel
theorem d_Script_behind_1 : decode prog_4_method_7_code 1 = .ok (.iconst (-1), 1) := by decide +kernel
theorem d_Script_behind_2 : decode prog_4_method_7_code 2 = .ok (.if_icmp .ne 7, 3) := by decide +kernel
theorem d_Script_behind_5 : decode prog_4_method_7_code 5 = .ok (.iload_n 1, 1) := by decide +kernel
theorem d_Script_behind_6 : decode prog_4_method_7_code 6 = .ok (.goto 10, 3) := by decide +kernel
theorem d_Script_behind_9 : decode prog_4_method_7_code 9 = .ok (.iload_n 1, 1) := by decide +kernel
theorem d_Script_behind_10 : decode prog_4_method_7_code 10 = .ok (.getstatic 26, 3) := by decide +kernel
theorem d_Script_behind_13 : decode prog_4_method_7_code 13 = .ok (.iload_n 2, 1) := by decide +kernel
theorem d_Script_behind_14 : decode prog_4_method_7_code 14 = .ok (.iaload, 1) := by decide +kernel
theorem d_Script_behind_15 : decode prog_4_method_7_code 15 = .ok (.iadd, 1) := by decide +kernel
theorem d_Script_behind_16 : decode prog_4_method_7_code 16 = .ok (.ireturn, 1) := by decide +kernel
theorem d_Script_instruction_0 : decode prog_4_method_6_code 0 = .ok (.aload_n 0, 1) := by decide +kernel
theorem d_Script_instruction_1 : decode prog_4_method_6_code 1 = .ok (.iload_n 1, 1) := by decide +kernel
theorem d_Script_instruction_2 : decode prog_4_method_6_code 2 = .ok (.invokevirtual 19, 3) := by decide +kernel
theorem d_Script_instruction_5 : decode prog_4_method_6_code 5 = .ok (.istore_n 2, 1) := by decide +kernel
theorem d_Script_instruction_6 : decode prog_4_method_6_code 6 = .ok (.iload_n 2, 1) := by decide +kernel
theorem d_Script_instruction_7 : decode prog_4_method_6_code 7 = .ok (.iconst (-1), 1) := by decide +kernel
theorem d_Script_instruction_8 : decode prog_4_method_6_code 8 = .ok (.if_icmp .eq 29, 3) := by decide +kernel
theorem d_Script_instruction_11 : decode prog_4_method_6_code 11 = .ok (.iload_n 2, 1) := by decide +kernel
theorem d_Script_instruction_12 : decode prog_4_method_6_code 12 = .ok (.getstatic 26, 3) := by decide +kernel
theorem d_Script_instruction_15 : decode prog_4_method_6_code 15 = .ok (.arraylength, 1) := by decide +kernel
theorem d_Script_instruction_16 : decode prog_4_method_6_code 16 = .ok (.if_icmp .ge 21, 3) := by decide +kernel
theorem d_Script_instruction_19 : decode prog_4_method_6_code 19 = .ok (.iload_n 1, 1) := by decide +kernel
theorem d_Script_instruction_20 : decode prog_4_method_6_code 20 = .ok (.getstatic 26, 3) := by decide +kernel
theorem d_Script_instruction_23 : decode prog_4_method_6_code 23 = .ok (.iload_n 2, 1) := by decide +kernel
theorem d_Script_instruction_24 : decode prog_4_method_6_code 24 = .ok (.iaload, 1) := by decide +kernel
theorem d_Script_instruction_25 : decode prog_4_method_6_code 25 = .ok (.iadd, 1) := by decide +kernel
theorem d_Script_instruction_26 : decode prog_4_method_6_code 26 = .ok (.aload_n 0, 1) := by decide +kernel
theorem d_Script_instruction_27 : decode prog_4_method_6_code 27 = .ok (.getfield 15, 3) := by decide +kernel
theorem d_Script_instruction_30 : decode prog_4_method_6_code 30 = .ok (.if_icmp .gt 7, 3) := by decide +kernel
theorem d_Script_instruction_33 : decode prog_4_method_6_code 33 = .ok (.iload_n 2, 1) := by decide +kernel
theorem d_Script_instruction_34 : decode prog_4_method_6_code 34 = .ok (.goto 4, 3) := by decide +kernel
theorem d_Script_instruction_37 : decode prog_4_method_6_code 37 = .ok (.iconst (-1), 1) := by decide +kernel
theorem d_Script_instruction_38 : decode prog_4_method_6_code 38 = .ok (.ireturn, 1) := by decide +kernel
theorem d_Script_isMethod_0 : decode prog_4_method_8_code 0 = .ok (.aload_n 0, 1) := by decide +kernel
theorem d_Script_isMethod_1 : decode prog_4_method_8_code 1 = .ok (.iload_n 1, 1) := by decide +kernel
theorem d_Script_isMethod_2 : decode prog_4_method_8_code 2 = .ok (.iconst 1, 1) := by decide +kernel
theorem d_Script_isMethod_3 : decode prog_4_method_8_code 3 = .ok (.iadd, 1) := by decide +kernel
theorem d_Script_isMethod_4 : decode prog_4_method_8_code 4 = .ok (.invokevirtual 19, 3) := by decide +kernel
theorem d_Script_isMethod_7 : decode prog_4_method_8_code 7 = .ok (.istore_n 3, 1) := by decide +kernel
theorem d_Script_isMethod_8 : decode prog_4_method_8_code 8 = .ok (.aload_n 0, 1) := by decide +kernel
theorem d_Script_isMethod_9 : decode prog_4_method_8_code 9 = .ok (.iload_n 1, 1) := by decide +kernel
theorem d_Script_isMethod_10 : decode prog_4_method_8_code 10 = .ok (.iconst 2, 1) := by decide +kernel
theorem d_Script_isMethod_11 : decode prog_4_method_8_code 11 = .ok (.iadd, 1) := by decide +kernel
theorem d_Script_isMethod_12 : decode prog_4_method_8_code 12 = .ok (.invokevirtual 19, 3) := by decide +kernel
theorem d_Script_isMethod_15 : decode prog_4_method_8_code 15 = .ok (.istore 4, 2) := by decide +kernel
theorem d_Script_isMethod_17 : decode prog_4_method_8_code 17 = .ok (.iload_n 2, 1) := by decide +kernel
theorem d_Script_isMethod_18 : decode prog_4_method_8_code 18 = .ok (.iconst 3, 1) := by decide +kernel
theorem d_Script_isMethod_19 : decode prog_4_method_8_code 19 = .ok (.if_icmp .gt 53, 3) := by decide +kernel
theorem d_Script_isMethod_22 : decode prog_4_method_8_code 22 = .ok (.aload_n 0, 1) := by decide +kernel
theorem d_Script_isMethod_23 : decode prog_4_method_8_code 23 = .ok (.iload_n 1, 1) := by decide +kernel
theorem d_Script_isMethod_24 : decode prog_4_method_8_code 24 = .ok (.invokevirtual 19, 3) := by decide +kernel
theorem d_Script_isMethod_27 : decode prog_4_method_8_code 27 = .ok (.iload_n 2, 1) := by decide +kernel
theorem d_Script_isMethod_28 : decode prog_4_method_8_code 28 = .ok (.if_icmp .ne 44, 3) := by decide +kernel
theorem d_Script_isMethod_31 : decode prog_4_method_8_code 31 = .ok (.iload_n 3, 1) := by decide +kernel
theorem d_Script_isMethod_32 : decode prog_4_method_8_code 32 = .ok (.iconst (-1), 1) := by decide +kernel
theorem d_Script_isMethod_33 : decode prog_4_method_8_code 33 = .ok (.if_icmp .eq 39, 3) := by decide +kernel
theorem d_Script_isMethod_36 : decode prog_4_method_8_code 36 = .ok (.iload_n 3, 1) := by decide +kernel
theorem d_Script_isMethod_37 : decode prog_4_method_8_code 37 = .ok (.iconst 3, 1) := by decide +kernel
theorem d_Script_isMethod_38 : decode prog_4_method_8_code 38 = .ok (.if_icmp .gt 34, 3) := by decide +kernel
theorem d_Script_isMethod_41 : decode prog_4_method_8_code 41 = .ok (.iload 4, 2) := by decide +kernel
theorem d_Script_isMethod_43 : decode prog_4_method_8_code 43 = .ok (.iconst (-1), 1) := by decide +kernel
theorem d_Script_isMethod_44 : decode prog_4_method_8_code 44 = .ok (.if_icmp .eq 28, 3) := by decide +kernel
theorem d_Script_isMethod_47 : decode prog_4_method_8_code 47 = .ok (.iload 4, 2) := by decide +kernel
theorem d_Script_isMethod_49 : decode prog_4_method_8_code 49 = .ok (.iconst 3, 1) := by decide +kernel
theorem d_Script_isMethod_50 : decode prog_4_method_8_code 50 = .ok (.if_icmp .gt 22, 3) := by decide +kernel
theorem d_Script_isMethod_53 : decode prog_4_method_8_code 53 = .ok (.iload_n 1, 1) := by decide +kernel
theorem d_Script_isMethod_54 : decode prog_4_method_8_code 54 = .ok (.iconst 3, 1) := by decide +kernel
theorem d_Script_isMethod_55 : decode prog_4_method_8_code 55 = .ok (.iadd, 1) := by decide +kernel
theorem d_Script_isMethod_56 : decode prog_4_method_8_code 56 = .ok (.iconst 4, 1) := by decide +kernel
theorem d_Script_isMethod_57 : decode prog_4_method_8_code 57 = .ok (.iload 4, 2) := by decide +kernel
theorem d_Script_isMethod_59 : decode prog_4_method_8_code 59 = .ok (.imul, 1) := by decide +kernel
theorem d_Script_isMethod_60 : decode prog_4_method_8_code 60 = .ok (.iadd, 1) := by decide +kernel
theorem d_Script_isMethod_61 : decode prog_4_method_8_code 61 = .ok (.aload_n 0, 1) := by decide +kernel
theorem d_Script_isMethod_62 : decode prog_4_method_8_code 62 = .ok (.getfield 15, 3) := by decide +kernel
theorem d_Script_isMethod_65 : decode prog_4_method_8_code 65 = .ok (.if_icmp .gt 7, 3) := by decide +kernel
theorem d_Script_isMethod_68 : decode prog_4_method_8_code 68 = .ok (.iconst 1, 1) := by decide +kernel
theorem d_Script_isMethod_69 : decode prog_4_method_8_code 69 = .ok (.goto 4, 3) := by decide +kernel
theorem d_Script_isMethod_72 : decode prog_4_method_8_code 72 = .ok (.iconst 0, 1) := by decide +kernel
theorem d_Script_isMethod_73 : decode prog_4_method_8_code 73 = .ok (.ireturn, 1) := by decide +kernel
theorem d_Script_locals_0 : decode prog_4_method_9_code 0 = .ok (.aload_n 0, 1) := by decide +kernel
theorem d_Script_locals_1 : decode prog_4_method_9_code 1 = .ok (.iload_n 1, 1) := by decide +kernel
theorem d_Script_locals_2 : decode prog_4_method_9_code 2 = .ok (.iconst 1, 1) := by decide +kernel
theorem d_Script_locals_3 : decode prog_4_method_9_code 3 = .ok (.iadd, 1) := by decide +kernel
theorem d_Script_locals_4 : decode prog_4_method_9_code 4 = .ok (.invokevirtual 19, 3) := by decide +kernel
theorem d_Script_locals_7 : decode prog_4_method_9_code 7 = .ok (.ireturn, 1) := by decide +kernel
theorem d_Script_number_0 : decode prog_4_method_5_code 0 = .ok (.aload_n 0, 1) := by decide +kernel
theorem d_Script_number_1 : decode prog_4_method_5_code 1 = .ok (.iload_n 1, 1) := by decide +kernel
theorem d_Script_number_2 : decode prog_4_method_5_code 2 = .ok (.invokevirtual 23, 3) := by decide +kernel
theorem d_Script_number_5 : decode prog_4_method_5_code 5 = .ok (.bipush 16, 2) := by decide +kernel
theorem d_Script_number_7 : decode prog_4_method_5_code 7 = .ok (.ishl, 1) := by decide +kernel
theorem d_Script_number_8 : decode prog_4_method_5_code 8 = .ok (.aload_n 0, 1) := by decide +kernel
theorem d_Script_number_9 : decode prog_4_method_5_code 9 = .ok (.iload_n 1, 1) := by decide +kernel
theorem d_Script_number_10 : decode prog_4_method_5_code 10 = .ok (.iconst 2, 1) := by decide +kernel
theorem d_Script_number_11 : decode prog_4_method_5_code 11 = .ok (.iadd, 1) := by decide +kernel
theorem d_Script_number_12 : decode prog_4_method_5_code 12 = .ok (.invokevirtual 23, 3) := by decide +kernel
theorem d_Script_number_15 : decode prog_4_method_5_code 15 = .ok (.ior, 1) := by decide +kernel
theorem d_Script_number_16 : decode prog_4_method_5_code 16 = .ok (.ireturn, 1) := by decide +kernel
theorem d_State_init_0 : decode prog_5_method_1_code 0 = .ok (.aload_n 0, 1) := by decide +kernel
theorem d_State_init_1 : decode prog_5_method_1_code 1 = .ok (.invokespecial 3, 3) := by decide +kernel
theorem d_State_init_4 : decode prog_5_method_1_code 4 = .ok (.aload_n 0, 1) := by decide +kernel
theorem d_State_init_5 : decode prog_5_method_1_code 5 = .ok (.sipush 256, 3) := by decide +kernel
theorem d_State_init_8 : decode prog_5_method_1_code 8 = .ok (.newarray .int, 2) := by decide +kernel
theorem d_State_init_10 : decode prog_5_method_1_code 10 = .ok (.putfield 9, 3) := by decide +kernel
theorem d_State_init_13 : decode prog_5_method_1_code 13 = .ok (.aload_n 0, 1) := by decide +kernel
theorem d_State_init_14 : decode prog_5_method_1_code 14 = .ok (.sipush 256, 3) := by decide +kernel
theorem d_State_init_17 : decode prog_5_method_1_code 17 = .ok (.newarray .int, 2) := by decide +kernel
theorem d_State_init_19 : decode prog_5_method_1_code 19 = .ok (.putfield 15, 3) := by decide +kernel
theorem d_State_init_22 : decode prog_5_method_1_code 22 = .ok (.aload_n 0, 1) := by decide +kernel
theorem d_State_init_23 : decode prog_5_method_1_code 23 = .ok (.bipush 16, 2) := by decide +kernel
theorem d_State_init_25 : decode prog_5_method_1_code 25 = .ok (.newarray .int, 2) := by decide +kernel
theorem d_State_init_27 : decode prog_5_method_1_code 27 = .ok (.putfield 18, 3) := by decide +kernel
theorem d_State_init_30 : decode prog_5_method_1_code 30 = .ok (.aload_n 0, 1) := by decide +kernel
theorem d_State_init_31 : decode prog_5_method_1_code 31 = .ok (.getfield 9, 3) := by decide +kernel
theorem d_State_init_34 : decode prog_5_method_1_code 34 = .ok (.iconst (-1), 1) := by decide +kernel
theorem d_State_init_35 : decode prog_5_method_1_code 35 = .ok (.invokestatic 21, 3) := by decide +kernel
theorem d_State_init_38 : decode prog_5_method_1_code 38 = .ok (.aload_n 0, 1) := by decide +kernel
theorem d_State_init_39 : decode prog_5_method_1_code 39 = .ok (.getfield 18, 3) := by decide +kernel
theorem d_State_init_42 : decode prog_5_method_1_code 42 = .ok (.iconst (-1), 1) := by decide +kernel
theorem d_State_init_43 : decode prog_5_method_1_code 43 = .ok (.invokestatic 21, 3) := by decide +kernel
theorem d_State_init_46 : decode prog_5_method_1_code 46 = .ok (.return_, 1) := by decide +kernel
theorem d_State_copy_0 : decode prog_5_method_2_code 0 = .ok (.aload_n 1, 1) := by decide +kernel
theorem d_State_copy_1 : decode prog_5_method_2_code 1 = .ok (.getfield 9, 3) := by decide +kernel
theorem d_State_copy_4 : decode prog_5_method_2_code 4 = .ok (.iconst 0, 1) := by decide +kernel
theorem d_State_copy_5 : decode prog_5_method_2_code 5 = .ok (.aload_n 0, 1) := by decide +kernel
theorem d_State_copy_6 : decode prog_5_method_2_code 6 = .ok (.getfield 9, 3) := by decide +kernel
theorem d_State_copy_9 : decode prog_5_method_2_code 9 = .ok (.iconst 0, 1) := by decide +kernel
theorem d_State_copy_10 : decode prog_5_method_2_code 10 = .ok (.aload_n 0, 1) := by decide +kernel
theorem d_State_copy_11 : decode prog_5_method_2_code 11 = .ok (.getfield 9, 3) := by decide +kernel
theorem d_State_copy_14 : decode prog_5_method_2_code 14 = .ok (.arraylength, 1) := by decide +kernel
theorem d_State_copy_15 : decode prog_5_method_2_code 15 = .ok (.invokestatic 27, 3) := by decide +kernel
theorem d_State_copy_18 : decode prog_5_method_2_code 18 = .ok (.aload_n 1, 1) := by decide +kernel
theorem d_State_copy_19 : decode prog_5_method_2_code 19 = .ok (.getfield 15, 3) := by decide +kernel
theorem d_State_copy_22 : decode prog_5_method_2_code 22 = .ok (.iconst 0, 1) := by decide +kernel
theorem d_State_copy_23 : decode prog_5_method_2_code 23 = .ok (.aload_n 0, 1) := by decide +kernel
theorem d_State_copy_24 : decode prog_5_method_2_code 24 = .ok (.getfield 15, 3) := by decide +kernel
theorem d_State_copy_27 : decode prog_5_method_2_code 27 = .ok (.iconst 0, 1) := by decide +kernel
theorem d_State_copy_28 : decode prog_5_method_2_code 28 = .ok (.aload_n 0, 1) := by decide +kernel
theorem d_State_copy_29 : decode prog_5_method_2_code 29 = .ok (.getfield 15, 3) := by decide +kernel
theorem d_State_copy_32 : decode prog_5_method_2_code 32 = .ok (.arraylength, 1) := by decide +kernel
theorem d_State_copy_33 : decode prog_5_method_2_code 33 = .ok (.invokestatic 27, 3) := by decide +kernel
theorem d_State_copy_36 : decode prog_5_method_2_code 36 = .ok (.aload_n 1, 1) := by decide +kernel
theorem d_State_copy_37 : decode prog_5_method_2_code 37 = .ok (.getfield 18, 3) := by decide +kernel
theorem d_State_copy_40 : decode prog_5_method_2_code 40 = .ok (.iconst 0, 1) := by decide +kernel
theorem d_State_copy_41 : decode prog_5_method_2_code 41 = .ok (.aload_n 0, 1) := by decide +kernel
theorem d_State_copy_42 : decode prog_5_method_2_code 42 = .ok (.getfield 18, 3) := by decide +kernel
theorem d_State_copy_45 : decode prog_5_method_2_code 45 = .ok (.iconst 0, 1) := by decide +kernel
theorem d_State_copy_46 : decode prog_5_method_2_code 46 = .ok (.aload_n 0, 1) := by decide +kernel
theorem d_State_copy_47 : decode prog_5_method_2_code 47 = .ok (.getfield 18, 3) := by decide +kernel
theorem d_State_copy_50 : decode prog_5_method_2_code 50 = .ok (.arraylength, 1) := by decide +kernel
theorem d_State_copy_51 : decode prog_5_method_2_code 51 = .ok (.invokestatic 27, 3) := by decide +kernel
theorem d_State_copy_54 : decode prog_5_method_2_code 54 = .ok (.return_, 1) := by decide +kernel
theorem d_Teller_init_0 : decode prog_6_method_1_code 0 = .ok (.aload_n 0, 1) := by decide +kernel
theorem d_Teller_init_1 : decode prog_6_method_1_code 1 = .ok (.invokespecial 3, 3) := by decide +kernel
theorem d_Teller_init_4 : decode prog_6_method_1_code 4 = .ok (.aload_n 0, 1) := by decide +kernel
theorem d_Teller_init_5 : decode prog_6_method_1_code 5 = .ok (.bipush 8, 2) := by decide +kernel
theorem d_Teller_init_7 : decode prog_6_method_1_code 7 = .ok (.anewarray 9, 3) := by decide +kernel
theorem d_Teller_init_10 : decode prog_6_method_1_code 10 = .ok (.putfield 11, 3) := by decide +kernel
theorem d_Teller_init_13 : decode prog_6_method_1_code 13 = .ok (.aload_n 0, 1) := by decide +kernel
theorem d_Teller_init_14 : decode prog_6_method_1_code 14 = .ok (.new 17, 3) := by decide +kernel
theorem d_Teller_init_17 : decode prog_6_method_1_code 17 = .ok (.dup, 1) := by decide +kernel
theorem d_Teller_init_18 : decode prog_6_method_1_code 18 = .ok (.bipush 40, 2) := by decide +kernel
theorem d_Teller_init_20 : decode prog_6_method_1_code 20 = .ok (.invokespecial 19, 3) := by decide +kernel
theorem d_Teller_init_23 : decode prog_6_method_1_code 23 = .ok (.putfield 22, 3) := by decide +kernel
theorem d_Teller_init_26 : decode prog_6_method_1_code 26 = .ok (.aload_n 0, 1) := by decide +kernel
theorem d_Teller_init_27 : decode prog_6_method_1_code 27 = .ok (.new 17, 3) := by decide +kernel
theorem d_Teller_init_30 : decode prog_6_method_1_code 30 = .ok (.dup, 1) := by decide +kernel
theorem d_Teller_init_31 : decode prog_6_method_1_code 31 = .ok (.bipush 50, 2) := by decide +kernel
theorem d_Teller_init_33 : decode prog_6_method_1_code 33 = .ok (.invokespecial 19, 3) := by decide +kernel
theorem d_Teller_init_36 : decode prog_6_method_1_code 36 = .ok (.putfield 26, 3) := by decide +kernel
theorem d_Teller_init_39 : decode prog_6_method_1_code 39 = .ok (.aload_n 0, 1) := by decide +kernel
theorem d_Teller_init_40 : decode prog_6_method_1_code 40 = .ok (.new 17, 3) := by decide +kernel
theorem d_Teller_init_43 : decode prog_6_method_1_code 43 = .ok (.dup, 1) := by decide +kernel
theorem d_Teller_init_44 : decode prog_6_method_1_code 44 = .ok (.iconst 1, 1) := by decide +kernel
theorem d_Teller_init_45 : decode prog_6_method_1_code 45 = .ok (.invokespecial 19, 3) := by decide +kernel
theorem d_Teller_init_48 : decode prog_6_method_1_code 48 = .ok (.putfield 29, 3) := by decide +kernel
theorem d_Teller_init_51 : decode prog_6_method_1_code 51 = .ok (.aload_n 0, 1) := by decide +kernel
theorem d_Teller_init_52 : decode prog_6_method_1_code 52 = .ok (.iconst (-1), 1) := by decide +kernel
theorem d_Teller_init_53 : decode prog_6_method_1_code 53 = .ok (.putfield 32, 3) := by decide +kernel
theorem d_Teller_init_56 : decode prog_6_method_1_code 56 = .ok (.aload_n 0, 1) := by decide +kernel
theorem d_Teller_init_57 : decode prog_6_method_1_code 57 = .ok (.aload_n 1, 1) := by decide +kernel
theorem d_Teller_init_58 : decode prog_6_method_1_code 58 = .ok (.putfield 36, 3) := by decide +kernel
theorem d_Teller_init_61 : decode prog_6_method_1_code 61 = .ok (.aload_n 0, 1) := by decide +kernel
theorem d_Teller_init_62 : decode prog_6_method_1_code 62 = .ok (.aload_n 2, 1) := by decide +kernel
theorem d_Teller_init_63 : decode prog_6_method_1_code 63 = .ok (.putfield 40, 3) := by decide +kernel
theorem d_Teller_init_66 : decode prog_6_method_1_code 66 = .ok (.aload_n 0, 1) := by decide +kernel
theorem d_Teller_init_67 : decode prog_6_method_1_code 67 = .ok (.aload_n 3, 1) := by decide +kernel
theorem d_Teller_init_68 : decode prog_6_method_1_code 68 = .ok (.putfield 44, 3) := by decide +kernel
theorem d_Teller_init_71 : decode prog_6_method_1_code 71 = .ok (.iconst 0, 1) := by decide +kernel
theorem d_Teller_init_72 : decode prog_6_method_1_code 72 = .ok (.istore 4, 2) := by decide +kernel
theorem d_Teller_init_74 : decode prog_6_method_1_code 74 = .ok (.iload 4, 2) := by decide +kernel
theorem d_Teller_init_76 : decode prog_6_method_1_code 76 = .ok (.bipush 8, 2) := by decide +kernel
theorem d_Teller_init_78 : decode prog_6_method_1_code 78 = .ok (.if_icmp .ge 23, 3) := by decide +kernel
theorem d_Teller_init_81 : decode prog_6_method_1_code 81 = .ok (.aload_n 0, 1) := by decide +kernel
theorem d_Teller_init_82 : decode prog_6_method_1_code 82 = .ok (.getfield 11, 3) := by decide +kernel
theorem d_Teller_init_85 : decode prog_6_method_1_code 85 = .ok (.iload 4, 2) := by decide +kernel
theorem d_Teller_init_87 : decode prog_6_method_1_code 87 = .ok (.new 9, 3) := by decide +kernel
theorem d_Teller_init_90 : decode prog_6_method_1_code 90 = .ok (.dup, 1) := by decide +kernel
theorem d_Teller_init_91 : decode prog_6_method_1_code 91 = .ok (.invokespecial 48, 3) := by decide +kernel
theorem d_Teller_init_94 : decode prog_6_method_1_code 94 = .ok (.aastore, 1) := by decide +kernel
theorem d_Teller_init_95 : decode prog_6_method_1_code 95 = .ok (.iinc 4 1, 3) := by decide +kernel
theorem d_Teller_init_98 : decode prog_6_method_1_code 98 = .ok (.goto (-24), 3) := by decide +kernel
theorem d_Teller_init_101 : decode prog_6_method_1_code 101 = .ok (.return_, 1) := by decide +kernel
theorem d_Teller_answer_0 : decode prog_6_method_27_code 0 = .ok (.iload_n 3, 1) := by decide +kernel
theorem d_Teller_answer_1 : decode prog_6_method_27_code 1 = .ok (.iconst (-1), 1) := by decide +kernel
theorem d_Teller_answer_2 : decode prog_6_method_27_code 2 = .ok (.if_icmp .ne 7, 3) := by decide +kernel
theorem d_Teller_answer_5 : decode prog_6_method_27_code 5 = .ok (.iconst 0, 1) := by decide +kernel
theorem d_Teller_answer_6 : decode prog_6_method_27_code 6 = .ok (.goto 13, 3) := by decide +kernel
theorem d_Teller_answer_9 : decode prog_6_method_27_code 9 = .ok (.aload_n 0, 1) := by decide +kernel
theorem d_Teller_answer_10 : decode prog_6_method_27_code 10 = .ok (.getfield 40, 3) := by decide +kernel
theorem d_Teller_answer_13 : decode prog_6_method_27_code 13 = .ok (.iload_n 3, 1) := by decide +kernel
theorem d_Teller_answer_14 : decode prog_6_method_27_code 14 = .ok (.iload 4, 2) := by decide +kernel
theorem d_Teller_answer_16 : decode prog_6_method_27_code 16 = .ok (.invokevirtual 242, 3) := by decide +kernel
theorem d_Teller_answer_19 : decode prog_6_method_27_code 19 = .ok (.istore 7, 2) := by decide +kernel
theorem d_Teller_answer_21 : decode prog_6_method_27_code 21 = .ok (.iload_n 3, 1) := by decide +kernel
theorem d_Teller_answer_22 : decode prog_6_method_27_code 22 = .ok (.iconst (-1), 1) := by decide +kernel
theorem d_Teller_answer_23 : decode prog_6_method_27_code 23 = .ok (.if_icmp .ne 7, 3) := by decide +kernel
theorem d_Teller_answer_26 : decode prog_6_method_27_code 26 = .ok (.iconst 0, 1) := by decide +kernel
theorem d_Teller_answer_27 : decode prog_6_method_27_code 27 = .ok (.goto 13, 3) := by decide +kernel
theorem d_Teller_answer_30 : decode prog_6_method_27_code 30 = .ok (.aload_n 0, 1) := by decide +kernel
theorem d_Teller_answer_31 : decode prog_6_method_27_code 31 = .ok (.getfield 40, 3) := by decide +kernel
theorem d_Teller_answer_34 : decode prog_6_method_27_code 34 = .ok (.iload_n 3, 1) := by decide +kernel
theorem d_Teller_answer_35 : decode prog_6_method_27_code 35 = .ok (.iload 4, 2) := by decide +kernel
theorem d_Teller_answer_37 : decode prog_6_method_27_code 37 = .ok (.invokevirtual 245, 3) := by decide +kernel
theorem d_Teller_answer_40 : decode prog_6_method_27_code 40 = .ok (.istore 8, 2) := by decide +kernel
theorem d_Teller_answer_42 : decode prog_6_method_27_code 42 = .ok (.iload 7, 2) := by decide +kernel
theorem d_Teller_answer_44 : decode prog_6_method_27_code 44 = .ok (.iconst 4, 1) := by decide +kernel
theorem d_Teller_answer_45 : decode prog_6_method_27_code 45 = .ok (.if_icmp .ne 16, 3) := by decide +kernel
theorem d_Teller_answer_48 : decode prog_6_method_27_code 48 = .ok (.aload_n 0, 1) := by decide +kernel
theorem d_Teller_answer_49 : decode prog_6_method_27_code 49 = .ok (.iload 8, 2) := by decide +kernel
theorem d_Teller_answer_51 : decode prog_6_method_27_code 51 = .ok (.iload 5, 2) := by decide +kernel
theorem d_Teller_answer_53 : decode prog_6_method_27_code 53 = .ok (.iload 6, 2) := by decide +kernel
theorem d_Teller_answer_55 : decode prog_6_method_27_code 55 = .ok (.iload_n 2, 1) := by decide +kernel
theorem d_Teller_answer_56 : decode prog_6_method_27_code 56 = .ok (.iload_n 3, 1) := by decide +kernel
theorem d_Teller_answer_57 : decode prog_6_method_27_code 57 = .ok (.invokevirtual 55, 3) := by decide +kernel
theorem d_Teller_answer_60 : decode prog_6_method_27_code 60 = .ok (.ireturn, 1) := by decide +kernel
theorem d_Teller_answer_61 : decode prog_6_method_27_code 61 = .ok (.iload 5, 2) := by decide +kernel
theorem d_Teller_answer_63 : decode prog_6_method_27_code 63 = .ok (.ifCond .eq 5, 3) := by decide +kernel
theorem d_Teller_answer_66 : decode prog_6_method_27_code 66 = .ok (.iconst 0, 1) := by decide +kernel
theorem d_Teller_answer_67 : decode prog_6_method_27_code 67 = .ok (.ireturn, 1) := by decide +kernel
theorem d_Teller_answer_68 : decode prog_6_method_27_code 68 = .ok (.aload_n 0, 1) := by decide +kernel
theorem d_Teller_answer_69 : decode prog_6_method_27_code 69 = .ok (.getfield 22, 3) := by decide +kernel
theorem d_Teller_answer_72 : decode prog_6_method_27_code 72 = .ok (.dup, 1) := by decide +kernel
theorem d_Teller_answer_73 : decode prog_6_method_27_code 73 = .ok (.getfield 52, 3) := by decide +kernel
theorem d_Teller_answer_76 : decode prog_6_method_27_code 76 = .ok (.iload 6, 2) := by decide +kernel
theorem d_Teller_answer_78 : decode prog_6_method_27_code 78 = .ok (.isub, 1) := by decide +kernel
theorem d_Teller_answer_79 : decode prog_6_method_27_code 79 = .ok (.putfield 52, 3) := by decide +kernel
theorem d_Teller_answer_82 : decode prog_6_method_27_code 82 = .ok (.aload_n 0, 1) := by decide +kernel
theorem d_Teller_answer_83 : decode prog_6_method_27_code 83 = .ok (.aload_n 1, 1) := by decide +kernel
theorem d_Teller_answer_84 : decode prog_6_method_27_code 84 = .ok (.iload 7, 2) := by decide +kernel
theorem d_Teller_answer_86 : decode prog_6_method_27_code 86 = .ok (.iload 8, 2) := by decide +kernel
theorem d_Teller_answer_88 : decode prog_6_method_27_code 88 = .ok (.invokevirtual 119, 3) := by decide +kernel
theorem d_Teller_answer_91 : decode prog_6_method_27_code 91 = .ok (.ireturn, 1) := by decide +kernel
theorem d_Teller_ask_0 : decode prog_6_method_25_code 0 = .ok (.iload_n 3, 1) := by decide +kernel
theorem d_Teller_ask_1 : decode prog_6_method_25_code 1 = .ok (.invokestatic 229, 3) := by decide +kernel
theorem d_Teller_ask_4 : decode prog_6_method_25_code 4 = .ok (.ifCond .eq 22, 3) := by decide +kernel
theorem d_Teller_ask_7 : decode prog_6_method_25_code 7 = .ok (.aload_n 0, 1) := by decide +kernel
theorem d_Teller_ask_8 : decode prog_6_method_25_code 8 = .ok (.aload_n 1, 1) := by decide +kernel
theorem d_Teller_ask_9 : decode prog_6_method_25_code 9 = .ok (.invokevirtual 190, 3) := by decide +kernel
theorem d_Teller_ask_12 : decode prog_6_method_25_code 12 = .ok (.ifCond .eq 14, 3) := by decide +kernel
theorem d_Teller_ask_15 : decode prog_6_method_25_code 15 = .ok (.aload_n 0, 1) := by decide +kernel
theorem d_Teller_ask_16 : decode prog_6_method_25_code 16 = .ok (.aload_n 1, 1) := by decide +kernel
theorem d_Teller_ask_17 : decode prog_6_method_25_code 17 = .ok (.iload_n 2, 1) := by decide +kernel
theorem d_Teller_ask_18 : decode prog_6_method_25_code 18 = .ok (.iconst 1, 1) := by decide +kernel
theorem d_Teller_ask_19 : decode prog_6_method_25_code 19 = .ok (.iadd, 1) := by decide +kernel
theorem d_Teller_ask_20 : decode prog_6_method_25_code 20 = .ok (.invokevirtual 146, 3) := by decide +kernel
theorem d_Teller_ask_23 : decode prog_6_method_25_code 23 = .ok (.ifCond .ne 5, 3) := by decide +kernel
theorem d_Teller_ask_26 : decode prog_6_method_25_code 26 = .ok (.iconst 0, 1) := by decide +kernel
theorem d_Teller_ask_27 : decode prog_6_method_25_code 27 = .ok (.ireturn, 1) := by decide +kernel
theorem d_Teller_ask_28 : decode prog_6_method_25_code 28 = .ok (.aload_n 0, 1) := by decide +kernel
theorem d_Teller_ask_29 : decode prog_6_method_25_code 29 = .ok (.invokevirtual 184, 3) := by decide +kernel
theorem d_Teller_ask_32 : decode prog_6_method_25_code 32 = .ok (.istore 4, 2) := by decide +kernel
theorem d_Teller_ask_34 : decode prog_6_method_25_code 34 = .ok (.aload_n 0, 1) := by decide +kernel
theorem d_Teller_ask_35 : decode prog_6_method_25_code 35 = .ok (.aload_n 1, 1) := by decide +kernel
theorem d_Teller_ask_36 : decode prog_6_method_25_code 36 = .ok (.iload 4, 2) := by decide +kernel
theorem d_Teller_ask_38 : decode prog_6_method_25_code 38 = .ok (.aload_n 0, 1) := by decide +kernel
theorem d_Teller_ask_39 : decode prog_6_method_25_code 39 = .ok (.getfield 40, 3) := by decide +kernel
theorem d_Teller_ask_42 : decode prog_6_method_25_code 42 = .ok (.iload 4, 2) := by decide +kernel
theorem d_Teller_ask_44 : decode prog_6_method_25_code 44 = .ok (.iload_n 3, 1) := by decide +kernel
theorem d_Teller_ask_45 : decode prog_6_method_25_code 45 = .ok (.invokevirtual 232, 3) := by decide +kernel
theorem d_Teller_ask_48 : decode prog_6_method_25_code 48 = .ok (.iload_n 3, 1) := by decide +kernel
theorem d_Teller_ask_49 : decode prog_6_method_25_code 49 = .ok (.iload_n 2, 1) := by decide +kernel
theorem d_Teller_ask_50 : decode prog_6_method_25_code 50 = .ok (.iconst 1, 1) := by decide +kernel
theorem d_Teller_ask_51 : decode prog_6_method_25_code 51 = .ok (.invokevirtual 235, 3) := by decide +kernel
theorem d_Teller_ask_54 : decode prog_6_method_25_code 54 = .ok (.ireturn, 1) := by decide +kernel
theorem d_Teller_bringBack_0 : decode prog_6_method_37_code 0 = .ok (.iload_n 2, 1) := by decide +kernel
theorem d_Teller_bringBack_1 : decode prog_6_method_37_code 1 = .ok (.ifCond .lt 46, 3) := by decide +kernel
theorem d_Teller_bringBack_4 : decode prog_6_method_37_code 4 = .ok (.iload_n 2, 1) := by decide +kernel
theorem d_Teller_bringBack_5 : decode prog_6_method_37_code 5 = .ok (.iconst 2, 1) := by decide +kernel
theorem d_Teller_bringBack_6 : decode prog_6_method_37_code 6 = .ok (.if_icmp .ge 41, 3) := by decide +kernel
theorem d_Teller_bringBack_9 : decode prog_6_method_37_code 9 = .ok (.aload_n 0, 1) := by decide +kernel
theorem d_Teller_bringBack_10 : decode prog_6_method_37_code 10 = .ok (.getfield 22, 3) := by decide +kernel
theorem d_Teller_bringBack_13 : decode prog_6_method_37_code 13 = .ok (.invokevirtual 205, 3) := by decide +kernel
theorem d_Teller_bringBack_16 : decode prog_6_method_37_code 16 = .ok (.ifCond .ne 31, 3) := by decide +kernel
theorem d_Teller_bringBack_19 : decode prog_6_method_37_code 19 = .ok (.aload_n 0, 1) := by decide +kernel
theorem d_Teller_bringBack_20 : decode prog_6_method_37_code 20 = .ok (.aload_n 1, 1) := by decide +kernel
theorem d_Teller_bringBack_21 : decode prog_6_method_37_code 21 = .ok (.iconst 0, 1) := by decide +kernel
theorem d_Teller_bringBack_22 : decode prog_6_method_37_code 22 = .ok (.aload_n 0, 1) := by decide +kernel
theorem d_Teller_bringBack_23 : decode prog_6_method_37_code 23 = .ok (.getfield 44, 3) := by decide +kernel
theorem d_Teller_bringBack_26 : decode prog_6_method_37_code 26 = .ok (.iload_n 2, 1) := by decide +kernel
theorem d_Teller_bringBack_27 : decode prog_6_method_37_code 27 = .ok (.aload_n 0, 1) := by decide +kernel
theorem d_Teller_bringBack_28 : decode prog_6_method_37_code 28 = .ok (.getfield 40, 3) := by decide +kernel
theorem d_Teller_bringBack_31 : decode prog_6_method_37_code 31 = .ok (.getfield 209, 3) := by decide +kernel
theorem d_Teller_bringBack_34 : decode prog_6_method_37_code 34 = .ok (.invokevirtual 290, 3) := by decide +kernel
theorem d_Teller_bringBack_37 : decode prog_6_method_37_code 37 = .ok (.invokevirtual 161, 3) := by decide +kernel
theorem d_Teller_bringBack_40 : decode prog_6_method_37_code 40 = .ok (.ifCond .eq 7, 3) := by decide +kernel
theorem d_Teller_bringBack_43 : decode prog_6_method_37_code 43 = .ok (.iconst 1, 1) := by decide +kernel
theorem d_Teller_bringBack_44 : decode prog_6_method_37_code 44 = .ok (.goto 4, 3) := by decide +kernel
theorem d_Teller_bringBack_47 : decode prog_6_method_37_code 47 = .ok (.iconst 0, 1) := by decide +kernel
theorem d_Teller_bringBack_48 : decode prog_6_method_37_code 48 = .ok (.ireturn, 1) := by decide +kernel
theorem d_Teller_calculate_0 : decode prog_6_method_20_code 0 = .ok (.aload_n 0, 1) := by decide +kernel
theorem d_Teller_calculate_1 : decode prog_6_method_20_code 1 = .ok (.getfield 22, 3) := by decide +kernel
theorem d_Teller_calculate_4 : decode prog_6_method_20_code 4 = .ok (.getfield 52, 3) := by decide +kernel
theorem d_Teller_calculate_7 : decode prog_6_method_20_code 7 = .ok (.iconst 1, 1) := by decide +kernel
theorem d_Teller_calculate_8 : decode prog_6_method_20_code 8 = .ok (.isub, 1) := by decide +kernel
theorem d_Teller_calculate_9 : decode prog_6_method_20_code 9 = .ok (.istore_n 3, 1) := by decide +kernel
theorem d_Teller_calculate_10 : decode prog_6_method_20_code 10 = .ok (.iload_n 3, 1) := by decide +kernel
theorem d_Teller_calculate_11 : decode prog_6_method_20_code 11 = .ok (.iconst 1, 1) := by decide +kernel
theorem d_Teller_calculate_12 : decode prog_6_method_20_code 12 = .ok (.isub, 1) := by decide +kernel
theorem d_Teller_calculate_13 : decode prog_6_method_20_code 13 = .ok (.istore 4, 2) := by decide +kernel
theorem d_Teller_calculate_15 : decode prog_6_method_20_code 15 = .ok (.aload_n 0, 1) := by decide +kernel
theorem d_Teller_calculate_16 : decode prog_6_method_20_code 16 = .ok (.aload_n 1, 1) := by decide +kernel
theorem d_Teller_calculate_17 : decode prog_6_method_20_code 17 = .ok (.iconst 2, 1) := by decide +kernel
theorem d_Teller_calculate_18 : decode prog_6_method_20_code 18 = .ok (.invokevirtual 146, 3) := by decide +kernel
theorem d_Teller_calculate_21 : decode prog_6_method_20_code 21 = .ok (.ifCond .eq 30, 3) := by decide +kernel
theorem d_Teller_calculate_24 : decode prog_6_method_20_code 24 = .ok (.aload_n 0, 1) := by decide +kernel
theorem d_Teller_calculate_25 : decode prog_6_method_20_code 25 = .ok (.getfield 22, 3) := by decide +kernel
theorem d_Teller_calculate_28 : decode prog_6_method_20_code 28 = .ok (.getfield 71, 3) := by decide +kernel
theorem d_Teller_calculate_31 : decode prog_6_method_20_code 31 = .ok (.iload 4, 2) := by decide +kernel
theorem d_Teller_calculate_33 : decode prog_6_method_20_code 33 = .ok (.iaload, 1) := by decide +kernel
theorem d_Teller_calculate_34 : decode prog_6_method_20_code 34 = .ok (.iconst 2, 1) := by decide +kernel
theorem d_Teller_calculate_35 : decode prog_6_method_20_code 35 = .ok (.if_icmp .ne 16, 3) := by decide +kernel
