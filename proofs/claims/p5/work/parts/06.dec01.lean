theorem d_Script_beginning_11 : decode prog_4_method_10_code 11 = .ok (.imul, 1) := by decide +kernel
theorem d_Script_beginning_12 : decode prog_4_method_10_code 12 = .ok (.iadd, 1) := by decide +kernel
theorem d_Script_beginning_13 : decode prog_4_method_10_code 13 = .ok (.ireturn, 1) := by decide +kernel
theorem d_Script_behind_0 : decode prog_4_method_7_code 0 = .ok (.iload_n 2, 1) := by decide +kernel
theorem d_Script_behind_1 : decode prog_4_method_7_code 1 = .ok (.iconst (-1), 1) := by decide +kernel
theorem d_Script_behind_2 : decode prog_4_method_7_code 2 = .ok (.if_icmp .ne 7, 3) := by decide +kernel
theorem d_Script_behind_5 : decode prog_4_method_7_code 5 = .ok (.iload_n 1, 1) := by decide +kernel
theorem d_Script_behind_6 : decode prog_4_method_7_code 6 = .ok (.goto 10, 3) := by decide +kernel
theorem d_Script_behind_9 : decode prog_4_method_7_code 9 = .ok (.iload_n 1, 1) := by decide +kernel
theorem d_Script_behind_10 : decode prog_4_method_7_code 10 = .ok (.getstatic 26, 3) := by decide +kernel
theorem d_Script_behind_13 : decode prog_4_method_7_code 13 = .ok (.iload_n 2, 1) := by decide +kernel
theorem d_Script_behind_14 : decode prog_4_method_7_code 14 = .ok (.iaload, 1) := by decide +kernel
theorem d_Script_behind_15 : decode prog_4_method_7_code 15 = .ok (.iadd, 1) := by decide +kernel
theorem d_Script_behind_16 : decode prog_4_method_7_code 16 = .ok (.ireturn, 1) := by decide +kernel
theorem d_Script_instruction_0 : decode prog_4_method_6_code 0 = .ok (.aload_n 0, 1) := by decide +kernel
theorem d_Script_instruction_1 : decode prog_4_method_6_code 1 = .ok (.iload_n 1, 1) := by decide +kernel
theorem d_Script_instruction_2 : decode prog_4_method_6_code 2 = .ok (.invokevirtual 19, 3) := by decide +kernel
theorem d_Script_instruction_5 : decode prog_4_method_6_code 5 = .ok (.istore_n 2, 1) := by decide +kernel
theorem d_Script_instruction_6 : decode prog_4_method_6_code 6 = .ok (.iload_n 2, 1) := by decide +kernel
theorem d_Script_instruction_7 : decode prog_4_method_6_code 7 = .ok (.iconst (-1), 1) := by decide +kernel
theorem d_Script_instruction_8 : decode prog_4_method_6_code 8 = .ok (.if_icmp .eq 29, 3) := by decide +kernel
theorem d_Script_instruction_11 : decode prog_4_method_6_code 11 = .ok (.iload_n 2, 1) := by decide +kernel
theorem d_Script_instruction_12 : decode prog_4_method_6_code 12 = .ok (.getstatic 26, 3) := by decide +kernel
theorem d_Script_instruction_15 : decode prog_4_method_6_code 15 = .ok (.arraylength, 1) := by decide +kernel
theorem d_Script_instruction_16 : decode prog_4_method_6_code 16 = .ok (.if_icmp .ge 21, 3) := by decide +kernel
theorem d_Script_instruction_19 : decode prog_4_method_6_code 19 = .ok (.iload_n 1, 1) := by decide +kernel
theorem d_Script_instruction_20 : decode prog_4_method_6_code 20 = .ok (.getstatic 26, 3) := by decide +kernel
theorem d_Script_instruction_23 : decode prog_4_method_6_code 23 = .ok (.iload_n 2, 1) := by decide +kernel
theorem d_Script_instruction_24 : decode prog_4_method_6_code 24 = .ok (.iaload, 1) := by decide +kernel
theorem d_Script_instruction_25 : decode prog_4_method_6_code 25 = .ok (.iadd, 1) := by decide +kernel
theorem d_Script_instruction_26 : decode prog_4_method_6_code 26 = .ok (.aload_n 0, 1) := by decide +kernel
theorem d_Script_instruction_27 : decode prog_4_method_6_code 27 = .ok (.getfield 15, 3) := by decide +kernel
theorem d_Script_instruction_30 : decode prog_4_method_6_code 30 = .ok (.if_icmp .gt 7, 3) := by decide +kernel
theorem d_Script_instruction_33 : decode prog_4_method_6_code 33 = .ok (.iload_n 2, 1) := by decide +kernel
theorem d_Script_instruction_34 : decode prog_4_method_6_code 34 = .ok (.goto 4, 3) := by decide +kernel
theorem d_Script_instruction_37 : decode prog_4_method_6_code 37 = .ok (.iconst (-1), 1) := by decide +kernel
theorem d_Script_instruction_38 : decode prog_4_method_6_code 38 = .ok (.ireturn, 1) := by decide +kernel
theorem d_Script_isMethod_0 : decode prog_4_method_8_code 0 = .ok (.aload_n 0, 1) := by decide +kernel
theorem d_Script_isMethod_1 : decode prog_4_method_8_code 1 = .ok (.iload_n 1, 1) := by decide +kernel
theorem d_Script_isMethod_2 : decode prog_4_method_8_code 2 = .ok (.iconst 1, 1) := by decide +kernel
theorem d_Script_isMethod_3 : decode prog_4_method_8_code 3 = .ok (.iadd, 1) := by decide +kernel
theorem d_Script_isMethod_4 : decode prog_4_method_8_code 4 = .ok (.invokevirtual 19, 3) := by decide +kernel
theorem d_Script_isMethod_7 : decode prog_4_method_8_code 7 = .ok (.istore_n 3, 1) := by decide +kernel
theorem d_Script_isMethod_8 : decode prog_4_method_8_code 8 = .ok (.aload_n 0, 1) := by decide +kernel
theorem d_Script_isMethod_9 : decode prog_4_method_8_code 9 = .ok (.iload_n 1, 1) := by decide +kernel
theorem d_Script_isMethod_10 : decode prog_4_method_8_code 10 = .ok (.iconst 2, 1) := by decide +kernel
theorem d_Script_isMethod_11 : decode prog_4_method_8_code 11 = .ok (.iadd, 1) := by decide +kernel
theorem d_Script_isMethod_12 : decode prog_4_method_8_code 12 = .ok (.invokevirtual 19, 3) := by decide +kernel
theorem d_Script_isMethod_15 : decode prog_4_method_8_code 15 = .ok (.istore 4, 2) := by decide +kernel
theorem d_Script_isMethod_17 : decode prog_4_method_8_code 17 = .ok (.iload_n 2, 1) := by decide +kernel
theorem d_Script_isMethod_18 : decode prog_4_method_8_code 18 = .ok (.iconst 3, 1) := by decide +kernel
theorem d_Script_isMethod_19 : decode prog_4_method_8_code 19 = .ok (.if_icmp .gt 53, 3) := by decide +kernel
theorem d_Script_isMethod_22 : decode prog_4_method_8_code 22 = .ok (.aload_n 0, 1) := by decide +kernel
theorem d_Script_isMethod_23 : decode prog_4_method_8_code 23 = .ok (.iload_n 1, 1) := by decide +kernel
theorem d_Script_isMethod_24 : decode prog_4_method_8_code 24 = .ok (.invokevirtual 19, 3) := by decide +kernel
theorem d_Script_isMethod_27 : decode prog_4_method_8_code 27 = .ok (.iload_n 2, 1) := by decide +kernel
theorem d_Script_isMethod_28 : decode prog_4_method_8_code 28 = .ok (.if_icmp .ne 44, 3) := by decide +kernel
theorem d_Script_isMethod_31 : decode prog_4_method_8_code 31 = .ok (.iload_n 3, 1) := by decide +kernel
theorem d_Script_isMethod_32 : decode prog_4_method_8_code 32 = .ok (.iconst (-1), 1) := by decide +kernel
theorem d_Script_isMethod_33 : decode prog_4_method_8_code 33 = .ok (.if_icmp .eq 39, 3) := by decide +kernel
theorem d_Script_isMethod_36 : decode prog_4_method_8_code 36 = .ok (.iload_n 3, 1) := by decide +kernel
theorem d_Script_isMethod_37 : decode prog_4_method_8_code 37 = .ok (.iconst 3, 1) := by decide +kernel
theorem d_Script_isMethod_38 : decode prog_4_method_8_code 38 = .ok (.if_icmp .gt 34, 3) := by decide +kernel
theorem d_Script_isMethod_41 : decode prog_4_method_8_code 41 = .ok (.iload 4, 2) := by decide +kernel
theorem d_Script_isMethod_43 : decode prog_4_method_8_code 43 = .ok (.iconst (-1), 1) := by decide +kernel
theorem d_Script_isMethod_44 : decode prog_4_method_8_code 44 = .ok (.if_icmp .eq 28, 3) := by decide +kernel
theorem d_Script_isMethod_47 : decode prog_4_method_8_code 47 = .ok (.iload 4, 2) := by decide +kernel
theorem d_Script_isMethod_49 : decode prog_4_method_8_code 49 = .ok (.iconst 3, 1) := by decide +kernel
theorem d_Script_isMethod_50 : decode prog_4_method_8_code 50 = .ok (.if_icmp .gt 22, 3) := by decide +kernel
theorem d_Script_isMethod_53 : decode prog_4_method_8_code 53 = .ok (.iload_n 1, 1) := by decide +kernel
theorem d_Script_isMethod_54 : decode prog_4_method_8_code 54 = .ok (.iconst 3, 1) := by decide +kernel
theorem d_Script_isMethod_55 : decode prog_4_method_8_code 55 = .ok (.iadd, 1) := by decide +kernel
theorem d_Script_isMethod_56 : decode prog_4_method_8_code 56 = .ok (.iconst 4, 1) := by decide +kernel
theorem d_Script_isMethod_57 : decode prog_4_method_8_code 57 = .ok (.iload 4, 2) := by decide +kernel
theorem d_Script_isMethod_59 : decode prog_4_method_8_code 59 = .ok (.imul, 1) := by decide +kernel
theorem d_Script_isMethod_60 : decode prog_4_method_8_code 60 = .ok (.iadd, 1) := by decide +kernel
theorem d_Script_isMethod_61 : decode prog_4_method_8_code 61 = .ok (.aload_n 0, 1) := by decide +kernel
theorem d_Script_isMethod_62 : decode prog_4_method_8_code 62 = .ok (.getfield 15, 3) := by decide +kernel
theorem d_Script_isMethod_65 : decode prog_4_method_8_code 65 = .ok (.if_icmp .gt 7, 3) := by decide +kernel
theorem d_Script_isMethod_68 : decode prog_4_method_8_code 68 = .ok (.iconst 1, 1) := by decide +kernel
theorem d_Script_isMethod_69 : decode prog_4_method_8_code 69 = .ok (.goto 4, 3) := by decide +kernel
theorem d_Script_isMethod_72 : decode prog_4_method_8_code 72 = .ok (.iconst 0, 1) := by decide +kernel
theorem d_Script_isMethod_73 : decode prog_4_method_8_code 73 = .ok (.ireturn, 1) := by decide +kernel
theorem d_Script_locals_0 : decode prog_4_method_9_code 0 = .ok (.aload_n 0, 1) := by decide +kernel
theorem d_Script_locals_1 : decode prog_4_method_9_code 1 = .ok (.iload_n 1, 1) := by decide +kernel
theorem d_Script_locals_2 : decode prog_4_method_9_code 2 = .ok (.iconst 1, 1) := by decide +kernel
theorem d_Script_locals_3 : decode prog_4_method_9_code 3 = .ok (.iadd, 1) := by decide +kernel
theorem d_Script_locals_4 : decode prog_4_method_9_code 4 = .ok (.invokevirtual 19, 3) := by decide +kernel
theorem d_Script_locals_7 : decode prog_4_method_9_code 7 = .ok (.ireturn, 1) := by decide +kernel
theorem d_Script_number_0 : decode prog_4_method_5_code 0 = .ok (.aload_n 0, 1) := by decide +kernel
theorem d_Script_number_1 : decode prog_4_method_5_code 1 = .ok (.iload_n 1, 1) := by decide +kernel
theorem d_Script_number_2 : decode prog_4_method_5_code 2 = .ok (.invokevirtual 23, 3) := by decide +kernel
theorem d_Script_number_5 : decode prog_4_method_5_code 5 = .ok (.bipush 16, 2) := by decide +kernel
theorem d_Script_number_7 : decode prog_4_method_5_code 7 = .ok (.ishl, 1) := by decide +kernel
theorem d_Script_number_8 : decode prog_4_method_5_code 8 = .ok (.aload_n 0, 1) := by decide +kernel
theorem d_Script_number_9 : decode prog_4_method_5_code 9 = .ok (.iload_n 1, 1) := by decide +kernel
theorem d_Script_number_10 : decode prog_4_method_5_code 10 = .ok (.iconst 2, 1) := by decide +kernel
theorem d_Script_number_11 : decode prog_4_method_5_code 11 = .ok (.iadd, 1) := by decide +kernel
theorem d_Script_number_12 : decode prog_4_method_5_code 12 = .ok (.invokevirtual 23, 3) := by decide +kernel
theorem d_Script_number_15 : decode prog_4_method_5_code 15 = .ok (.ior, 1) := by decide +kernel
theorem d_Script_number_16 : decode prog_4_method_5_code 16 = .ok (.ireturn, 1) := by decide +kernel
theorem d_State_init_0 : decode prog_5_method_1_code 0 = .ok (.aload_n 0, 1) := by decide +kernel
theorem d_State_init_1 : decode prog_5_method_1_code 1 = .ok (.invokespecial 3, 3) := by decide +kernel
theorem d_State_init_4 : decode prog_5_method_1_code 4 = .ok (.aload_n 0, 1) := by decide +kernel
theorem d_State_init_5 : decode prog_5_method_1_code 5 = .ok (.sipush 256, 3) := by decide +kernel
theorem d_State_init_8 : decode prog_5_method_1_code 8 = .ok (.newarray .int, 2) := by decide +kernel
theorem d_State_init_10 : decode prog_5_method_1_code 10 = .ok (.putfield 9, 3) := by decide +kernel
theorem d_State_init_13 : decode prog_5_method_1_code 13 = .ok (.aload_n 0, 1) := by decide +kernel
theorem d_State_init_14 : decode prog_5_method_1_code 14 = .ok (.sipush 256, 3) := by decide +kernel
theorem d_State_init_17 : decode prog_5_method_1_code 17 = .ok (.newarray .int, 2) := by decide +kernel
theorem d_State_init_19 : decode prog_5_method_1_code 19 = .ok (.putfield 15, 3) := by decide +kernel
theorem d_State_init_22 : decode prog_5_method_1_code 22 = .ok (.aload_n 0, 1) := by decide +kernel
theorem d_State_init_23 : decode prog_5_method_1_code 23 = .ok (.bipush 16, 2) := by decide +kernel
theorem d_State_init_25 : decode prog_5_method_1_code 25 = .ok (.newarray .int, 2) := by decide +kernel
theorem d_State_init_27 : decode prog_5_method_1_code 27 = .ok (.putfield 18, 3) := by decide +kernel
theorem d_State_init_30 : decode prog_5_method_1_code 30 = .ok (.aload_n 0, 1) := by decide +kernel
theorem d_State_init_31 : decode prog_5_method_1_code 31 = .ok (.getfield 9, 3) := by decide +kernel
theorem d_State_init_34 : decode prog_5_method_1_code 34 = .ok (.iconst (-1), 1) := by decide +kernel
theorem d_State_init_35 : decode prog_5_method_1_code 35 = .ok (.invokestatic 21, 3) := by decide +kernel
theorem d_State_init_38 : decode prog_5_method_1_code 38 = .ok (.aload_n 0, 1) := by decide +kernel
theorem d_State_init_39 : decode prog_5_method_1_code 39 = .ok (.getfield 18, 3) := by decide +kernel
theorem d_State_init_42 : decode prog_5_method_1_code 42 = .ok (.iconst (-1), 1) := by decide +kernel
theorem d_State_init_43 : decode prog_5_method_1_code 43 = .ok (.invokestatic 21, 3) := by decide +kernel
theorem d_State_init_46 : decode prog_5_method_1_code 46 = .ok (.return_, 1) := by decide +kernel
theorem d_State_copy_0 : decode prog_5_method_2_code 0 = .ok (.aload_n 1, 1) := by decide +kernel
theorem d_State_copy_1 : decode prog_5_method_2_code 1 = .ok (.getfield 9, 3) := by decide +kernel
theorem d_State_copy_4 : decode prog_5_method_2_code 4 = .ok (.iconst 0, 1) := by decide +kernel
theorem d_State_copy_5 : decode prog_5_method_2_code 5 = .ok (.aload_n 0, 1) := by decide +kernel
theorem d_State_copy_6 : decode prog_5_method_2_code 6 = .ok (.getfield 9, 3) := by decide +kernel
theorem d_State_copy_9 : decode prog_5_method_2_code 9 = .ok (.iconst 0, 1) := by decide +kernel
theorem d_State_copy_10 : decode prog_5_method_2_code 10 = .ok (.aload_n 0, 1) := by decide +kernel
theorem d_State_copy_11 : decode prog_5_method_2_code 11 = .ok (.getfield 9, 3) := by decide +kernel
theorem d_State_copy_14 : decode prog_5_method_2_code 14 = .ok (.arraylength, 1) := by decide +kernel
theorem d_State_copy_15 : decode prog_5_method_2_code 15 = .ok (.invokestatic 27, 3) := by decide +kernel
theorem d_State_copy_18 : decode prog_5_method_2_code 18 = .ok (.aload_n 1, 1) := by decide +kernel
theorem d_State_copy_19 : decode prog_5_method_2_code 19 = .ok (.getfield 15, 3) := by decide +kernel
theorem d_State_copy_22 : decode prog_5_method_2_code 22 = .ok (.iconst 0, 1) := by decide +kernel
theorem d_State_copy_23 : decode prog_5_method_2_code 23 = .ok (.aload_n 0, 1) := by decide +kernel
theorem d_State_copy_24 : decode prog_5_method_2_code 24 = .ok (.getfield 15, 3) := by decide +kernel
theorem d_State_copy_27 : decode prog_5_method_2_code 27 = .ok (.iconst 0, 1) := by decide +kernel
theorem d_State_copy_28 : decode prog_5_method_2_code 28 = .ok (.aload_n 0, 1) := by decide +kernel
theorem d_State_copy_29 : decode prog_5_method_2_code 29 = .ok (.getfield 15, 3) := by decide +kernel
theorem d_State_copy_32 : decode prog_5_method_2_code 32 = .ok (.arraylength, 1) := by decide +kernel
theorem d_State_copy_33 : decode prog_5_method_2_code 33 = .ok (.invokestatic 27, 3) := by decide +kernel
theorem d_State_copy_36 : decode prog_5_method_2_code 36 = .ok (.aload_n 1, 1) := by decide +kernel
theorem d_State_copy_37 : decode prog_5_method_2_code 37 = .ok (.getfield 18, 3) := by decide +kernel
theorem d_State_copy_40 : decode prog_5_method_2_code 40 = .ok (.iconst 0, 1) := by decide +kernel
theorem d_State_copy_41 : decode prog_5_method_2_code 41 = .ok (.aload_n 0, 1) := by decide +kernel
theorem d_State_copy_42 : decode prog_5_method_2_code 42 = .ok (.getfield 18, 3) := by decide +kernel
theorem d_State_copy_45 : decode prog_5_method_2_code 45 = .ok (.iconst 0, 1) := by decide +kernel
theorem d_State_copy_46 : decode prog_5_method_2_code 46 = .ok (.aload_n 0, 1) := by decide +kernel
theorem d_State_copy_47 : decode prog_5_method_2_code 47 = .ok (.getfield 18, 3) := by decide +kernel
theorem d_State_copy_50 : decode prog_5_method_2_code 50 = .ok (.arraylength, 1) := by decide +kernel
theorem d_State_copy_51 : decode prog_5_method_2_code 51 = .ok (.invokestatic 27, 3) := by decide +kernel
theorem d_State_copy_54 : decode prog_5_method_2_code 54 = .ok (.return_, 1) := by decide +kernel
theorem d_Teller_init_0 : decode prog_6_method_1_code 0 = .ok (.aload_n 0, 1) := by decide +kernel
theorem d_Teller_init_1 : decode prog_6_method_1_code 1 = .ok (.invokespecial 3, 3) := by decide +kernel
theorem d_Teller_init_4 : decode prog_6_method_1_code 4 = .ok (.aload_n 0, 1) := by decide +kernel
theorem d_Teller_init_5 : decode prog_6_method_1_code 5 = .ok (.bipush 8, 2) := by decide +kernel
theorem d_Teller_init_7 : decode prog_6_method_1_code 7 = .ok (.anewarray 9, 3) := by decide +kernel
theorem d_Teller_init_10 : decode prog_6_method_1_code 10 = .ok (.putfield 11, 3) := by decide +kernel
theorem d_Teller_init_13 : decode prog_6_method_1_code 13 = .ok (.aload_n 0, 1) := by decide +kernel
theorem d_Teller_init_14 : decode prog_6_method_1_code 14 = .ok (.new 17, 3) := by decide +kernel
theorem d_Teller_init_17 : decode prog_6_method_1_code 17 = .ok (.dup, 1) := by decide +kernel
theorem d_Teller_init_18 : decode prog_6_method_1_code 18 = .ok (.bipush 40, 2) := by decide +kernel
theorem d_Teller_init_20 : decode prog_6_method_1_code 20 = .ok (.invokespecial 19, 3) := by decide +kernel
theorem d_Teller_init_23 : decode prog_6_method_1_code 23 = .ok (.putfield 22, 3) := by decide +kernel
theorem d_Teller_init_26 : decode prog_6_method_1_code 26 = .ok (.aload_n 0, 1) := by decide +kernel
theorem d_Teller_init_27 : decode prog_6_method_1_code 27 = .ok (.new 17, 3) := by decide +kernel
theorem d_Teller_init_30 : decode prog_6_method_1_code 30 = .ok (.dup, 1) := by decide +kernel
theorem d_Teller_init_31 : decode prog_6_method_1_code 31 = .ok (.bipush 50, 2) := by decide +kernel
theorem d_Teller_init_33 : decode prog_6_method_1_code 33 = .ok (.invokespecial 19, 3) := by decide +kernel
theorem d_Teller_init_36 : decode prog_6_method_1_code 36 = .ok (.putfield 26, 3) := by decide +kernel
theorem d_Teller_init_39 : decode prog_6_method_1_code 39 = .ok (.aload_n 0, 1) := by decide +kernel
theorem d_Teller_init_40 : decode prog_6_method_1_code 40 = .ok (.new 17, 3) := by decide +kernel
theorem d_Teller_init_43 : decode prog_6_method_1_code 43 = .ok (.dup, 1) := by decide +kernel
theorem d_Teller_init_44 : decode prog_6_method_1_code 44 = .ok (.iconst 1, 1) := by decide +kernel
theorem d_Teller_init_45 : decode prog_6_method_1_code 45 = .ok (.invokespecial 19, 3) := by decide +kernel
theorem d_Teller_init_48 : decode prog_6_method_1_code 48 = .ok (.putfield 29, 3) := by decide +kernel
theorem d_Teller_init_51 : decode prog_6_method_1_code 51 = .ok (.aload_n 0, 1) := by decide +kernel
theorem d_Teller_init_52 : decode prog_6_method_1_code 52 = .ok (.iconst (-1), 1) := by decide +kernel
theorem d_Teller_init_53 : decode prog_6_method_1_code 53 = .ok (.putfield 32, 3) := by decide +kernel
theorem d_Teller_init_56 : decode prog_6_method_1_code 56 = .ok (.aload_n 0, 1) := by decide +kernel
theorem d_Teller_init_57 : decode prog_6_method_1_code 57 = .ok (.aload_n 1, 1) := by decide +kernel
theorem d_Teller_init_58 : decode prog_6_method_1_code 58 = .ok (.putfield 36, 3) := by decide +kernel
theorem d_Teller_init_61 : decode prog_6_method_1_code 61 = .ok (.aload_n 0, 1) := by decide +kernel
theorem d_Teller_init_62 : decode prog_6_method_1_code 62 = .ok (.aload_n 2, 1) := by decide +kernel
theorem d_Teller_init_63 : decode prog_6_method_1_code 63 = .ok (.putfield 40, 3) := by decide +kernel
theorem d_Teller_init_66 : decode prog_6_method_1_code 66 = .ok (.aload_n 0, 1) := by decide +kernel
theorem d_Teller_init_67 : decode prog_6_method_1_code 67 = .ok (.aload_n 3, 1) := by decide +kernel
theorem d_Teller_init_68 : decode prog_6_method_1_code 68 = .ok (.putfield 44, 3) := by decide +kernel
theorem d_Teller_init_71 : decode prog_6_method_1_code 71 = .ok (.iconst 0, 1) := by decide +kernel
theorem d_Teller_init_72 : decode prog_6_method_1_code 72 = .ok (.istore 4, 2) := by decide +kernel
theorem d_Teller_init_74 : decode prog_6_method_1_code 74 = .ok (.iload 4, 2) := by decide +kernel
theorem d_Teller_init_76 : decode prog_6_method_1_code 76 = .ok (.bipush 8, 2) := by decide +kernel
theorem d_Teller_init_78 : decode prog_6_method_1_code 78 = .ok (.if_icmp .ge 23, 3) := by decide +kernel
theorem d_Teller_init_81 : decode prog_6_method_1_code 81 = .ok (.aload_n 0, 1) := by decide +kernel
theorem d_Teller_init_82 : decode prog_6_method_1_code 82 = .ok (.getfield 11, 3) := by decide +kernel
theorem d_Teller_init_85 : decode prog_6_method_1_code 85 = .ok (.iload 4, 2) := by decide +kernel
theorem d_Teller_init_87 : decode prog_6_method_1_code 87 = .ok (.new 9, 3) := by decide +kernel
theorem d_Teller_init_90 : decode prog_6_method_1_code 90 = .ok (.dup, 1) := by decide +kernel
theorem d_Teller_init_91 : decode prog_6_method_1_code 91 = .ok (.invokespecial 48, 3) := by decide +kernel
theorem d_Teller_init_94 : decode prog_6_method_1_code 94 = .ok (.aastore, 1) := by decide +kernel
theorem d_Teller_init_95 : decode prog_6_method_1_code 95 = .ok (.iinc 4 1, 3) := by decide +kernel
theorem d_Teller_init_98 : decode prog_6_method_1_code 98 = .ok (.goto (-24), 3) := by decide +kernel
theorem d_Teller_init_101 : decode prog_6_method_1_code 101 = .ok (.return_, 1) := by decide +kernel
theorem d_Teller_answer_0 : decode prog_6_method_27_code 0 = .ok (.iload_n 3, 1) := by decide +kernel
theorem d_Teller_answer_1 : decode prog_6_method_27_code 1 = .ok (.iconst (-1), 1) := by decide +kernel
theorem d_Teller_answer_2 : decode prog_6_method_27_code 2 = .ok (.if_icmp .ne 7, 3) := by decide +kernel
theorem d_Teller_answer_5 : decode prog_6_method_27_code 5 = .ok (.iconst 0, 1) := by decide +kernel
theorem d_Teller_answer_6 : decode prog_6_method_27_code 6 = .ok (.goto 13, 3) := by decide +kernel
theorem d_Teller_answer_9 : decode prog_6_method_27_code 9 = .ok (.aload_n 0, 1) := by decide +kernel
theorem d_Teller_answer_10 : decode prog_6_method_27_code 10 = .ok (.getfield 40, 3) := by decide +kernel
theorem d_Teller_answer_13 : decode prog_6_method_27_code 13 = .ok (.iload_n 3, 1) := by decide +kernel
theorem d_Teller_answer_14 : decode prog_6_method_27_code 14 = .ok (.iload 4, 2) := by decide +kernel
theorem d_Teller_answer_16 : decode prog_6_method_27_code 16 = .ok (.invokevirtual 242, 3) := by decide +kernel
theorem d_Teller_answer_19 : decode prog_6_method_27_code 19 = .ok (.istore 7, 2) := by decide +kernel
theorem d_Teller_answer_21 : decode prog_6_method_27_code 21 = .ok (.iload_n 3, 1) := by decide +kernel
theorem d_Teller_answer_22 : decode prog_6_method_27_code 22 = .ok (.iconst (-1), 1) := by decide +kernel
theorem d_Teller_answer_23 : decode prog_6_method_27_code 23 = .ok (.if_icmp .ne 7, 3) := by decide +kernel
theorem d_Teller_answer_26 : decode prog_6_method_27_code 26 = .ok (.iconst 0, 1) := by decide +kernel
theorem d_Teller_answer_27 : decode prog_6_method_27_code 27 = .ok (.goto 13, 3) := by decide +kernel
theorem d_Teller_answer_30 : decode prog_6_method_27_code 30 = .ok (.aload_n 0, 1) := by decide +kernel
theorem d_Teller_answer_31 : decode prog_6_method_27_code 31 = .ok (.getfield 40, 3) := by decide +kernel
theorem d_Teller_answer_34 : decode prog_6_method_27_code 34 = .ok (.iload_n 3, 1) := by decide +kernel
theorem d_Teller_answer_35 : decode prog_6_method_27_code 35 = .ok (.iload 4, 2) := by decide +kernel
theorem d_Teller_answer_37 : decode prog_6_method_27_code 37 = .ok (.invokevirtual 245, 3) := by decide +kernel
theorem d_Teller_answer_40 : decode prog_6_method_27_code 40 = .ok (.istore 8, 2) := by decide +kernel
theorem d_Teller_answer_42 : decode prog_6_method_27_code 42 = .ok (.iload 7, 2) := by decide +kernel
theorem d_Teller_answer_44 : decode prog_6_method_27_code 44 = .ok (.iconst 4, 1) := by decide +kernel
theorem d_Teller_answer_45 : decode prog_6_method_27_code 45 = .ok (.if_icmp .ne 16, 3) := by decide +kernel
theorem d_Teller_answer_48 : decode prog_6_method_27_code 48 = .ok (.aload_n 0, 1) := by decide +kernel
theorem d_Teller_answer_49 : decode prog_6_method_27_code 49 = .ok (.iload 8, 2) := by decide +kernel
theorem d_Teller_answer_51 : decode prog_6_method_27_code 51 = .ok (.iload 5, 2) := by decide +kernel
theorem d_Teller_answer_53 : decode prog_6_method_27_code 53 = .ok (.iload 6, 2) := by decide +kernel
theorem d_Teller_answer_55 : decode prog_6_method_27_code 55 = .ok (.iload_n 2, 1) := by decide +kernel
theorem d_Teller_answer_56 : decode prog_6_method_27_code 56 = .ok (.iload_n 3, 1) := by decide +kernel
theorem d_Teller_answer_57 : decode prog_6_method_27_code 57 = .ok (.invokevirtual 55, 3) := by decide +kernel
theorem d_Teller_answer_60 : decode prog_6_method_27_code 60 = .ok (.ireturn, 1) := by decide +kernel
theorem d_Teller_answer_61 : decode prog_6_method_27_code 61 = .ok (.iload 5, 2) := by decide +kernel
theorem d_Teller_answer_63 : decode prog_6_method_27_code 63 = .ok (.ifCond .eq 5, 3) := by decide +kernel
theorem d_Teller_answer_66 : decode prog_6_method_27_code 66 = .ok (.iconst 0, 1) := by decide +kernel
theorem d_Teller_answer_67 : decode prog_6_method_27_code 67 = .ok (.ireturn, 1) := by decide +kernel
theorem d_Teller_answer_68 : decode prog_6_method_27_code 68 = .ok (.aload_n 0, 1) := by decide +kernel
theorem d_Teller_answer_69 : decode prog_6_method_27_code 69 = .ok (.getfield 22, 3) := by decide +kernel
theorem d_Teller_answer_72 : decode prog_6_method_27_code 72 = .ok (.dup, 1) := by decide +kernel
theorem d_Teller_answer_73 : decode prog_6_method_27_code 73 = .ok (.getfield 52, 3) := by decide +kernel
theorem d_Teller_answer_76 : decode prog_6_method_27_code 76 = .ok (.iload 6, 2) := by decide +kernel
theorem d_Teller_answer_78 : decode prog_6_method_27_code 78 = .ok (.isub, 1) := by decide +kernel
theorem d_Teller_answer_79 : decode prog_6_method_27_code 79 = .ok (.putfield 52, 3) := by decide +kernel
theorem d_Teller_answer_82 : decode prog_6_method_27_code 82 = .ok (.aload_n 0, 1) := by decide +kernel
theorem d_Teller_answer_83 : decode prog_6_method_27_code 83 = .ok (.aload_n 1, 1) := by decide +kernel
theorem d_Teller_answer_84 : decode prog_6_method_27_code 84 = .ok (.iload 7, 2) := by decide +kernel
theorem d_Teller_answer_86 : decode prog_6_method_27_code 86 = .ok (.iload 8, 2) := by decide +kernel
theorem d_Teller_answer_88 : decode prog_6_method_27_code 88 = .ok (.invokevirtual 119, 3) := by decide +kernel
theorem d_Teller_answer_91 : decode prog_6_method_27_code 91 = .ok (.ireturn, 1) := by decide +kernel
theorem d_Teller_ask_0 : decode prog_6_method_25_code 0 = .ok (.iload_n 3, 1) := by decide +kernel
theorem d_Teller_ask_1 : decode prog_6_method_25_code 1 = .ok (.invokestatic 229, 3) := by decide +kernel
theorem d_Teller_ask_4 : decode prog_6_method_25_code 4 = .ok (.ifCond .eq 22, 3) := by decide +kernel
theorem d_Teller_ask_7 : decode prog_6_method_25_code 7 = .ok (.aload_n 0, 1) := by decide +kernel
theorem d_Teller_ask_8 : decode prog_6_method_25_code 8 = .ok (.aload_n 1, 1) := by decide +kernel
theorem d_Teller_ask_9 : decode prog_6_method_25_code 9 = .ok (.invokevirtual 190, 3) := by decide +kernel
theorem d_Teller_ask_12 : decode prog_6_method_25_code 12 = .ok (.ifCond .eq 14, 3) := by decide +kernel
theorem d_Teller_ask_15 : decode prog_6_method_25_code 15 = .ok (.aload_n 0, 1) := by decide +kernel
theorem d_Teller_ask_16 : decode prog_6_method_25_code 16 = .ok (.aload_n 1, 1) := by decide +kernel
theorem d_Teller_ask_17 : decode prog_6_method_25_code 17 = .ok (.iload_n 2, 1) := by decide +kernel
theorem d_Teller_ask_18 : decode prog_6_method_25_code 18 = .ok (.iconst 1, 1) := by decide +kernel
theorem d_Teller_ask_19 : decode prog_6_method_25_code 19 = .ok (.iadd, 1) := by decide +kernel
theorem d_Teller_ask_20 : decode prog_6_method_25_code 20 = .ok (.invokevirtual 146, 3) := by decide +kernel
theorem d_Teller_ask_23 : decode prog_6_method_25_code 23 = .ok (.ifCond .ne 5, 3) := by decide +kernel
theorem d_Teller_ask_26 : decode prog_6_method_25_code 26 = .ok (.iconst 0, 1) := by decide +kernel
theorem d_Teller_ask_27 : decode prog_6_method_25_code 27 = .ok (.ireturn, 1) := by decide +kernel
theorem d_Teller_ask_28 : decode prog_6_method_25_code 28 = .ok (.aload_n 0, 1) := by decide +kernel
theorem d_Teller_ask_29 : decode prog_6_method_25_code 29 = .ok (.invokevirtual 184, 3) := by decide +kernel
theorem d_Teller_ask_32 : decode prog_6_method_25_code 32 = .ok (.istore 4, 2) := by decide +kernel
theorem d_Teller_ask_34 : decode prog_6_method_25_code 34 = .ok (.aload_n 0, 1) := by decide +kernel
theorem d_Teller_ask_35 : decode prog_6_method_25_code 35 = .ok (.aload_n 1, 1) := by decide +kernel
theorem d_Teller_ask_36 : decode prog_6_method_25_code 36 = .ok (.iload 4, 2) := by decide +kernel
theorem d_Teller_ask_38 : decode prog_6_method_25_code 38 = .ok (.aload_n 0, 1) := by decide +kernel
theorem d_Teller_ask_39 : decode prog_6_method_25_code 39 = .ok (.getfield 40, 3) := by decide +kernel
theorem d_Teller_ask_42 : decode prog_6_method_25_code 42 = .ok (.iload 4, 2) := by decide +kernel
theorem d_Teller_ask_44 : decode prog_6_method_25_code 44 = .ok (.iload_n 3, 1) := by decide +kernel
theorem d_Teller_ask_45 : decode prog_6_method_25_code 45 = .ok (.invokevirtual 232, 3) := by decide +kernel
theorem d_Teller_ask_48 : decode prog_6_method_25_code 48 = .ok (.iload_n 3, 1) := by decide +kernel
theorem d_Teller_ask_49 : decode prog_6_method_25_code 49 = .ok (.iload_n 2, 1) := by decide +kernel
theorem d_Teller_ask_50 : decode prog_6_method_25_code 50 = .ok (.iconst 1, 1) := by decide +kernel
theorem d_Teller_ask_51 : decode prog_6_method_25_code 51 = .ok (.invokevirtual 235, 3) := by decide +kernel
theorem d_Teller_ask_54 : decode prog_6_method_25_code 54 = .ok (.ireturn, 1) := by decide +kernel
theorem d_Teller_bringBack_0 : decode prog_6_method_37_code 0 = .ok (.iload_n 2, 1) := by decide +kernel
theorem d_Teller_bringBack_1 : decode prog_6_method_37_code 1 = .ok (.ifCond .lt 46, 3) := by decide +kernel
theorem d_Teller_bringBack_4 : decode prog_6_method_37_code 4 = .ok (.iload_n 2, 1) := by decide +kernel
theorem d_Teller_bringBack_5 : decode prog_6_method_37_code 5 = .ok (.iconst 2, 1) := by decide +kernel
theorem d_Teller_bringBack_6 : decode prog_6_method_37_code 6 = .ok (.if_icmp .ge 41, 3) := by decide +kernel
theorem d_Teller_bringBack_9 : decode prog_6_method_37_code 9 = .ok (.aload_n 0, 1) := by decide +kernel
theorem d_Teller_bringBack_10 : decode prog_6_method_37_code 10 = .ok (.getfield 22, 3) := by decide +kernel
theorem d_Teller_bringBack_13 : decode prog_6_method_37_code 13 = .ok (.invokevirtual 205, 3) := by decide +kernel
theorem d_Teller_bringBack_16 : decode prog_6_method_37_code 16 = .ok (.ifCond .ne 31, 3) := by decide +kernel
theorem d_Teller_bringBack_19 : decode prog_6_method_37_code 19 = .ok (.aload_n 0, 1) := by decide +kernel
theorem d_Teller_bringBack_20 : decode prog_6_method_37_code 20 = .ok (.aload_n 1, 1) := by decide +kernel
theorem d_Teller_bringBack_21 : decode prog_6_method_37_code 21 = .ok (.iconst 0, 1) := by decide +kernel
theorem d_Teller_bringBack_22 : decode prog_6_method_37_code 22 = .ok (.aload_n 0, 1) := by decide +kernel
theorem d_Teller_bringBack_23 : decode prog_6_method_37_code 23 = .ok (.getfield 44, 3) := by decide +kernel
theorem d_Teller_bringBack_26 : decode prog_6_method_37_code 26 = .ok (.iload_n 2, 1) := by decide +kernel
theorem d_Teller_bringBack_27 : decode prog_6_method_37_code 27 = .ok (.aload_n 0, 1) := by decide +kernel
theorem d_Teller_bringBack_28 : decode prog_6_method_37_code 28 = .ok (.getfield 40, 3) := by decide +kernel
theorem d_Teller_bringBack_31 : decode prog_6_method_37_code 31 = .ok (.getfield 209, 3) := by decide +kernel
theorem d_Teller_bringBack_34 : decode prog_6_method_37_code 34 = .ok (.invokevirtual 290, 3) := by decide +kernel
theorem d_Teller_bringBack_37 : decode prog_6_method_37_code 37 = .ok (.invokevirtual 161, 3) := by decide +kernel
theorem d_Teller_bringBack_40 : decode prog_6_method_37_code 40 = .ok (.ifCond .eq 7, 3) := by decide +kernel
theorem d_Teller_bringBack_43 : decode prog_6_method_37_code 43 = .ok (.iconst 1, 1) := by decide +kernel
theorem d_Teller_bringBack_44 : decode prog_6_method_37_code 44 = .ok (.goto 4, 3) := by decide +kernel
theorem d_Teller_bringBack_47 : decode prog_6_method_37_code 47 = .ok (.iconst 0, 1) := by decide +kernel
theorem d_Teller_bringBack_48 : decode prog_6_method_37_code 48 = .ok (.ireturn, 1) := by decide +kernel
theorem d_Teller_calculate_0 : decode prog_6_method_20_code 0 = .ok (.aload_n 0, 1) := by decide +kernel
theorem d_Teller_calculate_1 : decode prog_6_method_20_code 1 = .ok (.getfield 22, 3) := by decide +kernel
theorem d_Teller_calculate_4 : decode prog_6_method_20_code 4 = .ok (.getfield 52, 3) := by decide +kernel
theorem d_Teller_calculate_7 : decode prog_6_method_20_code 7 = .ok (.iconst 1, 1) := by decide +kernel
theorem d_Teller_calculate_8 : decode prog_6_method_20_code 8 = .ok (.isub, 1) := by decide +kernel
theorem d_Teller_calculate_9 : decode prog_6_method_20_code 9 = .ok (.istore_n 3, 1) := by decide +kernel
theorem d_Teller_calculate_10 : decode prog_6_method_20_code 10 = .ok (.iload_n 3, 1) := by decide +kernel
theorem d_Teller_calculate_11 : decode prog_6_method_20_code 11 = .ok (.iconst 1, 1) := by decide +kernel
theorem d_Teller_calculate_12 : decode prog_6_method_20_code 12 = .ok (.isub, 1) := by decide +kernel
theorem d_Teller_calculate_13 : decode prog_6_method_20_code 13 = .ok (.istore 4, 2) := by decide +kernel
theorem d_Teller_calculate_15 : decode prog_6_method_20_code 15 = .ok (.aload_n 0, 1) := by decide +kernel
theorem d_Teller_calculate_16 : decode prog_6_method_20_code 16 = .ok (.aload_n 1, 1) := by decide +kernel
theorem d_Teller_calculate_17 : decode prog_6_method_20_code 17 = .ok (.iconst 2, 1) := by decide +kernel
theorem d_Teller_calculate_18 : decode prog_6_method_20_code 18 = .ok (.invokevirtual 146, 3) := by decide +kernel
theorem d_Teller_calculate_21 : decode prog_6_method_20_code 21 = .ok (.ifCond .eq 30, 3) := by decide +kernel
theorem d_Teller_calculate_24 : decode prog_6_method_20_code 24 = .ok (.aload_n 0, 1) := by decide +kernel
theorem d_Teller_calculate_25 : decode prog_6_method_20_code 25 = .ok (.getfield 22, 3) := by decide +kernel
theorem d_Teller_calculate_28 : decode prog_6_method_20_code 28 = .ok (.getfield 71, 3) := by decide +kernel
theorem d_Teller_calculate_31 : decode prog_6_method_20_code 31 = .ok (.iload 4, 2) := by decide +kernel
theorem d_Teller_calculate_33 : decode prog_6_method_20_code 33 = .ok (.iaload, 1) := by decide +kernel
theorem d_Teller_calculate_34 : decode prog_6_method_20_code 34 = .ok (.iconst 2, 1) := by decide +kernel
theorem d_Teller_calculate_35 : decode prog_6_method_20_code 35 = .ok (.if_icmp .ne 16, 3) := by decide +kernel
theorem d_Teller_calculate_38 : decode prog_6_method_20_code 38 = .ok (.aload_n 0, 1) := by decide +kernel
theorem d_Teller_calculate_39 : decode prog_6_method_20_code 39 = .ok (.getfield 22, 3) := by decide +kernel
theorem d_Teller_calculate_42 : decode prog_6_method_20_code 42 = .ok (.getfield 71, 3) := by decide +kernel
theorem d_Teller_calculate_45 : decode prog_6_method_20_code 45 = .ok (.iload_n 3, 1) := by decide +kernel
theorem d_Teller_calculate_46 : decode prog_6_method_20_code 46 = .ok (.iaload, 1) := by decide +kernel
theorem d_Teller_calculate_47 : decode prog_6_method_20_code 47 = .ok (.iconst 2, 1) := by decide +kernel
theorem d_Teller_calculate_48 : decode prog_6_method_20_code 48 = .ok (.if_icmp .eq 5, 3) := by decide +kernel
theorem d_Teller_calculate_51 : decode prog_6_method_20_code 51 = .ok (.iconst 0, 1) := by decide +kernel
theorem d_Teller_calculate_52 : decode prog_6_method_20_code 52 = .ok (.ireturn, 1) := by decide +kernel
theorem d_Teller_calculate_53 : decode prog_6_method_20_code 53 = .ok (.aload_n 0, 1) := by decide +kernel
theorem d_Teller_calculate_54 : decode prog_6_method_20_code 54 = .ok (.getfield 22, 3) := by decide +kernel
theorem d_Teller_calculate_57 : decode prog_6_method_20_code 57 = .ok (.getfield 75, 3) := by decide +kernel
theorem d_Teller_calculate_60 : decode prog_6_method_20_code 60 = .ok (.iload 4, 2) := by decide +kernel
theorem d_Teller_calculate_62 : decode prog_6_method_20_code 62 = .ok (.iaload, 1) := by decide +kernel
theorem d_Teller_calculate_63 : decode prog_6_method_20_code 63 = .ok (.istore 5, 2) := by decide +kernel
theorem d_Teller_calculate_65 : decode prog_6_method_20_code 65 = .ok (.aload_n 0, 1) := by decide +kernel
theorem d_Teller_calculate_66 : decode prog_6_method_20_code 66 = .ok (.getfield 22, 3) := by decide +kernel
theorem d_Teller_calculate_69 : decode prog_6_method_20_code 69 = .ok (.getfield 75, 3) := by decide +kernel
theorem d_Teller_calculate_72 : decode prog_6_method_20_code 72 = .ok (.iload_n 3, 1) := by decide +kernel
theorem d_Teller_calculate_73 : decode prog_6_method_20_code 73 = .ok (.iaload, 1) := by decide +kernel
theorem d_Teller_calculate_74 : decode prog_6_method_20_code 74 = .ok (.istore 6, 2) := by decide +kernel
theorem d_Teller_calculate_76 : decode prog_6_method_20_code 76 = .ok (.iload_n 2, 1) := by decide +kernel
theorem d_Teller_calculate_77 : decode prog_6_method_20_code 77 = .ok (.bipush 15, 2) := by decide +kernel
theorem d_Teller_calculate_79 : decode prog_6_method_20_code 79 = .ok (.if_icmp .ne 33, 3) := by decide +kernel
theorem d_Teller_calculate_82 : decode prog_6_method_20_code 82 = .ok (.iload 6, 2) := by decide +kernel
theorem d_Teller_calculate_84 : decode prog_6_method_20_code 84 = .ok (.ifCond .ne 28, 3) := by decide +kernel
theorem d_Teller_calculate_87 : decode prog_6_method_20_code 87 = .ok (.aload_n 0, 1) := by decide +kernel
theorem d_Teller_calculate_88 : decode prog_6_method_20_code 88 = .ok (.getfield 40, 3) := by decide +kernel
theorem d_Teller_calculate_91 : decode prog_6_method_20_code 91 = .ok (.iconst 0, 1) := by decide +kernel
theorem d_Teller_calculate_92 : decode prog_6_method_20_code 92 = .ok (.invokevirtual 126, 3) := by decide +kernel
theorem d_Teller_calculate_95 : decode prog_6_method_20_code 95 = .ok (.ifCond .eq 15, 3) := by decide +kernel
theorem d_Teller_calculate_98 : decode prog_6_method_20_code 98 = .ok (.aload_n 0, 1) := by decide +kernel
theorem d_Teller_calculate_99 : decode prog_6_method_20_code 99 = .ok (.iconst 0, 1) := by decide +kernel
theorem d_Teller_calculate_100 : decode prog_6_method_20_code 100 = .ok (.invokevirtual 193, 3) := by decide +kernel
theorem d_Teller_calculate_103 : decode prog_6_method_20_code 103 = .ok (.ifCond .eq 7, 3) := by decide +kernel
theorem d_Teller_calculate_106 : decode prog_6_method_20_code 106 = .ok (.iconst 1, 1) := by decide +kernel
theorem d_Teller_calculate_107 : decode prog_6_method_20_code 107 = .ok (.goto 4, 3) := by decide +kernel
theorem d_Teller_calculate_110 : decode prog_6_method_20_code 110 = .ok (.iconst 0, 1) := by decide +kernel
theorem d_Teller_calculate_111 : decode prog_6_method_20_code 111 = .ok (.ireturn, 1) := by decide +kernel
theorem d_Teller_calculate_112 : decode prog_6_method_20_code 112 = .ok (.iload_n 2, 1) := by decide +kernel
theorem d_Teller_calculate_113 : decode prog_6_method_20_code 113 = .ok (.bipush 16, 2) := by decide +kernel
theorem d_Teller_calculate_115 : decode prog_6_method_20_code 115 = .ok (.if_icmp .ne 22, 3) := by decide +kernel
theorem d_Teller_calculate_118 : decode prog_6_method_20_code 118 = .ok (.aload_n 0, 1) := by decide +kernel
theorem d_Teller_calculate_119 : decode prog_6_method_20_code 119 = .ok (.aload_n 1, 1) := by decide +kernel
theorem d_Teller_calculate_120 : decode prog_6_method_20_code 120 = .ok (.iconst 2, 1) := by decide +kernel
theorem d_Teller_calculate_121 : decode prog_6_method_20_code 121 = .ok (.iload 5, 2) := by decide +kernel
theorem d_Teller_calculate_123 : decode prog_6_method_20_code 123 = .ok (.iload 6, 2) := by decide +kernel
theorem d_Teller_calculate_125 : decode prog_6_method_20_code 125 = .ok (.if_icmp .ge 7, 3) := by decide +kernel
theorem d_Teller_calculate_128 : decode prog_6_method_20_code 128 = .ok (.iconst 1, 1) := by decide +kernel
theorem d_Teller_calculate_129 : decode prog_6_method_20_code 129 = .ok (.goto 4, 3) := by decide +kernel
theorem d_Teller_calculate_132 : decode prog_6_method_20_code 132 = .ok (.iconst 0, 1) := by decide +kernel
theorem d_Teller_calculate_133 : decode prog_6_method_20_code 133 = .ok (.invokevirtual 161, 3) := by decide +kernel
theorem d_Teller_calculate_136 : decode prog_6_method_20_code 136 = .ok (.ireturn, 1) := by decide +kernel
theorem d_Teller_calculate_137 : decode prog_6_method_20_code 137 = .ok (.aload_n 0, 1) := by decide +kernel
theorem d_Teller_calculate_138 : decode prog_6_method_20_code 138 = .ok (.getfield 22, 3) := by decide +kernel
theorem d_Teller_calculate_141 : decode prog_6_method_20_code 141 = .ok (.dup, 1) := by decide +kernel
theorem d_Teller_calculate_142 : decode prog_6_method_20_code 142 = .ok (.getfield 52, 3) := by decide +kernel
theorem d_Teller_calculate_145 : decode prog_6_method_20_code 145 = .ok (.iconst 2, 1) := by decide +kernel
theorem d_Teller_calculate_146 : decode prog_6_method_20_code 146 = .ok (.isub, 1) := by decide +kernel
theorem d_Teller_calculate_147 : decode prog_6_method_20_code 147 = .ok (.putfield 52, 3) := by decide +kernel
theorem d_Teller_calculate_150 : decode prog_6_method_20_code 150 = .ok (.aload_n 0, 1) := by decide +kernel
theorem d_Teller_calculate_151 : decode prog_6_method_20_code 151 = .ok (.aload_n 1, 1) := by decide +kernel
theorem d_Teller_calculate_152 : decode prog_6_method_20_code 152 = .ok (.iconst 2, 1) := by decide +kernel
theorem d_Teller_calculate_153 : decode prog_6_method_20_code 153 = .ok (.iload_n 2, 1) := by decide +kernel
theorem d_Teller_calculate_154 : decode prog_6_method_20_code 154 = .ok (.iload 5, 2) := by decide +kernel
theorem d_Teller_calculate_156 : decode prog_6_method_20_code 156 = .ok (.iload 6, 2) := by decide +kernel
theorem d_Teller_calculate_158 : decode prog_6_method_20_code 158 = .ok (.invokestatic 226, 3) := by decide +kernel
theorem d_Teller_calculate_161 : decode prog_6_method_20_code 161 = .ok (.invokevirtual 119, 3) := by decide +kernel
theorem d_Teller_calculate_164 : decode prog_6_method_20_code 164 = .ok (.ireturn, 1) := by decide +kernel
theorem d_Teller_canTake_0 : decode prog_6_method_12_code 0 = .ok (.aload_n 0, 1) := by decide +kernel
theorem d_Teller_canTake_1 : decode prog_6_method_12_code 1 = .ok (.getfield 22, 3) := by decide +kernel
theorem d_Teller_canTake_4 : decode prog_6_method_12_code 4 = .ok (.getfield 52, 3) := by decide +kernel
theorem d_Teller_canTake_7 : decode prog_6_method_12_code 7 = .ok (.iload_n 2, 1) := by decide +kernel
theorem d_Teller_canTake_8 : decode prog_6_method_12_code 8 = .ok (.isub, 1) := by decide +kernel
theorem d_Teller_canTake_9 : decode prog_6_method_12_code 9 = .ok (.aload_n 1, 1) := by decide +kernel
theorem d_Teller_canTake_10 : decode prog_6_method_12_code 10 = .ok (.getfield 223, 3) := by decide +kernel
theorem d_Teller_canTake_13 : decode prog_6_method_12_code 13 = .ok (.if_icmp .lt 7, 3) := by decide +kernel
theorem d_Teller_canTake_16 : decode prog_6_method_12_code 16 = .ok (.iconst 1, 1) := by decide +kernel
theorem d_Teller_canTake_17 : decode prog_6_method_12_code 17 = .ok (.goto 4, 3) := by decide +kernel
theorem d_Teller_canTake_20 : decode prog_6_method_12_code 20 = .ok (.iconst 0, 1) := by decide +kernel
theorem d_Teller_canTake_21 : decode prog_6_method_12_code 21 = .ok (.ireturn, 1) := by decide +kernel
theorem d_Teller_end_0 : decode prog_6_method_30_code 0 = .ok (.aload_n 0, 1) := by decide +kernel
theorem d_Teller_end_1 : decode prog_6_method_30_code 1 = .ok (.getfield 49, 3) := by decide +kernel
theorem d_Teller_end_4 : decode prog_6_method_30_code 4 = .ok (.iconst 1, 1) := by decide +kernel
theorem d_Teller_end_5 : decode prog_6_method_30_code 5 = .ok (.if_icmp .ne 11, 3) := by decide +kernel
theorem d_Teller_end_8 : decode prog_6_method_30_code 8 = .ok (.aload_n 0, 1) := by decide +kernel
theorem d_Teller_end_9 : decode prog_6_method_30_code 9 = .ok (.iconst 1, 1) := by decide +kernel
theorem d_Teller_end_10 : decode prog_6_method_30_code 10 = .ok (.iload_n 2, 1) := by decide +kernel
theorem d_Teller_end_11 : decode prog_6_method_30_code 11 = .ok (.iload_n 3, 1) := by decide +kernel
theorem d_Teller_end_12 : decode prog_6_method_30_code 12 = .ok (.invokevirtual 265, 3) := by decide +kernel
theorem d_Teller_end_15 : decode prog_6_method_30_code 15 = .ok (.ireturn, 1) := by decide +kernel
theorem d_Teller_end_16 : decode prog_6_method_30_code 16 = .ok (.aload_n 1, 1) := by decide +kernel
theorem d_Teller_end_17 : decode prog_6_method_30_code 17 = .ok (.getfield 137, 3) := by decide +kernel
theorem d_Teller_end_20 : decode prog_6_method_30_code 20 = .ok (.bipush 40, 2) := by decide +kernel
theorem d_Teller_end_22 : decode prog_6_method_30_code 22 = .ok (.if_icmp .lt 5, 3) := by decide +kernel
theorem d_Teller_end_25 : decode prog_6_method_30_code 25 = .ok (.iconst 0, 1) := by decide +kernel
theorem d_Teller_end_26 : decode prog_6_method_30_code 26 = .ok (.ireturn, 1) := by decide +kernel
theorem d_Teller_end_27 : decode prog_6_method_30_code 27 = .ok (.aload_n 0, 1) := by decide +kernel
theorem d_Teller_end_28 : decode prog_6_method_30_code 28 = .ok (.dup, 1) := by decide +kernel
theorem d_Teller_end_29 : decode prog_6_method_30_code 29 = .ok (.getfield 49, 3) := by decide +kernel
theorem d_Teller_end_32 : decode prog_6_method_30_code 32 = .ok (.iconst 1, 1) := by decide +kernel
theorem d_Teller_end_33 : decode prog_6_method_30_code 33 = .ok (.isub, 1) := by decide +kernel
theorem d_Teller_end_34 : decode prog_6_method_30_code 34 = .ok (.putfield 49, 3) := by decide +kernel
theorem d_Teller_end_37 : decode prog_6_method_30_code 37 = .ok (.aload_n 0, 1) := by decide +kernel
theorem d_Teller_end_38 : decode prog_6_method_30_code 38 = .ok (.getfield 22, 3) := by decide +kernel
theorem d_Teller_end_41 : decode prog_6_method_30_code 41 = .ok (.aload_n 1, 1) := by decide +kernel
theorem d_Teller_end_42 : decode prog_6_method_30_code 42 = .ok (.getfield 137, 3) := by decide +kernel
theorem d_Teller_end_45 : decode prog_6_method_30_code 45 = .ok (.putfield 52, 3) := by decide +kernel
theorem d_Teller_end_48 : decode prog_6_method_30_code 48 = .ok (.aload_n 0, 1) := by decide +kernel
theorem d_Teller_end_49 : decode prog_6_method_30_code 49 = .ok (.aload_n 0, 1) := by decide +kernel
theorem d_Teller_end_50 : decode prog_6_method_30_code 50 = .ok (.invokevirtual 93, 3) := by decide +kernel
theorem d_Teller_end_53 : decode prog_6_method_30_code 53 = .ok (.iload_n 2, 1) := by decide +kernel
theorem d_Teller_end_54 : decode prog_6_method_30_code 54 = .ok (.iload_n 3, 1) := by decide +kernel
theorem d_Teller_end_55 : decode prog_6_method_30_code 55 = .ok (.invokevirtual 119, 3) := by decide +kernel
theorem d_Teller_end_58 : decode prog_6_method_30_code 58 = .ok (.ireturn, 1) := by decide +kernel
theorem d_Teller_enter_0 : decode prog_6_method_28_code 0 = .ok (.aload_n 0, 1) := by decide +kernel
theorem d_Teller_enter_1 : decode prog_6_method_28_code 1 = .ok (.getfield 49, 3) := by decide +kernel
theorem d_Teller_enter_4 : decode prog_6_method_28_code 4 = .ok (.bipush 8, 2) := by decide +kernel
theorem d_Teller_enter_6 : decode prog_6_method_28_code 6 = .ok (.if_icmp .eq 38, 3) := by decide +kernel
theorem d_Teller_enter_9 : decode prog_6_method_28_code 9 = .ok (.aload_n 0, 1) := by decide +kernel
theorem d_Teller_enter_10 : decode prog_6_method_28_code 10 = .ok (.getfield 36, 3) := by decide +kernel
theorem d_Teller_enter_13 : decode prog_6_method_28_code 13 = .ok (.iload_n 1, 1) := by decide +kernel
theorem d_Teller_enter_14 : decode prog_6_method_28_code 14 = .ok (.iload_n 2, 1) := by decide +kernel
theorem d_Teller_enter_15 : decode prog_6_method_28_code 15 = .ok (.invokevirtual 248, 3) := by decide +kernel
theorem d_Teller_enter_18 : decode prog_6_method_28_code 18 = .ok (.ifCond .eq 26, 3) := by decide +kernel
theorem d_Teller_enter_21 : decode prog_6_method_28_code 21 = .ok (.aload_n 0, 1) := by decide +kernel
theorem d_Teller_enter_22 : decode prog_6_method_28_code 22 = .ok (.getfield 22, 3) := by decide +kernel
theorem d_Teller_enter_25 : decode prog_6_method_28_code 25 = .ok (.getfield 52, 3) := by decide +kernel
theorem d_Teller_enter_28 : decode prog_6_method_28_code 28 = .ok (.iload_n 3, 1) := by decide +kernel
theorem d_Teller_enter_29 : decode prog_6_method_28_code 29 = .ok (.isub, 1) := by decide +kernel
theorem d_Teller_enter_30 : decode prog_6_method_28_code 30 = .ok (.aload_n 0, 1) := by decide +kernel
theorem d_Teller_enter_31 : decode prog_6_method_28_code 31 = .ok (.getfield 36, 3) := by decide +kernel
theorem d_Teller_enter_34 : decode prog_6_method_28_code 34 = .ok (.iload_n 1, 1) := by decide +kernel
theorem d_Teller_enter_35 : decode prog_6_method_28_code 35 = .ok (.invokevirtual 251, 3) := by decide +kernel
theorem d_Teller_enter_38 : decode prog_6_method_28_code 38 = .ok (.iadd, 1) := by decide +kernel
theorem d_Teller_enter_39 : decode prog_6_method_28_code 39 = .ok (.bipush 40, 2) := by decide +kernel
theorem d_Teller_enter_41 : decode prog_6_method_28_code 41 = .ok (.if_icmp .le 5, 3) := by decide +kernel
theorem d_Teller_enter_44 : decode prog_6_method_28_code 44 = .ok (.iconst 0, 1) := by decide +kernel
theorem d_Teller_enter_45 : decode prog_6_method_28_code 45 = .ok (.ireturn, 1) := by decide +kernel
theorem d_Teller_enter_46 : decode prog_6_method_28_code 46 = .ok (.aload_n 0, 1) := by decide +kernel
theorem d_Teller_enter_47 : decode prog_6_method_28_code 47 = .ok (.getfield 22, 3) := by decide +kernel
theorem d_Teller_enter_50 : decode prog_6_method_28_code 50 = .ok (.dup, 1) := by decide +kernel
theorem d_Teller_enter_51 : decode prog_6_method_28_code 51 = .ok (.getfield 52, 3) := by decide +kernel
theorem d_Teller_enter_54 : decode prog_6_method_28_code 54 = .ok (.iload_n 3, 1) := by decide +kernel
theorem d_Teller_enter_55 : decode prog_6_method_28_code 55 = .ok (.isub, 1) := by decide +kernel
theorem d_Teller_enter_56 : decode prog_6_method_28_code 56 = .ok (.putfield 52, 3) := by decide +kernel
theorem d_Teller_enter_59 : decode prog_6_method_28_code 59 = .ok (.aload_n 0, 1) := by decide +kernel
theorem d_Teller_enter_60 : decode prog_6_method_28_code 60 = .ok (.getfield 11, 3) := by decide +kernel
theorem d_Teller_enter_63 : decode prog_6_method_28_code 63 = .ok (.aload_n 0, 1) := by decide +kernel
theorem d_Teller_enter_64 : decode prog_6_method_28_code 64 = .ok (.getfield 49, 3) := by decide +kernel
theorem d_Teller_enter_67 : decode prog_6_method_28_code 67 = .ok (.aaload, 1) := by decide +kernel
theorem d_Teller_enter_68 : decode prog_6_method_28_code 68 = .ok (.astore 6, 2) := by decide +kernel
theorem d_Teller_enter_70 : decode prog_6_method_28_code 70 = .ok (.aload_n 0, 1) := by decide +kernel
theorem d_Teller_enter_71 : decode prog_6_method_28_code 71 = .ok (.dup, 1) := by decide +kernel
theorem d_Teller_enter_72 : decode prog_6_method_28_code 72 = .ok (.getfield 49, 3) := by decide +kernel
theorem d_Teller_enter_75 : decode prog_6_method_28_code 75 = .ok (.iconst 1, 1) := by decide +kernel
theorem d_Teller_enter_76 : decode prog_6_method_28_code 76 = .ok (.iadd, 1) := by decide +kernel
theorem d_Teller_enter_77 : decode prog_6_method_28_code 77 = .ok (.putfield 49, 3) := by decide +kernel
theorem d_Teller_enter_80 : decode prog_6_method_28_code 80 = .ok (.aload 6, 2) := by decide +kernel
theorem d_Teller_enter_82 : decode prog_6_method_28_code 82 = .ok (.iload_n 1, 1) := by decide +kernel
theorem d_Teller_enter_83 : decode prog_6_method_28_code 83 = .ok (.putfield 254, 3) := by decide +kernel
theorem d_Teller_enter_86 : decode prog_6_method_28_code 86 = .ok (.aload 6, 2) := by decide +kernel
theorem d_Teller_enter_88 : decode prog_6_method_28_code 88 = .ok (.aload_n 0, 1) := by decide +kernel
theorem d_Teller_enter_89 : decode prog_6_method_28_code 89 = .ok (.getfield 36, 3) := by decide +kernel
theorem d_Teller_enter_92 : decode prog_6_method_28_code 92 = .ok (.iload_n 1, 1) := by decide +kernel
theorem d_Teller_enter_93 : decode prog_6_method_28_code 93 = .ok (.invokevirtual 257, 3) := by decide +kernel
theorem d_Teller_enter_96 : decode prog_6_method_28_code 96 = .ok (.putfield 260, 3) := by decide +kernel
theorem d_Teller_enter_99 : decode prog_6_method_28_code 99 = .ok (.aload 6, 2) := by decide +kernel
theorem d_Teller_enter_101 : decode prog_6_method_28_code 101 = .ok (.iload 4, 2) := by decide +kernel
theorem d_Teller_enter_103 : decode prog_6_method_28_code 103 = .ok (.putfield 84, 3) := by decide +kernel
theorem d_Teller_enter_106 : decode prog_6_method_28_code 106 = .ok (.aload 6, 2) := by decide +kernel
theorem d_Teller_enter_108 : decode prog_6_method_28_code 108 = .ok (.iload 5, 2) := by decide +kernel
theorem d_Teller_enter_110 : decode prog_6_method_28_code 110 = .ok (.putfield 90, 3) := by decide +kernel
theorem d_Teller_enter_113 : decode prog_6_method_28_code 113 = .ok (.aload 6, 2) := by decide +kernel
theorem d_Teller_enter_115 : decode prog_6_method_28_code 115 = .ok (.aload 6, 2) := by decide +kernel
theorem d_Teller_enter_117 : decode prog_6_method_28_code 117 = .ok (.getfield 260, 3) := by decide +kernel
theorem d_Teller_enter_120 : decode prog_6_method_28_code 120 = .ok (.putfield 97, 3) := by decide +kernel
theorem d_Teller_enter_123 : decode prog_6_method_28_code 123 = .ok (.aload 6, 2) := by decide +kernel
theorem d_Teller_enter_125 : decode prog_6_method_28_code 125 = .ok (.aload_n 0, 1) := by decide +kernel
theorem d_Teller_enter_126 : decode prog_6_method_28_code 126 = .ok (.getfield 22, 3) := by decide +kernel
theorem d_Teller_enter_129 : decode prog_6_method_28_code 129 = .ok (.getfield 52, 3) := by decide +kernel
theorem d_Teller_enter_132 : decode prog_6_method_28_code 132 = .ok (.iload_n 2, 1) := by decide +kernel
theorem d_Teller_enter_133 : decode prog_6_method_28_code 133 = .ok (.isub, 1) := by decide +kernel
theorem d_Teller_enter_134 : decode prog_6_method_28_code 134 = .ok (.putfield 137, 3) := by decide +kernel
theorem d_Teller_enter_137 : decode prog_6_method_28_code 137 = .ok (.aload_n 0, 1) := by decide +kernel
theorem d_Teller_enter_138 : decode prog_6_method_28_code 138 = .ok (.getfield 36, 3) := by decide +kernel
theorem d_Teller_enter_141 : decode prog_6_method_28_code 141 = .ok (.iload_n 1, 1) := by decide +kernel
theorem d_Teller_enter_142 : decode prog_6_method_28_code 142 = .ok (.invokevirtual 251, 3) := by decide +kernel
theorem d_Teller_enter_145 : decode prog_6_method_28_code 145 = .ok (.istore 7, 2) := by decide +kernel
theorem d_Teller_enter_147 : decode prog_6_method_28_code 147 = .ok (.iload 7, 2) := by decide +kernel
theorem d_Teller_enter_149 : decode prog_6_method_28_code 149 = .ok (.ifCond .le 19, 3) := by decide +kernel
theorem d_Teller_enter_152 : decode prog_6_method_28_code 152 = .ok (.aload_n 0, 1) := by decide +kernel
theorem d_Teller_enter_153 : decode prog_6_method_28_code 153 = .ok (.getfield 22, 3) := by decide +kernel
theorem d_Teller_enter_156 : decode prog_6_method_28_code 156 = .ok (.iconst 0, 1) := by decide +kernel
theorem d_Teller_enter_157 : decode prog_6_method_28_code 157 = .ok (.iconst 0, 1) := by decide +kernel
theorem d_Teller_enter_158 : decode prog_6_method_28_code 158 = .ok (.invokevirtual 64, 3) := by decide +kernel
theorem d_Teller_enter_161 : decode prog_6_method_28_code 161 = .ok (.pop, 1) := by decide +kernel
theorem d_Teller_enter_162 : decode prog_6_method_28_code 162 = .ok (.iinc 7 (-1), 3) := by decide +kernel
theorem d_Teller_enter_165 : decode prog_6_method_28_code 165 = .ok (.goto (-18), 3) := by decide +kernel
theorem d_Teller_enter_168 : decode prog_6_method_28_code 168 = .ok (.aload 6, 2) := by decide +kernel
theorem d_Teller_enter_170 : decode prog_6_method_28_code 170 = .ok (.aload_n 0, 1) := by decide +kernel
theorem d_Teller_enter_171 : decode prog_6_method_28_code 171 = .ok (.getfield 22, 3) := by decide +kernel
theorem d_Teller_enter_174 : decode prog_6_method_28_code 174 = .ok (.getfield 52, 3) := by decide +kernel
theorem d_Teller_enter_177 : decode prog_6_method_28_code 177 = .ok (.putfield 223, 3) := by decide +kernel
theorem d_Teller_enter_180 : decode prog_6_method_28_code 180 = .ok (.iconst 1, 1) := by decide +kernel
theorem d_Teller_enter_181 : decode prog_6_method_28_code 181 = .ok (.ireturn, 1) := by decide +kernel
theorem d_Teller_finish_0 : decode prog_6_method_5_code 0 = .ok (.aload_n 0, 1) := by decide +kernel
theorem d_Teller_finish_1 : decode prog_6_method_5_code 1 = .ok (.iconst 0, 1) := by decide +kernel
theorem d_Teller_finish_2 : decode prog_6_method_5_code 2 = .ok (.putfield 49, 3) := by decide +kernel
theorem d_Teller_finish_5 : decode prog_6_method_5_code 5 = .ok (.aload_n 0, 1) := by decide +kernel
theorem d_Teller_finish_6 : decode prog_6_method_5_code 6 = .ok (.getfield 22, 3) := by decide +kernel
theorem d_Teller_finish_9 : decode prog_6_method_5_code 9 = .ok (.iconst 0, 1) := by decide +kernel
theorem d_Teller_finish_10 : decode prog_6_method_5_code 10 = .ok (.putfield 52, 3) := by decide +kernel
theorem d_Teller_finish_13 : decode prog_6_method_5_code 13 = .ok (.aload_n 0, 1) := by decide +kernel
theorem d_Teller_finish_14 : decode prog_6_method_5_code 14 = .ok (.getfield 29, 3) := by decide +kernel
theorem d_Teller_finish_17 : decode prog_6_method_5_code 17 = .ok (.iload_n 2, 1) := by decide +kernel
theorem d_Teller_finish_18 : decode prog_6_method_5_code 18 = .ok (.iload_n 3, 1) := by decide +kernel
theorem d_Teller_finish_19 : decode prog_6_method_5_code 19 = .ok (.invokevirtual 64, 3) := by decide +kernel
theorem d_Teller_finish_22 : decode prog_6_method_5_code 22 = .ok (.pop, 1) := by decide +kernel
theorem d_Teller_finish_23 : decode prog_6_method_5_code 23 = .ok (.aload_n 0, 1) := by decide +kernel
theorem d_Teller_finish_24 : decode prog_6_method_5_code 24 = .ok (.iload_n 1, 1) := by decide +kernel
theorem d_Teller_finish_25 : decode prog_6_method_5_code 25 = .ok (.invokevirtual 68, 3) := by decide +kernel
theorem d_Teller_finish_28 : decode prog_6_method_5_code 28 = .ok (.iconst 1, 1) := by decide +kernel
theorem d_Teller_finish_29 : decode prog_6_method_5_code 29 = .ok (.ireturn, 1) := by decide +kernel
theorem d_Teller_goOn_0 : decode prog_6_method_8_code 0 = .ok (.aload_n 1, 1) := by decide +kernel
theorem d_Teller_goOn_1 : decode prog_6_method_8_code 1 = .ok (.aload_n 1, 1) := by decide +kernel
theorem d_Teller_goOn_2 : decode prog_6_method_8_code 2 = .ok (.getfield 110, 3) := by decide +kernel
theorem d_Teller_goOn_5 : decode prog_6_method_8_code 5 = .ok (.putfield 97, 3) := by decide +kernel
theorem d_Teller_goOn_8 : decode prog_6_method_8_code 8 = .ok (.iconst 1, 1) := by decide +kernel
theorem d_Teller_goOn_9 : decode prog_6_method_8_code 9 = .ok (.ireturn, 1) := by decide +kernel
theorem d_Teller_goal_0 : decode prog_6_method_32_code 0 = .ok (.aload_n 1, 1) := by decide +kernel
theorem d_Teller_goal_1 : decode prog_6_method_32_code 1 = .ok (.getfield 97, 3) := by decide +kernel
theorem d_Teller_goal_4 : decode prog_6_method_32_code 4 = .ok (.aload_n 1, 1) := by decide +kernel
theorem d_Teller_goal_5 : decode prog_6_method_32_code 5 = .ok (.getfield 260, 3) := by decide +kernel
theorem d_Teller_goal_8 : decode prog_6_method_32_code 8 = .ok (.isub, 1) := by decide +kernel
theorem d_Teller_goal_9 : decode prog_6_method_32_code 9 = .ok (.istore_n 2, 1) := by decide +kernel
theorem d_Teller_goal_10 : decode prog_6_method_32_code 10 = .ok (.aload_n 1, 1) := by decide +kernel
theorem d_Teller_goal_11 : decode prog_6_method_32_code 11 = .ok (.getfield 254, 3) := by decide +kernel
theorem d_Teller_goal_14 : decode prog_6_method_32_code 14 = .ok (.iconst 3, 1) := by decide +kernel
theorem d_Teller_goal_15 : decode prog_6_method_32_code 15 = .ok (.iadd, 1) := by decide +kernel
theorem d_Teller_goal_16 : decode prog_6_method_32_code 16 = .ok (.istore_n 3, 1) := by decide +kernel
theorem d_Teller_goal_17 : decode prog_6_method_32_code 17 = .ok (.iload_n 3, 1) := by decide +kernel
theorem d_Teller_goal_18 : decode prog_6_method_32_code 18 = .ok (.aload_n 1, 1) := by decide +kernel
theorem d_Teller_goal_19 : decode prog_6_method_32_code 19 = .ok (.getfield 260, 3) := by decide +kernel
theorem d_Teller_goal_22 : decode prog_6_method_32_code 22 = .ok (.if_icmp .ge 72, 3) := by decide +kernel
theorem d_Teller_goal_25 : decode prog_6_method_32_code 25 = .ok (.aload_n 0, 1) := by decide +kernel
theorem d_Teller_goal_26 : decode prog_6_method_32_code 26 = .ok (.getfield 36, 3) := by decide +kernel
theorem d_Teller_goal_29 : decode prog_6_method_32_code 29 = .ok (.iload_n 3, 1) := by decide +kernel
theorem d_Teller_goal_30 : decode prog_6_method_32_code 30 = .ok (.invokevirtual 112, 3) := by decide +kernel
theorem d_Teller_goal_33 : decode prog_6_method_32_code 33 = .ok (.iload_n 2, 1) := by decide +kernel
theorem d_Teller_goal_34 : decode prog_6_method_32_code 34 = .ok (.if_icmp .gt 54, 3) := by decide +kernel
theorem d_Teller_goal_37 : decode prog_6_method_32_code 37 = .ok (.iload_n 2, 1) := by decide +kernel
theorem d_Teller_goal_38 : decode prog_6_method_32_code 38 = .ok (.aload_n 0, 1) := by decide +kernel
theorem d_Teller_goal_39 : decode prog_6_method_32_code 39 = .ok (.getfield 36, 3) := by decide +kernel
theorem d_Teller_goal_42 : decode prog_6_method_32_code 42 = .ok (.iload_n 3, 1) := by decide +kernel
theorem d_Teller_goal_43 : decode prog_6_method_32_code 43 = .ok (.iconst 1, 1) := by decide +kernel
theorem d_Teller_goal_44 : decode prog_6_method_32_code 44 = .ok (.iadd, 1) := by decide +kernel
theorem d_Teller_goal_45 : decode prog_6_method_32_code 45 = .ok (.invokevirtual 112, 3) := by decide +kernel
theorem d_Teller_goal_48 : decode prog_6_method_32_code 48 = .ok (.if_icmp .gt 40, 3) := by decide +kernel
theorem d_Teller_goal_51 : decode prog_6_method_32_code 51 = .ok (.aload_n 0, 1) := by decide +kernel
theorem d_Teller_goal_52 : decode prog_6_method_32_code 52 = .ok (.getfield 40, 3) := by decide +kernel
theorem d_Teller_goal_55 : decode prog_6_method_32_code 55 = .ok (.aload_n 0, 1) := by decide +kernel
theorem d_Teller_goal_56 : decode prog_6_method_32_code 56 = .ok (.getfield 36, 3) := by decide +kernel
theorem d_Teller_goal_59 : decode prog_6_method_32_code 59 = .ok (.iload_n 3, 1) := by decide +kernel
theorem d_Teller_goal_60 : decode prog_6_method_32_code 60 = .ok (.iconst 2, 1) := by decide +kernel
theorem d_Teller_goal_61 : decode prog_6_method_32_code 61 = .ok (.iadd, 1) := by decide +kernel
theorem d_Teller_goal_62 : decode prog_6_method_32_code 62 = .ok (.invokevirtual 112, 3) := by decide +kernel
theorem d_Teller_goal_65 : decode prog_6_method_32_code 65 = .ok (.invokevirtual 276, 3) := by decide +kernel
theorem d_Teller_goal_68 : decode prog_6_method_32_code 68 = .ok (.iconst (-1), 1) := by decide +kernel
theorem d_Teller_goal_69 : decode prog_6_method_32_code 69 = .ok (.if_icmp .eq 19, 3) := by decide +kernel
theorem d_Teller_goal_72 : decode prog_6_method_32_code 72 = .ok (.aload_n 1, 1) := by decide +kernel
theorem d_Teller_goal_73 : decode prog_6_method_32_code 73 = .ok (.getfield 260, 3) := by decide +kernel
theorem d_Teller_goal_76 : decode prog_6_method_32_code 76 = .ok (.aload_n 0, 1) := by decide +kernel
theorem d_Teller_goal_77 : decode prog_6_method_32_code 77 = .ok (.getfield 36, 3) := by decide +kernel
theorem d_Teller_goal_80 : decode prog_6_method_32_code 80 = .ok (.iload_n 3, 1) := by decide +kernel
theorem d_Teller_goal_81 : decode prog_6_method_32_code 81 = .ok (.iconst 3, 1) := by decide +kernel
theorem d_Teller_goal_82 : decode prog_6_method_32_code 82 = .ok (.iadd, 1) := by decide +kernel
theorem d_Teller_goal_83 : decode prog_6_method_32_code 83 = .ok (.invokevirtual 112, 3) := by decide +kernel
theorem d_Teller_goal_86 : decode prog_6_method_32_code 86 = .ok (.iadd, 1) := by decide +kernel
theorem d_Teller_goal_87 : decode prog_6_method_32_code 87 = .ok (.ireturn, 1) := by decide +kernel
theorem d_Teller_goal_88 : decode prog_6_method_32_code 88 = .ok (.iinc 3 4, 3) := by decide +kernel
theorem d_Teller_goal_91 : decode prog_6_method_32_code 91 = .ok (.goto (-74), 3) := by decide +kernel
theorem d_Teller_goal_94 : decode prog_6_method_32_code 94 = .ok (.iconst (-1), 1) := by decide +kernel
theorem d_Teller_goal_95 : decode prog_6_method_32_code 95 = .ok (.ireturn, 1) := by decide +kernel
theorem d_Teller_halt_0 : decode prog_6_method_4_code 0 = .ok (.aload_n 0, 1) := by decide +kernel
theorem d_Teller_halt_1 : decode prog_6_method_4_code 1 = .ok (.iload_n 1, 1) := by decide +kernel
theorem d_Teller_halt_2 : decode prog_6_method_4_code 2 = .ok (.putfield 32, 3) := by decide +kernel
theorem d_Teller_halt_5 : decode prog_6_method_4_code 5 = .ok (.aload_n 0, 1) := by decide +kernel
theorem d_Teller_halt_6 : decode prog_6_method_4_code 6 = .ok (.getfield 44, 3) := by decide +kernel
theorem d_Teller_halt_9 : decode prog_6_method_4_code 9 = .ok (.invokevirtual 59, 3) := by decide +kernel
theorem d_Teller_halt_12 : decode prog_6_method_4_code 12 = .ok (.return_, 1) := by decide +kernel
theorem d_Teller_inherited_0 : decode prog_6_method_26_code 0 = .ok (.iload_n 3, 1) := by decide +kernel
theorem d_Teller_inherited_1 : decode prog_6_method_26_code 1 = .ok (.invokestatic 229, 3) := by decide +kernel
theorem d_Teller_inherited_4 : decode prog_6_method_26_code 4 = .ok (.ifCond .eq 40, 3) := by decide +kernel
theorem d_Teller_inherited_7 : decode prog_6_method_26_code 7 = .ok (.aload_n 0, 1) := by decide +kernel
theorem d_Teller_inherited_8 : decode prog_6_method_26_code 8 = .ok (.aload_n 1, 1) := by decide +kernel
theorem d_Teller_inherited_9 : decode prog_6_method_26_code 9 = .ok (.iload_n 2, 1) := by decide +kernel
theorem d_Teller_inherited_10 : decode prog_6_method_26_code 10 = .ok (.invokevirtual 146, 3) := by decide +kernel
theorem d_Teller_inherited_13 : decode prog_6_method_26_code 13 = .ok (.ifCond .eq 31, 3) := by decide +kernel
theorem d_Teller_inherited_16 : decode prog_6_method_26_code 16 = .ok (.aload_n 0, 1) := by decide +kernel
theorem d_Teller_inherited_17 : decode prog_6_method_26_code 17 = .ok (.getfield 40, 3) := by decide +kernel
theorem d_Teller_inherited_20 : decode prog_6_method_26_code 20 = .ok (.aload_n 1, 1) := by decide +kernel
theorem d_Teller_inherited_21 : decode prog_6_method_26_code 21 = .ok (.getfield 84, 3) := by decide +kernel
theorem d_Teller_inherited_24 : decode prog_6_method_26_code 24 = .ok (.invokevirtual 126, 3) := by decide +kernel
theorem d_Teller_inherited_27 : decode prog_6_method_26_code 27 = .ok (.ifCond .eq 17, 3) := by decide +kernel
theorem d_Teller_inherited_30 : decode prog_6_method_26_code 30 = .ok (.aload_n 0, 1) := by decide +kernel
theorem d_Teller_inherited_31 : decode prog_6_method_26_code 31 = .ok (.getfield 40, 3) := by decide +kernel
theorem d_Teller_inherited_34 : decode prog_6_method_26_code 34 = .ok (.aload_n 1, 1) := by decide +kernel
theorem d_Teller_inherited_35 : decode prog_6_method_26_code 35 = .ok (.getfield 90, 3) := by decide +kernel
theorem d_Teller_inherited_38 : decode prog_6_method_26_code 38 = .ok (.invokevirtual 126, 3) := by decide +kernel
theorem d_Teller_inherited_41 : decode prog_6_method_26_code 41 = .ok (.ifCond .ne 5, 3) := by decide +kernel
theorem d_Teller_inherited_44 : decode prog_6_method_26_code 44 = .ok (.iconst 0, 1) := by decide +kernel
theorem d_Teller_inherited_45 : decode prog_6_method_26_code 45 = .ok (.ireturn, 1) := by decide +kernel
theorem d_Teller_inherited_46 : decode prog_6_method_26_code 46 = .ok (.aload_n 0, 1) := by decide +kernel
theorem d_Teller_inherited_47 : decode prog_6_method_26_code 47 = .ok (.aload_n 1, 1) := by decide +kernel
theorem d_Teller_inherited_48 : decode prog_6_method_26_code 48 = .ok (.aload_n 1, 1) := by decide +kernel
theorem d_Teller_inherited_49 : decode prog_6_method_26_code 49 = .ok (.getfield 84, 3) := by decide +kernel
theorem d_Teller_inherited_52 : decode prog_6_method_26_code 52 = .ok (.aload_n 0, 1) := by decide +kernel
theorem d_Teller_inherited_53 : decode prog_6_method_26_code 53 = .ok (.getfield 40, 3) := by decide +kernel
theorem d_Teller_inherited_56 : decode prog_6_method_26_code 56 = .ok (.aload_n 1, 1) := by decide +kernel
theorem d_Teller_inherited_57 : decode prog_6_method_26_code 57 = .ok (.getfield 90, 3) := by decide +kernel
theorem d_Teller_inherited_60 : decode prog_6_method_26_code 60 = .ok (.aload_n 1, 1) := by decide +kernel
theorem d_Teller_inherited_61 : decode prog_6_method_26_code 61 = .ok (.getfield 84, 3) := by decide +kernel
theorem d_Teller_inherited_64 : decode prog_6_method_26_code 64 = .ok (.iload_n 3, 1) := by decide +kernel
theorem d_Teller_inherited_65 : decode prog_6_method_26_code 65 = .ok (.invokevirtual 239, 3) := by decide +kernel
theorem d_Teller_inherited_68 : decode prog_6_method_26_code 68 = .ok (.iload_n 3, 1) := by decide +kernel
theorem d_Teller_inherited_69 : decode prog_6_method_26_code 69 = .ok (.iload_n 2, 1) := by decide +kernel
theorem d_Teller_inherited_70 : decode prog_6_method_26_code 70 = .ok (.iconst 0, 1) := by decide +kernel
theorem d_Teller_inherited_71 : decode prog_6_method_26_code 71 = .ok (.invokevirtual 235, 3) := by decide +kernel
theorem d_Teller_inherited_74 : decode prog_6_method_26_code 74 = .ok (.ireturn, 1) := by decide +kernel
theorem d_Teller_isFalse_0 : decode prog_6_method_17_code 0 = .ok (.aload_n 0, 1) := by decide +kernel
theorem d_Teller_isFalse_1 : decode prog_6_method_17_code 1 = .ok (.getfield 22, 3) := by decide +kernel
theorem d_Teller_isFalse_4 : decode prog_6_method_17_code 4 = .ok (.getfield 71, 3) := by decide +kernel
theorem d_Teller_isFalse_7 : decode prog_6_method_17_code 7 = .ok (.iload_n 1, 1) := by decide +kernel
theorem d_Teller_isFalse_8 : decode prog_6_method_17_code 8 = .ok (.iaload, 1) := by decide +kernel
theorem d_Teller_isFalse_9 : decode prog_6_method_17_code 9 = .ok (.ifCond .eq 28, 3) := by decide +kernel
theorem d_Teller_isFalse_12 : decode prog_6_method_17_code 12 = .ok (.aload_n 0, 1) := by decide +kernel
theorem d_Teller_isFalse_13 : decode prog_6_method_17_code 13 = .ok (.getfield 22, 3) := by decide +kernel
theorem d_Teller_isFalse_16 : decode prog_6_method_17_code 16 = .ok (.getfield 71, 3) := by decide +kernel
theorem d_Teller_isFalse_19 : decode prog_6_method_17_code 19 = .ok (.iload_n 1, 1) := by decide +kernel
theorem d_Teller_isFalse_20 : decode prog_6_method_17_code 20 = .ok (.iaload, 1) := by decide +kernel
theorem d_Teller_isFalse_21 : decode prog_6_method_17_code 21 = .ok (.iconst 2, 1) := by decide +kernel
theorem d_Teller_isFalse_22 : decode prog_6_method_17_code 22 = .ok (.if_icmp .ne 19, 3) := by decide +kernel
theorem d_Teller_isFalse_25 : decode prog_6_method_17_code 25 = .ok (.aload_n 0, 1) := by decide +kernel
theorem d_Teller_isFalse_26 : decode prog_6_method_17_code 26 = .ok (.getfield 22, 3) := by decide +kernel
theorem d_Teller_isFalse_29 : decode prog_6_method_17_code 29 = .ok (.getfield 75, 3) := by decide +kernel
theorem d_Teller_isFalse_32 : decode prog_6_method_17_code 32 = .ok (.iload_n 1, 1) := by decide +kernel
theorem d_Teller_isFalse_33 : decode prog_6_method_17_code 33 = .ok (.iaload, 1) := by decide +kernel
theorem d_Teller_isFalse_34 : decode prog_6_method_17_code 34 = .ok (.ifCond .ne 7, 3) := by decide +kernel
theorem d_Teller_isFalse_37 : decode prog_6_method_17_code 37 = .ok (.iconst 1, 1) := by decide +kernel
theorem d_Teller_isFalse_38 : decode prog_6_method_17_code 38 = .ok (.goto 4, 3) := by decide +kernel
theorem d_Teller_isFalse_41 : decode prog_6_method_17_code 41 = .ok (.iconst 0, 1) := by decide +kernel
theorem d_Teller_isFalse_42 : decode prog_6_method_17_code 42 = .ok (.ireturn, 1) := by decide +kernel
theorem d_Teller_isLocal_0 : decode prog_6_method_18_code 0 = .ok (.iload_n 2, 1) := by decide +kernel
theorem d_Teller_isLocal_1 : decode prog_6_method_18_code 1 = .ok (.ifCond .lt 20, 3) := by decide +kernel
theorem d_Teller_isLocal_4 : decode prog_6_method_18_code 4 = .ok (.iload_n 2, 1) := by decide +kernel
theorem d_Teller_isLocal_5 : decode prog_6_method_18_code 5 = .ok (.aload_n 1, 1) := by decide +kernel
theorem d_Teller_isLocal_6 : decode prog_6_method_18_code 6 = .ok (.getfield 223, 3) := by decide +kernel
theorem d_Teller_isLocal_9 : decode prog_6_method_18_code 9 = .ok (.aload_n 1, 1) := by decide +kernel
theorem d_Teller_isLocal_10 : decode prog_6_method_18_code 10 = .ok (.getfield 137, 3) := by decide +kernel
theorem d_Teller_isLocal_13 : decode prog_6_method_18_code 13 = .ok (.isub, 1) := by decide +kernel
theorem d_Teller_isLocal_14 : decode prog_6_method_18_code 14 = .ok (.if_icmp .ge 7, 3) := by decide +kernel
theorem d_Teller_isLocal_17 : decode prog_6_method_18_code 17 = .ok (.iconst 1, 1) := by decide +kernel
theorem d_Teller_isLocal_18 : decode prog_6_method_18_code 18 = .ok (.goto 4, 3) := by decide +kernel
theorem d_Teller_isLocal_21 : decode prog_6_method_18_code 21 = .ok (.iconst 0, 1) := by decide +kernel
