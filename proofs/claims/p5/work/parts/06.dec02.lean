theorem d_Teller_isLocal_22 : decode prog_6_method_18_code 22 = .ok (.ireturn, 1) := by decide +kernel
theorem d_Teller_isObjectOnTop_0 : decode prog_6_method_16_code 0 = .ok (.aload_n 0, 1) := by decide +kernel
theorem d_Teller_isObjectOnTop_1 : decode prog_6_method_16_code 1 = .ok (.aload_n 1, 1) := by decide +kernel
theorem d_Teller_isObjectOnTop_2 : decode prog_6_method_16_code 2 = .ok (.iconst 1, 1) := by decide +kernel
theorem d_Teller_isObjectOnTop_3 : decode prog_6_method_16_code 3 = .ok (.invokevirtual 146, 3) := by decide +kernel
theorem d_Teller_isObjectOnTop_6 : decode prog_6_method_16_code 6 = .ok (.ifCond .eq 29, 3) := by decide +kernel
theorem d_Teller_isObjectOnTop_9 : decode prog_6_method_16_code 9 = .ok (.aload_n 0, 1) := by decide +kernel
theorem d_Teller_isObjectOnTop_10 : decode prog_6_method_16_code 10 = .ok (.invokevirtual 180, 3) := by decide +kernel
theorem d_Teller_isObjectOnTop_13 : decode prog_6_method_16_code 13 = .ok (.iconst 3, 1) := by decide +kernel
theorem d_Teller_isObjectOnTop_14 : decode prog_6_method_16_code 14 = .ok (.if_icmp .ne 21, 3) := by decide +kernel
theorem d_Teller_isObjectOnTop_17 : decode prog_6_method_16_code 17 = .ok (.aload_n 0, 1) := by decide +kernel
theorem d_Teller_isObjectOnTop_18 : decode prog_6_method_16_code 18 = .ok (.getfield 40, 3) := by decide +kernel
theorem d_Teller_isObjectOnTop_21 : decode prog_6_method_16_code 21 = .ok (.aload_n 0, 1) := by decide +kernel
theorem d_Teller_isObjectOnTop_22 : decode prog_6_method_16_code 22 = .ok (.invokevirtual 184, 3) := by decide +kernel
theorem d_Teller_isObjectOnTop_25 : decode prog_6_method_16_code 25 = .ok (.invokevirtual 126, 3) := by decide +kernel
theorem d_Teller_isObjectOnTop_28 : decode prog_6_method_16_code 28 = .ok (.ifCond .eq 7, 3) := by decide +kernel
theorem d_Teller_isObjectOnTop_31 : decode prog_6_method_16_code 31 = .ok (.iconst 1, 1) := by decide +kernel
theorem d_Teller_isObjectOnTop_32 : decode prog_6_method_16_code 32 = .ok (.goto 4, 3) := by decide +kernel
theorem d_Teller_isObjectOnTop_35 : decode prog_6_method_16_code 35 = .ok (.iconst 0, 1) := by decide +kernel
theorem d_Teller_isObjectOnTop_36 : decode prog_6_method_16_code 36 = .ok (.ireturn, 1) := by decide +kernel
theorem d_Teller_jump_0 : decode prog_6_method_23_code 0 = .ok (.aload_n 1, 1) := by decide +kernel
theorem d_Teller_jump_1 : decode prog_6_method_23_code 1 = .ok (.aload_n 1, 1) := by decide +kernel
theorem d_Teller_jump_2 : decode prog_6_method_23_code 2 = .ok (.getfield 110, 3) := by decide +kernel
theorem d_Teller_jump_5 : decode prog_6_method_23_code 5 = .ok (.iload_n 2, 1) := by decide +kernel
theorem d_Teller_jump_6 : decode prog_6_method_23_code 6 = .ok (.iadd, 1) := by decide +kernel
theorem d_Teller_jump_7 : decode prog_6_method_23_code 7 = .ok (.putfield 97, 3) := by decide +kernel
theorem d_Teller_jump_10 : decode prog_6_method_23_code 10 = .ok (.iconst 1, 1) := by decide +kernel
theorem d_Teller_jump_11 : decode prog_6_method_23_code 11 = .ok (.ireturn, 1) := by decide +kernel
theorem d_Teller_jumpIfFalse_0 : decode prog_6_method_24_code 0 = .ok (.aload_n 0, 1) := by decide +kernel
theorem d_Teller_jumpIfFalse_1 : decode prog_6_method_24_code 1 = .ok (.aload_n 1, 1) := by decide +kernel
theorem d_Teller_jumpIfFalse_2 : decode prog_6_method_24_code 2 = .ok (.iconst 1, 1) := by decide +kernel
theorem d_Teller_jumpIfFalse_3 : decode prog_6_method_24_code 3 = .ok (.invokevirtual 146, 3) := by decide +kernel
theorem d_Teller_jumpIfFalse_6 : decode prog_6_method_24_code 6 = .ok (.ifCond .ne 5, 3) := by decide +kernel
theorem d_Teller_jumpIfFalse_9 : decode prog_6_method_24_code 9 = .ok (.iconst 0, 1) := by decide +kernel
theorem d_Teller_jumpIfFalse_10 : decode prog_6_method_24_code 10 = .ok (.ireturn, 1) := by decide +kernel
theorem d_Teller_jumpIfFalse_11 : decode prog_6_method_24_code 11 = .ok (.aload_n 0, 1) := by decide +kernel
theorem d_Teller_jumpIfFalse_12 : decode prog_6_method_24_code 12 = .ok (.aload_n 0, 1) := by decide +kernel
theorem d_Teller_jumpIfFalse_13 : decode prog_6_method_24_code 13 = .ok (.getfield 22, 3) := by decide +kernel
theorem d_Teller_jumpIfFalse_16 : decode prog_6_method_24_code 16 = .ok (.getfield 52, 3) := by decide +kernel
theorem d_Teller_jumpIfFalse_19 : decode prog_6_method_24_code 19 = .ok (.iconst 1, 1) := by decide +kernel
theorem d_Teller_jumpIfFalse_20 : decode prog_6_method_24_code 20 = .ok (.isub, 1) := by decide +kernel
theorem d_Teller_jumpIfFalse_21 : decode prog_6_method_24_code 21 = .ok (.invokevirtual 158, 3) := by decide +kernel
theorem d_Teller_jumpIfFalse_24 : decode prog_6_method_24_code 24 = .ok (.istore_n 3, 1) := by decide +kernel
theorem d_Teller_jumpIfFalse_25 : decode prog_6_method_24_code 25 = .ok (.aload_n 0, 1) := by decide +kernel
theorem d_Teller_jumpIfFalse_26 : decode prog_6_method_24_code 26 = .ok (.getfield 22, 3) := by decide +kernel
theorem d_Teller_jumpIfFalse_29 : decode prog_6_method_24_code 29 = .ok (.dup, 1) := by decide +kernel
theorem d_Teller_jumpIfFalse_30 : decode prog_6_method_24_code 30 = .ok (.getfield 52, 3) := by decide +kernel
theorem d_Teller_jumpIfFalse_33 : decode prog_6_method_24_code 33 = .ok (.iconst 1, 1) := by decide +kernel
theorem d_Teller_jumpIfFalse_34 : decode prog_6_method_24_code 34 = .ok (.isub, 1) := by decide +kernel
theorem d_Teller_jumpIfFalse_35 : decode prog_6_method_24_code 35 = .ok (.putfield 52, 3) := by decide +kernel
theorem d_Teller_jumpIfFalse_38 : decode prog_6_method_24_code 38 = .ok (.aload_n 0, 1) := by decide +kernel
theorem d_Teller_jumpIfFalse_39 : decode prog_6_method_24_code 39 = .ok (.aload_n 1, 1) := by decide +kernel
theorem d_Teller_jumpIfFalse_40 : decode prog_6_method_24_code 40 = .ok (.iload_n 3, 1) := by decide +kernel
theorem d_Teller_jumpIfFalse_41 : decode prog_6_method_24_code 41 = .ok (.ifCond .eq 7, 3) := by decide +kernel
theorem d_Teller_jumpIfFalse_44 : decode prog_6_method_24_code 44 = .ok (.iload_n 2, 1) := by decide +kernel
theorem d_Teller_jumpIfFalse_45 : decode prog_6_method_24_code 45 = .ok (.goto 4, 3) := by decide +kernel
theorem d_Teller_jumpIfFalse_48 : decode prog_6_method_24_code 48 = .ok (.iconst 0, 1) := by decide +kernel
theorem d_Teller_jumpIfFalse_49 : decode prog_6_method_24_code 49 = .ok (.invokevirtual 165, 3) := by decide +kernel
theorem d_Teller_jumpIfFalse_52 : decode prog_6_method_24_code 52 = .ok (.ireturn, 1) := by decide +kernel
theorem d_Teller_like_0 : decode prog_6_method_22_code 0 = .ok (.aload_n 0, 1) := by decide +kernel
theorem d_Teller_like_1 : decode prog_6_method_22_code 1 = .ok (.getfield 22, 3) := by decide +kernel
theorem d_Teller_like_4 : decode prog_6_method_22_code 4 = .ok (.getfield 52, 3) := by decide +kernel
theorem d_Teller_like_7 : decode prog_6_method_22_code 7 = .ok (.iconst 1, 1) := by decide +kernel
theorem d_Teller_like_8 : decode prog_6_method_22_code 8 = .ok (.isub, 1) := by decide +kernel
theorem d_Teller_like_9 : decode prog_6_method_22_code 9 = .ok (.istore_n 2, 1) := by decide +kernel
theorem d_Teller_like_10 : decode prog_6_method_22_code 10 = .ok (.iload_n 2, 1) := by decide +kernel
theorem d_Teller_like_11 : decode prog_6_method_22_code 11 = .ok (.iconst 1, 1) := by decide +kernel
theorem d_Teller_like_12 : decode prog_6_method_22_code 12 = .ok (.isub, 1) := by decide +kernel
theorem d_Teller_like_13 : decode prog_6_method_22_code 13 = .ok (.istore_n 3, 1) := by decide +kernel
theorem d_Teller_like_14 : decode prog_6_method_22_code 14 = .ok (.aload_n 0, 1) := by decide +kernel
theorem d_Teller_like_15 : decode prog_6_method_22_code 15 = .ok (.aload_n 1, 1) := by decide +kernel
theorem d_Teller_like_16 : decode prog_6_method_22_code 16 = .ok (.iconst 2, 1) := by decide +kernel
theorem d_Teller_like_17 : decode prog_6_method_22_code 17 = .ok (.invokevirtual 146, 3) := by decide +kernel
theorem d_Teller_like_20 : decode prog_6_method_22_code 20 = .ok (.ifCond .eq 63, 3) := by decide +kernel
theorem d_Teller_like_23 : decode prog_6_method_22_code 23 = .ok (.aload_n 0, 1) := by decide +kernel
theorem d_Teller_like_24 : decode prog_6_method_22_code 24 = .ok (.aload_n 1, 1) := by decide +kernel
theorem d_Teller_like_25 : decode prog_6_method_22_code 25 = .ok (.iconst 2, 1) := by decide +kernel
theorem d_Teller_like_26 : decode prog_6_method_22_code 26 = .ok (.aload_n 0, 1) := by decide +kernel
theorem d_Teller_like_27 : decode prog_6_method_22_code 27 = .ok (.getfield 22, 3) := by decide +kernel
theorem d_Teller_like_30 : decode prog_6_method_22_code 30 = .ok (.getfield 71, 3) := by decide +kernel
theorem d_Teller_like_33 : decode prog_6_method_22_code 33 = .ok (.iload_n 3, 1) := by decide +kernel
theorem d_Teller_like_34 : decode prog_6_method_22_code 34 = .ok (.iaload, 1) := by decide +kernel
theorem d_Teller_like_35 : decode prog_6_method_22_code 35 = .ok (.aload_n 0, 1) := by decide +kernel
theorem d_Teller_like_36 : decode prog_6_method_22_code 36 = .ok (.getfield 22, 3) := by decide +kernel
theorem d_Teller_like_39 : decode prog_6_method_22_code 39 = .ok (.getfield 71, 3) := by decide +kernel
theorem d_Teller_like_42 : decode prog_6_method_22_code 42 = .ok (.iload_n 2, 1) := by decide +kernel
theorem d_Teller_like_43 : decode prog_6_method_22_code 43 = .ok (.iaload, 1) := by decide +kernel
theorem d_Teller_like_44 : decode prog_6_method_22_code 44 = .ok (.if_icmp .ne 28, 3) := by decide +kernel
theorem d_Teller_like_47 : decode prog_6_method_22_code 47 = .ok (.aload_n 0, 1) := by decide +kernel
theorem d_Teller_like_48 : decode prog_6_method_22_code 48 = .ok (.getfield 22, 3) := by decide +kernel
theorem d_Teller_like_51 : decode prog_6_method_22_code 51 = .ok (.getfield 75, 3) := by decide +kernel
theorem d_Teller_like_54 : decode prog_6_method_22_code 54 = .ok (.iload_n 3, 1) := by decide +kernel
theorem d_Teller_like_55 : decode prog_6_method_22_code 55 = .ok (.iaload, 1) := by decide +kernel
theorem d_Teller_like_56 : decode prog_6_method_22_code 56 = .ok (.aload_n 0, 1) := by decide +kernel
theorem d_Teller_like_57 : decode prog_6_method_22_code 57 = .ok (.getfield 22, 3) := by decide +kernel
theorem d_Teller_like_60 : decode prog_6_method_22_code 60 = .ok (.getfield 75, 3) := by decide +kernel
theorem d_Teller_like_63 : decode prog_6_method_22_code 63 = .ok (.iload_n 2, 1) := by decide +kernel
theorem d_Teller_like_64 : decode prog_6_method_22_code 64 = .ok (.iaload, 1) := by decide +kernel
theorem d_Teller_like_65 : decode prog_6_method_22_code 65 = .ok (.if_icmp .ne 7, 3) := by decide +kernel
theorem d_Teller_like_68 : decode prog_6_method_22_code 68 = .ok (.iconst 1, 1) := by decide +kernel
theorem d_Teller_like_69 : decode prog_6_method_22_code 69 = .ok (.goto 4, 3) := by decide +kernel
theorem d_Teller_like_72 : decode prog_6_method_22_code 72 = .ok (.iconst 0, 1) := by decide +kernel
theorem d_Teller_like_73 : decode prog_6_method_22_code 73 = .ok (.invokevirtual 161, 3) := by decide +kernel
theorem d_Teller_like_76 : decode prog_6_method_22_code 76 = .ok (.ifCond .eq 7, 3) := by decide +kernel
theorem d_Teller_like_79 : decode prog_6_method_22_code 79 = .ok (.iconst 1, 1) := by decide +kernel
theorem d_Teller_like_80 : decode prog_6_method_22_code 80 = .ok (.goto 4, 3) := by decide +kernel
theorem d_Teller_like_83 : decode prog_6_method_22_code 83 = .ok (.iconst 0, 1) := by decide +kernel
theorem d_Teller_like_84 : decode prog_6_method_22_code 84 = .ok (.ireturn, 1) := by decide +kernel
theorem d_Teller_make_0 : decode prog_6_method_33_code 0 = .ok (.aload_n 0, 1) := by decide +kernel
theorem d_Teller_make_1 : decode prog_6_method_33_code 1 = .ok (.getfield 40, 3) := by decide +kernel
theorem d_Teller_make_4 : decode prog_6_method_33_code 4 = .ok (.iload_n 2, 1) := by decide +kernel
theorem d_Teller_make_5 : decode prog_6_method_33_code 5 = .ok (.invokevirtual 126, 3) := by decide +kernel
theorem d_Teller_make_8 : decode prog_6_method_33_code 8 = .ok (.ifCond .eq 13, 3) := by decide +kernel
theorem d_Teller_make_11 : decode prog_6_method_33_code 11 = .ok (.aload_n 0, 1) := by decide +kernel
theorem d_Teller_make_12 : decode prog_6_method_33_code 12 = .ok (.getfield 22, 3) := by decide +kernel
theorem d_Teller_make_15 : decode prog_6_method_33_code 15 = .ok (.invokevirtual 205, 3) := by decide +kernel
theorem d_Teller_make_18 : decode prog_6_method_33_code 18 = .ok (.ifCond .eq 5, 3) := by decide +kernel
theorem d_Teller_make_21 : decode prog_6_method_33_code 21 = .ok (.iconst 0, 1) := by decide +kernel
theorem d_Teller_make_22 : decode prog_6_method_33_code 22 = .ok (.ireturn, 1) := by decide +kernel
theorem d_Teller_make_23 : decode prog_6_method_33_code 23 = .ok (.aload_n 0, 1) := by decide +kernel
theorem d_Teller_make_24 : decode prog_6_method_33_code 24 = .ok (.getfield 40, 3) := by decide +kernel
theorem d_Teller_make_27 : decode prog_6_method_33_code 27 = .ok (.iload_n 2, 1) := by decide +kernel
theorem d_Teller_make_28 : decode prog_6_method_33_code 28 = .ok (.invokevirtual 279, 3) := by decide +kernel
theorem d_Teller_make_31 : decode prog_6_method_33_code 31 = .ok (.istore_n 3, 1) := by decide +kernel
theorem d_Teller_make_32 : decode prog_6_method_33_code 32 = .ok (.iload_n 3, 1) := by decide +kernel
theorem d_Teller_make_33 : decode prog_6_method_33_code 33 = .ok (.iconst (-1), 1) := by decide +kernel
theorem d_Teller_make_34 : decode prog_6_method_33_code 34 = .ok (.if_icmp .eq 17, 3) := by decide +kernel
theorem d_Teller_make_37 : decode prog_6_method_33_code 37 = .ok (.aload_n 0, 1) := by decide +kernel
theorem d_Teller_make_38 : decode prog_6_method_33_code 38 = .ok (.aload_n 1, 1) := by decide +kernel
theorem d_Teller_make_39 : decode prog_6_method_33_code 39 = .ok (.iconst 3, 1) := by decide +kernel
theorem d_Teller_make_40 : decode prog_6_method_33_code 40 = .ok (.iload_n 3, 1) := by decide +kernel
theorem d_Teller_make_41 : decode prog_6_method_33_code 41 = .ok (.invokevirtual 119, 3) := by decide +kernel
theorem d_Teller_make_44 : decode prog_6_method_33_code 44 = .ok (.ifCond .eq 7, 3) := by decide +kernel
theorem d_Teller_make_47 : decode prog_6_method_33_code 47 = .ok (.iconst 1, 1) := by decide +kernel
theorem d_Teller_make_48 : decode prog_6_method_33_code 48 = .ok (.goto 4, 3) := by decide +kernel
theorem d_Teller_make_51 : decode prog_6_method_33_code 51 = .ok (.iconst 0, 1) := by decide +kernel
theorem d_Teller_make_52 : decode prog_6_method_33_code 52 = .ok (.ireturn, 1) := by decide +kernel
theorem d_Teller_number_0 : decode prog_6_method_21_code 0 = .ok (.iload_n 0, 1) := by decide +kernel
theorem d_Teller_number_1 : decode prog_6_method_21_code 1 = .ok (.tableswitch 39 12 14 #[27, 31, 35], 27) := by decide +kernel
theorem d_Teller_number_28 : decode prog_6_method_21_code 28 = .ok (.iload_n 1, 1) := by decide +kernel
theorem d_Teller_number_29 : decode prog_6_method_21_code 29 = .ok (.iload_n 2, 1) := by decide +kernel
theorem d_Teller_number_30 : decode prog_6_method_21_code 30 = .ok (.iadd, 1) := by decide +kernel
theorem d_Teller_number_31 : decode prog_6_method_21_code 31 = .ok (.ireturn, 1) := by decide +kernel
theorem d_Teller_number_32 : decode prog_6_method_21_code 32 = .ok (.iload_n 1, 1) := by decide +kernel
theorem d_Teller_number_33 : decode prog_6_method_21_code 33 = .ok (.iload_n 2, 1) := by decide +kernel
theorem d_Teller_number_34 : decode prog_6_method_21_code 34 = .ok (.isub, 1) := by decide +kernel
theorem d_Teller_number_35 : decode prog_6_method_21_code 35 = .ok (.ireturn, 1) := by decide +kernel
theorem d_Teller_number_36 : decode prog_6_method_21_code 36 = .ok (.iload_n 1, 1) := by decide +kernel
theorem d_Teller_number_37 : decode prog_6_method_21_code 37 = .ok (.iload_n 2, 1) := by decide +kernel
theorem d_Teller_number_38 : decode prog_6_method_21_code 38 = .ok (.imul, 1) := by decide +kernel
theorem d_Teller_number_39 : decode prog_6_method_21_code 39 = .ok (.ireturn, 1) := by decide +kernel
theorem d_Teller_number_40 : decode prog_6_method_21_code 40 = .ok (.iload_n 2, 1) := by decide +kernel
theorem d_Teller_number_41 : decode prog_6_method_21_code 41 = .ok (.ifCond .ne 7, 3) := by decide +kernel
theorem d_Teller_number_48 : decode prog_6_method_21_code 48 = .ok (.iload_n 1, 1) := by decide +kernel
theorem d_Teller_number_49 : decode prog_6_method_21_code 49 = .ok (.iload_n 2, 1) := by decide +kernel
theorem d_Teller_number_50 : decode prog_6_method_21_code 50 = .ok (.idiv, 1) := by decide +kernel
theorem d_Teller_number_51 : decode prog_6_method_21_code 51 = .ok (.ireturn, 1) := by decide +kernel
theorem d_Teller_perform_0 : decode prog_6_method_7_code 0 = .ok (.aload_n 0, 1) := by decide +kernel
theorem d_Teller_perform_1 : decode prog_6_method_7_code 1 = .ok (.invokevirtual 93, 3) := by decide +kernel
theorem d_Teller_perform_4 : decode prog_6_method_7_code 4 = .ok (.astore_n 1, 1) := by decide +kernel
theorem d_Teller_perform_5 : decode prog_6_method_7_code 5 = .ok (.aload_n 0, 1) := by decide +kernel
theorem d_Teller_perform_6 : decode prog_6_method_7_code 6 = .ok (.getfield 36, 3) := by decide +kernel
theorem d_Teller_perform_9 : decode prog_6_method_7_code 9 = .ok (.aload_n 1, 1) := by decide +kernel
theorem d_Teller_perform_10 : decode prog_6_method_7_code 10 = .ok (.getfield 97, 3) := by decide +kernel
theorem d_Teller_perform_13 : decode prog_6_method_7_code 13 = .ok (.invokevirtual 100, 3) := by decide +kernel
theorem d_Teller_perform_16 : decode prog_6_method_7_code 16 = .ok (.istore_n 2, 1) := by decide +kernel
theorem d_Teller_perform_17 : decode prog_6_method_7_code 17 = .ok (.aload_n 1, 1) := by decide +kernel
theorem d_Teller_perform_18 : decode prog_6_method_7_code 18 = .ok (.aload_n 0, 1) := by decide +kernel
theorem d_Teller_perform_19 : decode prog_6_method_7_code 19 = .ok (.getfield 36, 3) := by decide +kernel
theorem d_Teller_perform_22 : decode prog_6_method_7_code 22 = .ok (.aload_n 1, 1) := by decide +kernel
theorem d_Teller_perform_23 : decode prog_6_method_7_code 23 = .ok (.getfield 97, 3) := by decide +kernel
theorem d_Teller_perform_26 : decode prog_6_method_7_code 26 = .ok (.iload_n 2, 1) := by decide +kernel
theorem d_Teller_perform_27 : decode prog_6_method_7_code 27 = .ok (.invokevirtual 106, 3) := by decide +kernel
theorem d_Teller_perform_30 : decode prog_6_method_7_code 30 = .ok (.putfield 110, 3) := by decide +kernel
theorem d_Teller_perform_33 : decode prog_6_method_7_code 33 = .ok (.aload_n 0, 1) := by decide +kernel
theorem d_Teller_perform_34 : decode prog_6_method_7_code 34 = .ok (.getfield 36, 3) := by decide +kernel
theorem d_Teller_perform_37 : decode prog_6_method_7_code 37 = .ok (.aload_n 1, 1) := by decide +kernel
theorem d_Teller_perform_38 : decode prog_6_method_7_code 38 = .ok (.getfield 97, 3) := by decide +kernel
theorem d_Teller_perform_41 : decode prog_6_method_7_code 41 = .ok (.iconst 1, 1) := by decide +kernel
theorem d_Teller_perform_42 : decode prog_6_method_7_code 42 = .ok (.iadd, 1) := by decide +kernel
theorem d_Teller_perform_43 : decode prog_6_method_7_code 43 = .ok (.invokevirtual 112, 3) := by decide +kernel
theorem d_Teller_perform_46 : decode prog_6_method_7_code 46 = .ok (.istore_n 3, 1) := by decide +kernel
theorem d_Teller_perform_47 : decode prog_6_method_7_code 47 = .ok (.iload_n 2, 1) := by decide +kernel
theorem d_Teller_perform_48 : decode prog_6_method_7_code 48 = .ok (.tableswitch 706 0 34 #[156, 162, 171, 191, 199, 207, 234, 254, 283, 290, 319, 351, 375, 375, 375, 375, 375, 382, 388, 425, 433, 441, 461, 468, 488, 527, 558, 566, 591, 598, 605, 647, 653, 692, 699], 156) := by decide +kernel
theorem d_Teller_perform_204 : decode prog_6_method_7_code 204 = .ok (.aload_n 0, 1) := by decide +kernel
theorem d_Teller_perform_205 : decode prog_6_method_7_code 205 = .ok (.aload_n 1, 1) := by decide +kernel
theorem d_Teller_perform_206 : decode prog_6_method_7_code 206 = .ok (.invokevirtual 115, 3) := by decide +kernel
theorem d_Teller_perform_209 : decode prog_6_method_7_code 209 = .ok (.ireturn, 1) := by decide +kernel
theorem d_Teller_perform_210 : decode prog_6_method_7_code 210 = .ok (.aload_n 0, 1) := by decide +kernel
theorem d_Teller_perform_211 : decode prog_6_method_7_code 211 = .ok (.aload_n 1, 1) := by decide +kernel
theorem d_Teller_perform_212 : decode prog_6_method_7_code 212 = .ok (.iconst 2, 1) := by decide +kernel
theorem d_Teller_perform_213 : decode prog_6_method_7_code 213 = .ok (.iload_n 3, 1) := by decide +kernel
theorem d_Teller_perform_214 : decode prog_6_method_7_code 214 = .ok (.i2b, 1) := by decide +kernel
theorem d_Teller_perform_215 : decode prog_6_method_7_code 215 = .ok (.invokevirtual 119, 3) := by decide +kernel
theorem d_Teller_perform_218 : decode prog_6_method_7_code 218 = .ok (.ireturn, 1) := by decide +kernel
theorem d_Teller_perform_219 : decode prog_6_method_7_code 219 = .ok (.aload_n 0, 1) := by decide +kernel
theorem d_Teller_perform_220 : decode prog_6_method_7_code 220 = .ok (.aload_n 1, 1) := by decide +kernel
theorem d_Teller_perform_221 : decode prog_6_method_7_code 221 = .ok (.iconst 2, 1) := by decide +kernel
theorem d_Teller_perform_222 : decode prog_6_method_7_code 222 = .ok (.aload_n 0, 1) := by decide +kernel
theorem d_Teller_perform_223 : decode prog_6_method_7_code 223 = .ok (.getfield 36, 3) := by decide +kernel
theorem d_Teller_perform_226 : decode prog_6_method_7_code 226 = .ok (.aload_n 1, 1) := by decide +kernel
theorem d_Teller_perform_227 : decode prog_6_method_7_code 227 = .ok (.getfield 97, 3) := by decide +kernel
theorem d_Teller_perform_230 : decode prog_6_method_7_code 230 = .ok (.iconst 1, 1) := by decide +kernel
theorem d_Teller_perform_231 : decode prog_6_method_7_code 231 = .ok (.iadd, 1) := by decide +kernel
theorem d_Teller_perform_232 : decode prog_6_method_7_code 232 = .ok (.invokevirtual 123, 3) := by decide +kernel
theorem d_Teller_perform_235 : decode prog_6_method_7_code 235 = .ok (.invokevirtual 119, 3) := by decide +kernel
theorem d_Teller_perform_238 : decode prog_6_method_7_code 238 = .ok (.ireturn, 1) := by decide +kernel
theorem d_Teller_perform_239 : decode prog_6_method_7_code 239 = .ok (.aload_n 0, 1) := by decide +kernel
theorem d_Teller_perform_240 : decode prog_6_method_7_code 240 = .ok (.aload_n 1, 1) := by decide +kernel
theorem d_Teller_perform_241 : decode prog_6_method_7_code 241 = .ok (.iconst 0, 1) := by decide +kernel
theorem d_Teller_perform_242 : decode prog_6_method_7_code 242 = .ok (.iconst 0, 1) := by decide +kernel
theorem d_Teller_perform_243 : decode prog_6_method_7_code 243 = .ok (.invokevirtual 119, 3) := by decide +kernel
theorem d_Teller_perform_246 : decode prog_6_method_7_code 246 = .ok (.ireturn, 1) := by decide +kernel
theorem d_Teller_perform_247 : decode prog_6_method_7_code 247 = .ok (.aload_n 0, 1) := by decide +kernel
theorem d_Teller_perform_248 : decode prog_6_method_7_code 248 = .ok (.aload_n 1, 1) := by decide +kernel
theorem d_Teller_perform_249 : decode prog_6_method_7_code 249 = .ok (.iconst 1, 1) := by decide +kernel
theorem d_Teller_perform_250 : decode prog_6_method_7_code 250 = .ok (.iconst 1, 1) := by decide +kernel
theorem d_Teller_perform_251 : decode prog_6_method_7_code 251 = .ok (.invokevirtual 119, 3) := by decide +kernel
theorem d_Teller_perform_254 : decode prog_6_method_7_code 254 = .ok (.ireturn, 1) := by decide +kernel
theorem d_Teller_perform_255 : decode prog_6_method_7_code 255 = .ok (.aload_n 0, 1) := by decide +kernel
theorem d_Teller_perform_256 : decode prog_6_method_7_code 256 = .ok (.getfield 40, 3) := by decide +kernel
theorem d_Teller_perform_259 : decode prog_6_method_7_code 259 = .ok (.iload_n 3, 1) := by decide +kernel
theorem d_Teller_perform_260 : decode prog_6_method_7_code 260 = .ok (.invokevirtual 126, 3) := by decide +kernel
theorem d_Teller_perform_263 : decode prog_6_method_7_code 263 = .ok (.ifCond .eq 17, 3) := by decide +kernel
theorem d_Teller_perform_266 : decode prog_6_method_7_code 266 = .ok (.aload_n 0, 1) := by decide +kernel
theorem d_Teller_perform_267 : decode prog_6_method_7_code 267 = .ok (.aload_n 1, 1) := by decide +kernel
theorem d_Teller_perform_268 : decode prog_6_method_7_code 268 = .ok (.iconst 3, 1) := by decide +kernel
theorem d_Teller_perform_269 : decode prog_6_method_7_code 269 = .ok (.iload_n 3, 1) := by decide +kernel
theorem d_Teller_perform_270 : decode prog_6_method_7_code 270 = .ok (.invokevirtual 119, 3) := by decide +kernel
theorem d_Teller_perform_273 : decode prog_6_method_7_code 273 = .ok (.ifCond .eq 7, 3) := by decide +kernel
theorem d_Teller_perform_276 : decode prog_6_method_7_code 276 = .ok (.iconst 1, 1) := by decide +kernel
theorem d_Teller_perform_277 : decode prog_6_method_7_code 277 = .ok (.goto 4, 3) := by decide +kernel
theorem d_Teller_perform_280 : decode prog_6_method_7_code 280 = .ok (.iconst 0, 1) := by decide +kernel
theorem d_Teller_perform_281 : decode prog_6_method_7_code 281 = .ok (.ireturn, 1) := by decide +kernel
theorem d_Teller_perform_282 : decode prog_6_method_7_code 282 = .ok (.aload_n 0, 1) := by decide +kernel
theorem d_Teller_perform_283 : decode prog_6_method_7_code 283 = .ok (.aload_n 1, 1) := by decide +kernel
theorem d_Teller_perform_284 : decode prog_6_method_7_code 284 = .ok (.iconst 4, 1) := by decide +kernel
theorem d_Teller_perform_285 : decode prog_6_method_7_code 285 = .ok (.aload_n 0, 1) := by decide +kernel
theorem d_Teller_perform_286 : decode prog_6_method_7_code 286 = .ok (.getfield 36, 3) := by decide +kernel
theorem d_Teller_perform_289 : decode prog_6_method_7_code 289 = .ok (.aload_n 1, 1) := by decide +kernel
theorem d_Teller_perform_290 : decode prog_6_method_7_code 290 = .ok (.getfield 97, 3) := by decide +kernel
theorem d_Teller_perform_293 : decode prog_6_method_7_code 293 = .ok (.iconst 1, 1) := by decide +kernel
theorem d_Teller_perform_294 : decode prog_6_method_7_code 294 = .ok (.iadd, 1) := by decide +kernel
theorem d_Teller_perform_295 : decode prog_6_method_7_code 295 = .ok (.invokevirtual 130, 3) := by decide +kernel
theorem d_Teller_perform_298 : decode prog_6_method_7_code 298 = .ok (.invokevirtual 119, 3) := by decide +kernel
theorem d_Teller_perform_301 : decode prog_6_method_7_code 301 = .ok (.ireturn, 1) := by decide +kernel
theorem d_Teller_perform_302 : decode prog_6_method_7_code 302 = .ok (.aload_n 0, 1) := by decide +kernel
theorem d_Teller_perform_303 : decode prog_6_method_7_code 303 = .ok (.aload_n 1, 1) := by decide +kernel
theorem d_Teller_perform_304 : decode prog_6_method_7_code 304 = .ok (.iload_n 3, 1) := by decide +kernel
theorem d_Teller_perform_305 : decode prog_6_method_7_code 305 = .ok (.invokevirtual 133, 3) := by decide +kernel
theorem d_Teller_perform_308 : decode prog_6_method_7_code 308 = .ok (.ifCond .eq 21, 3) := by decide +kernel
theorem d_Teller_perform_311 : decode prog_6_method_7_code 311 = .ok (.aload_n 0, 1) := by decide +kernel
theorem d_Teller_perform_312 : decode prog_6_method_7_code 312 = .ok (.aload_n 1, 1) := by decide +kernel
theorem d_Teller_perform_313 : decode prog_6_method_7_code 313 = .ok (.aload_n 1, 1) := by decide +kernel
theorem d_Teller_perform_314 : decode prog_6_method_7_code 314 = .ok (.getfield 137, 3) := by decide +kernel
theorem d_Teller_perform_317 : decode prog_6_method_7_code 317 = .ok (.iload_n 3, 1) := by decide +kernel
theorem d_Teller_perform_318 : decode prog_6_method_7_code 318 = .ok (.iadd, 1) := by decide +kernel
theorem d_Teller_perform_319 : decode prog_6_method_7_code 319 = .ok (.invokevirtual 140, 3) := by decide +kernel
theorem d_Teller_perform_322 : decode prog_6_method_7_code 322 = .ok (.ifCond .eq 7, 3) := by decide +kernel
theorem d_Teller_perform_325 : decode prog_6_method_7_code 325 = .ok (.iconst 1, 1) := by decide +kernel
theorem d_Teller_perform_326 : decode prog_6_method_7_code 326 = .ok (.goto 4, 3) := by decide +kernel
theorem d_Teller_perform_329 : decode prog_6_method_7_code 329 = .ok (.iconst 0, 1) := by decide +kernel
theorem d_Teller_perform_330 : decode prog_6_method_7_code 330 = .ok (.ireturn, 1) := by decide +kernel
theorem d_Teller_perform_331 : decode prog_6_method_7_code 331 = .ok (.aload_n 0, 1) := by decide +kernel
theorem d_Teller_perform_332 : decode prog_6_method_7_code 332 = .ok (.aload_n 1, 1) := by decide +kernel
theorem d_Teller_perform_333 : decode prog_6_method_7_code 333 = .ok (.iload_n 3, 1) := by decide +kernel
theorem d_Teller_perform_334 : decode prog_6_method_7_code 334 = .ok (.invokevirtual 143, 3) := by decide +kernel
theorem d_Teller_perform_337 : decode prog_6_method_7_code 337 = .ok (.ireturn, 1) := by decide +kernel
theorem d_Teller_perform_338 : decode prog_6_method_7_code 338 = .ok (.aload_n 1, 1) := by decide +kernel
theorem d_Teller_perform_339 : decode prog_6_method_7_code 339 = .ok (.getfield 84, 3) := by decide +kernel
theorem d_Teller_perform_342 : decode prog_6_method_7_code 342 = .ok (.iconst (-1), 1) := by decide +kernel
theorem d_Teller_perform_343 : decode prog_6_method_7_code 343 = .ok (.if_icmp .ne 13, 3) := by decide +kernel
theorem d_Teller_perform_346 : decode prog_6_method_7_code 346 = .ok (.aload_n 0, 1) := by decide +kernel
theorem d_Teller_perform_347 : decode prog_6_method_7_code 347 = .ok (.aload_n 1, 1) := by decide +kernel
theorem d_Teller_perform_348 : decode prog_6_method_7_code 348 = .ok (.iconst 0, 1) := by decide +kernel
theorem d_Teller_perform_349 : decode prog_6_method_7_code 349 = .ok (.iconst 0, 1) := by decide +kernel
theorem d_Teller_perform_350 : decode prog_6_method_7_code 350 = .ok (.invokevirtual 119, 3) := by decide +kernel
theorem d_Teller_perform_353 : decode prog_6_method_7_code 353 = .ok (.goto 13, 3) := by decide +kernel
theorem d_Teller_perform_356 : decode prog_6_method_7_code 356 = .ok (.aload_n 0, 1) := by decide +kernel
theorem d_Teller_perform_357 : decode prog_6_method_7_code 357 = .ok (.aload_n 1, 1) := by decide +kernel
theorem d_Teller_perform_358 : decode prog_6_method_7_code 358 = .ok (.iconst 3, 1) := by decide +kernel
theorem d_Teller_perform_359 : decode prog_6_method_7_code 359 = .ok (.aload_n 1, 1) := by decide +kernel
theorem d_Teller_perform_360 : decode prog_6_method_7_code 360 = .ok (.getfield 84, 3) := by decide +kernel
theorem d_Teller_perform_363 : decode prog_6_method_7_code 363 = .ok (.invokevirtual 119, 3) := by decide +kernel
theorem d_Teller_perform_366 : decode prog_6_method_7_code 366 = .ok (.ireturn, 1) := by decide +kernel
theorem d_Teller_perform_367 : decode prog_6_method_7_code 367 = .ok (.aload_n 0, 1) := by decide +kernel
theorem d_Teller_perform_368 : decode prog_6_method_7_code 368 = .ok (.aload_n 1, 1) := by decide +kernel
theorem d_Teller_perform_369 : decode prog_6_method_7_code 369 = .ok (.iconst 1, 1) := by decide +kernel
theorem d_Teller_perform_370 : decode prog_6_method_7_code 370 = .ok (.invokevirtual 146, 3) := by decide +kernel
theorem d_Teller_perform_373 : decode prog_6_method_7_code 373 = .ok (.ifCond .eq 24, 3) := by decide +kernel
theorem d_Teller_perform_376 : decode prog_6_method_7_code 376 = .ok (.aload_n 0, 1) := by decide +kernel
theorem d_Teller_perform_377 : decode prog_6_method_7_code 377 = .ok (.aload_n 1, 1) := by decide +kernel
theorem d_Teller_perform_378 : decode prog_6_method_7_code 378 = .ok (.aload_n 0, 1) := by decide +kernel
theorem d_Teller_perform_379 : decode prog_6_method_7_code 379 = .ok (.getfield 22, 3) := by decide +kernel
theorem d_Teller_perform_382 : decode prog_6_method_7_code 382 = .ok (.getfield 52, 3) := by decide +kernel
theorem d_Teller_perform_385 : decode prog_6_method_7_code 385 = .ok (.iconst 1, 1) := by decide +kernel
theorem d_Teller_perform_386 : decode prog_6_method_7_code 386 = .ok (.isub, 1) := by decide +kernel
theorem d_Teller_perform_387 : decode prog_6_method_7_code 387 = .ok (.invokevirtual 140, 3) := by decide +kernel
theorem d_Teller_perform_390 : decode prog_6_method_7_code 390 = .ok (.ifCond .eq 7, 3) := by decide +kernel
theorem d_Teller_perform_393 : decode prog_6_method_7_code 393 = .ok (.iconst 1, 1) := by decide +kernel
theorem d_Teller_perform_394 : decode prog_6_method_7_code 394 = .ok (.goto 4, 3) := by decide +kernel
theorem d_Teller_perform_397 : decode prog_6_method_7_code 397 = .ok (.iconst 0, 1) := by decide +kernel
theorem d_Teller_perform_398 : decode prog_6_method_7_code 398 = .ok (.ireturn, 1) := by decide +kernel
theorem d_Teller_perform_399 : decode prog_6_method_7_code 399 = .ok (.aload_n 0, 1) := by decide +kernel
theorem d_Teller_perform_400 : decode prog_6_method_7_code 400 = .ok (.aload_n 1, 1) := by decide +kernel
theorem d_Teller_perform_401 : decode prog_6_method_7_code 401 = .ok (.iconst 1, 1) := by decide +kernel
theorem d_Teller_perform_402 : decode prog_6_method_7_code 402 = .ok (.invokevirtual 146, 3) := by decide +kernel
theorem d_Teller_perform_405 : decode prog_6_method_7_code 405 = .ok (.ifCond .eq 16, 3) := by decide +kernel
theorem d_Teller_perform_408 : decode prog_6_method_7_code 408 = .ok (.aload_n 0, 1) := by decide +kernel
theorem d_Teller_perform_409 : decode prog_6_method_7_code 409 = .ok (.aload_n 1, 1) := by decide +kernel
theorem d_Teller_perform_410 : decode prog_6_method_7_code 410 = .ok (.iconst 1, 1) := by decide +kernel
theorem d_Teller_perform_411 : decode prog_6_method_7_code 411 = .ok (.invokevirtual 149, 3) := by decide +kernel
theorem d_Teller_perform_414 : decode prog_6_method_7_code 414 = .ok (.ifCond .eq 7, 3) := by decide +kernel
theorem d_Teller_perform_417 : decode prog_6_method_7_code 417 = .ok (.iconst 1, 1) := by decide +kernel
theorem d_Teller_perform_418 : decode prog_6_method_7_code 418 = .ok (.goto 4, 3) := by decide +kernel
theorem d_Teller_perform_421 : decode prog_6_method_7_code 421 = .ok (.iconst 0, 1) := by decide +kernel
theorem d_Teller_perform_422 : decode prog_6_method_7_code 422 = .ok (.ireturn, 1) := by decide +kernel
theorem d_Teller_perform_423 : decode prog_6_method_7_code 423 = .ok (.aload_n 0, 1) := by decide +kernel
theorem d_Teller_perform_424 : decode prog_6_method_7_code 424 = .ok (.aload_n 1, 1) := by decide +kernel
theorem d_Teller_perform_425 : decode prog_6_method_7_code 425 = .ok (.iload_n 2, 1) := by decide +kernel
theorem d_Teller_perform_426 : decode prog_6_method_7_code 426 = .ok (.invokevirtual 152, 3) := by decide +kernel
theorem d_Teller_perform_429 : decode prog_6_method_7_code 429 = .ok (.ireturn, 1) := by decide +kernel
theorem d_Teller_perform_430 : decode prog_6_method_7_code 430 = .ok (.aload_n 0, 1) := by decide +kernel
theorem d_Teller_perform_431 : decode prog_6_method_7_code 431 = .ok (.aload_n 1, 1) := by decide +kernel
theorem d_Teller_perform_432 : decode prog_6_method_7_code 432 = .ok (.invokevirtual 155, 3) := by decide +kernel
theorem d_Teller_perform_435 : decode prog_6_method_7_code 435 = .ok (.ireturn, 1) := by decide +kernel
theorem d_Teller_perform_436 : decode prog_6_method_7_code 436 = .ok (.aload_n 0, 1) := by decide +kernel
theorem d_Teller_perform_437 : decode prog_6_method_7_code 437 = .ok (.aload_n 1, 1) := by decide +kernel
theorem d_Teller_perform_438 : decode prog_6_method_7_code 438 = .ok (.iconst 1, 1) := by decide +kernel
theorem d_Teller_perform_439 : decode prog_6_method_7_code 439 = .ok (.invokevirtual 146, 3) := by decide +kernel
theorem d_Teller_perform_442 : decode prog_6_method_7_code 442 = .ok (.ifCond .eq 29, 3) := by decide +kernel
theorem d_Teller_perform_445 : decode prog_6_method_7_code 445 = .ok (.aload_n 0, 1) := by decide +kernel
theorem d_Teller_perform_446 : decode prog_6_method_7_code 446 = .ok (.aload_n 1, 1) := by decide +kernel
theorem d_Teller_perform_447 : decode prog_6_method_7_code 447 = .ok (.iconst 1, 1) := by decide +kernel
theorem d_Teller_perform_448 : decode prog_6_method_7_code 448 = .ok (.aload_n 0, 1) := by decide +kernel
theorem d_Teller_perform_449 : decode prog_6_method_7_code 449 = .ok (.aload_n 0, 1) := by decide +kernel
theorem d_Teller_perform_450 : decode prog_6_method_7_code 450 = .ok (.getfield 22, 3) := by decide +kernel
theorem d_Teller_perform_453 : decode prog_6_method_7_code 453 = .ok (.getfield 52, 3) := by decide +kernel
theorem d_Teller_perform_456 : decode prog_6_method_7_code 456 = .ok (.iconst 1, 1) := by decide +kernel
theorem d_Teller_perform_457 : decode prog_6_method_7_code 457 = .ok (.isub, 1) := by decide +kernel
theorem d_Teller_perform_458 : decode prog_6_method_7_code 458 = .ok (.invokevirtual 158, 3) := by decide +kernel
theorem d_Teller_perform_461 : decode prog_6_method_7_code 461 = .ok (.invokevirtual 161, 3) := by decide +kernel
theorem d_Teller_perform_464 : decode prog_6_method_7_code 464 = .ok (.ifCond .eq 7, 3) := by decide +kernel
theorem d_Teller_perform_467 : decode prog_6_method_7_code 467 = .ok (.iconst 1, 1) := by decide +kernel
theorem d_Teller_perform_468 : decode prog_6_method_7_code 468 = .ok (.goto 4, 3) := by decide +kernel
theorem d_Teller_perform_471 : decode prog_6_method_7_code 471 = .ok (.iconst 0, 1) := by decide +kernel
theorem d_Teller_perform_472 : decode prog_6_method_7_code 472 = .ok (.ireturn, 1) := by decide +kernel
theorem d_Teller_perform_473 : decode prog_6_method_7_code 473 = .ok (.aload_n 0, 1) := by decide +kernel
theorem d_Teller_perform_474 : decode prog_6_method_7_code 474 = .ok (.aload_n 1, 1) := by decide +kernel
theorem d_Teller_perform_475 : decode prog_6_method_7_code 475 = .ok (.iload_n 3, 1) := by decide +kernel
theorem d_Teller_perform_476 : decode prog_6_method_7_code 476 = .ok (.i2b, 1) := by decide +kernel
theorem d_Teller_perform_477 : decode prog_6_method_7_code 477 = .ok (.invokevirtual 165, 3) := by decide +kernel
theorem d_Teller_perform_480 : decode prog_6_method_7_code 480 = .ok (.ireturn, 1) := by decide +kernel
theorem d_Teller_perform_481 : decode prog_6_method_7_code 481 = .ok (.aload_n 0, 1) := by decide +kernel
theorem d_Teller_perform_482 : decode prog_6_method_7_code 482 = .ok (.aload_n 1, 1) := by decide +kernel
theorem d_Teller_perform_483 : decode prog_6_method_7_code 483 = .ok (.iload_n 3, 1) := by decide +kernel
theorem d_Teller_perform_484 : decode prog_6_method_7_code 484 = .ok (.i2b, 1) := by decide +kernel
theorem d_Teller_perform_485 : decode prog_6_method_7_code 485 = .ok (.invokevirtual 168, 3) := by decide +kernel
theorem d_Teller_perform_488 : decode prog_6_method_7_code 488 = .ok (.ireturn, 1) := by decide +kernel
theorem d_Teller_perform_489 : decode prog_6_method_7_code 489 = .ok (.aload_n 0, 1) := by decide +kernel
theorem d_Teller_perform_490 : decode prog_6_method_7_code 490 = .ok (.aload_n 1, 1) := by decide +kernel
theorem d_Teller_perform_491 : decode prog_6_method_7_code 491 = .ok (.iload_n 3, 1) := by decide +kernel
theorem d_Teller_perform_492 : decode prog_6_method_7_code 492 = .ok (.aload_n 0, 1) := by decide +kernel
theorem d_Teller_perform_493 : decode prog_6_method_7_code 493 = .ok (.getfield 36, 3) := by decide +kernel
theorem d_Teller_perform_496 : decode prog_6_method_7_code 496 = .ok (.aload_n 1, 1) := by decide +kernel
theorem d_Teller_perform_497 : decode prog_6_method_7_code 497 = .ok (.getfield 97, 3) := by decide +kernel
theorem d_Teller_perform_500 : decode prog_6_method_7_code 500 = .ok (.iconst 2, 1) := by decide +kernel
theorem d_Teller_perform_501 : decode prog_6_method_7_code 501 = .ok (.iadd, 1) := by decide +kernel
theorem d_Teller_perform_502 : decode prog_6_method_7_code 502 = .ok (.invokevirtual 112, 3) := by decide +kernel
theorem d_Teller_perform_505 : decode prog_6_method_7_code 505 = .ok (.invokevirtual 171, 3) := by decide +kernel
theorem d_Teller_perform_508 : decode prog_6_method_7_code 508 = .ok (.ireturn, 1) := by decide +kernel
theorem d_Teller_perform_509 : decode prog_6_method_7_code 509 = .ok (.aload_n 0, 1) := by decide +kernel
theorem d_Teller_perform_510 : decode prog_6_method_7_code 510 = .ok (.aload_n 1, 1) := by decide +kernel
theorem d_Teller_perform_511 : decode prog_6_method_7_code 511 = .ok (.iload_n 3, 1) := by decide +kernel
theorem d_Teller_perform_512 : decode prog_6_method_7_code 512 = .ok (.invokevirtual 174, 3) := by decide +kernel
theorem d_Teller_perform_515 : decode prog_6_method_7_code 515 = .ok (.ireturn, 1) := by decide +kernel
theorem d_Teller_perform_516 : decode prog_6_method_7_code 516 = .ok (.aload_n 0, 1) := by decide +kernel
theorem d_Teller_perform_517 : decode prog_6_method_7_code 517 = .ok (.aload_n 1, 1) := by decide +kernel
theorem d_Teller_perform_518 : decode prog_6_method_7_code 518 = .ok (.iload_n 3, 1) := by decide +kernel
theorem d_Teller_perform_519 : decode prog_6_method_7_code 519 = .ok (.aload_n 0, 1) := by decide +kernel
theorem d_Teller_perform_520 : decode prog_6_method_7_code 520 = .ok (.getfield 36, 3) := by decide +kernel
theorem d_Teller_perform_523 : decode prog_6_method_7_code 523 = .ok (.aload_n 1, 1) := by decide +kernel
theorem d_Teller_perform_524 : decode prog_6_method_7_code 524 = .ok (.getfield 97, 3) := by decide +kernel
theorem d_Teller_perform_527 : decode prog_6_method_7_code 527 = .ok (.iconst 2, 1) := by decide +kernel
theorem d_Teller_perform_528 : decode prog_6_method_7_code 528 = .ok (.iadd, 1) := by decide +kernel
theorem d_Teller_perform_529 : decode prog_6_method_7_code 529 = .ok (.invokevirtual 112, 3) := by decide +kernel
theorem d_Teller_perform_532 : decode prog_6_method_7_code 532 = .ok (.invokevirtual 177, 3) := by decide +kernel
theorem d_Teller_perform_535 : decode prog_6_method_7_code 535 = .ok (.ireturn, 1) := by decide +kernel
theorem d_Teller_perform_536 : decode prog_6_method_7_code 536 = .ok (.aload_n 0, 1) := by decide +kernel
theorem d_Teller_perform_537 : decode prog_6_method_7_code 537 = .ok (.aload_n 1, 1) := by decide +kernel
theorem d_Teller_perform_538 : decode prog_6_method_7_code 538 = .ok (.iload_n 3, 1) := by decide +kernel
theorem d_Teller_perform_539 : decode prog_6_method_7_code 539 = .ok (.invokevirtual 146, 3) := by decide +kernel
theorem d_Teller_perform_542 : decode prog_6_method_7_code 542 = .ok (.ifCond .eq 31, 3) := by decide +kernel
theorem d_Teller_perform_545 : decode prog_6_method_7_code 545 = .ok (.aload_n 0, 1) := by decide +kernel
theorem d_Teller_perform_546 : decode prog_6_method_7_code 546 = .ok (.aload_n 0, 1) := by decide +kernel
theorem d_Teller_perform_547 : decode prog_6_method_7_code 547 = .ok (.getfield 36, 3) := by decide +kernel
theorem d_Teller_perform_550 : decode prog_6_method_7_code 550 = .ok (.aload_n 1, 1) := by decide +kernel
theorem d_Teller_perform_551 : decode prog_6_method_7_code 551 = .ok (.getfield 97, 3) := by decide +kernel
theorem d_Teller_perform_554 : decode prog_6_method_7_code 554 = .ok (.iconst 2, 1) := by decide +kernel
theorem d_Teller_perform_555 : decode prog_6_method_7_code 555 = .ok (.iadd, 1) := by decide +kernel
theorem d_Teller_perform_556 : decode prog_6_method_7_code 556 = .ok (.invokevirtual 130, 3) := by decide +kernel
theorem d_Teller_perform_559 : decode prog_6_method_7_code 559 = .ok (.iload_n 3, 1) := by decide +kernel
theorem d_Teller_perform_560 : decode prog_6_method_7_code 560 = .ok (.iconst 0, 1) := by decide +kernel
theorem d_Teller_perform_561 : decode prog_6_method_7_code 561 = .ok (.iconst (-1), 1) := by decide +kernel
theorem d_Teller_perform_562 : decode prog_6_method_7_code 562 = .ok (.iconst (-1), 1) := by decide +kernel
theorem d_Teller_perform_563 : decode prog_6_method_7_code 563 = .ok (.invokevirtual 55, 3) := by decide +kernel
theorem d_Teller_perform_566 : decode prog_6_method_7_code 566 = .ok (.ifCond .eq 7, 3) := by decide +kernel
theorem d_Teller_perform_569 : decode prog_6_method_7_code 569 = .ok (.iconst 1, 1) := by decide +kernel
theorem d_Teller_perform_570 : decode prog_6_method_7_code 570 = .ok (.goto 4, 3) := by decide +kernel
theorem d_Teller_perform_573 : decode prog_6_method_7_code 573 = .ok (.iconst 0, 1) := by decide +kernel
theorem d_Teller_perform_574 : decode prog_6_method_7_code 574 = .ok (.ireturn, 1) := by decide +kernel
theorem d_Teller_perform_575 : decode prog_6_method_7_code 575 = .ok (.aload_n 0, 1) := by decide +kernel
theorem d_Teller_perform_576 : decode prog_6_method_7_code 576 = .ok (.aload_n 1, 1) := by decide +kernel
theorem d_Teller_perform_577 : decode prog_6_method_7_code 577 = .ok (.iconst 1, 1) := by decide +kernel
theorem d_Teller_perform_578 : decode prog_6_method_7_code 578 = .ok (.invokevirtual 146, 3) := by decide +kernel
theorem d_Teller_perform_581 : decode prog_6_method_7_code 581 = .ok (.ifCond .eq 23, 3) := by decide +kernel
theorem d_Teller_perform_584 : decode prog_6_method_7_code 584 = .ok (.aload_n 0, 1) := by decide +kernel
theorem d_Teller_perform_585 : decode prog_6_method_7_code 585 = .ok (.aload_n 1, 1) := by decide +kernel
theorem d_Teller_perform_586 : decode prog_6_method_7_code 586 = .ok (.aload_n 0, 1) := by decide +kernel
theorem d_Teller_perform_587 : decode prog_6_method_7_code 587 = .ok (.invokevirtual 180, 3) := by decide +kernel
theorem d_Teller_perform_590 : decode prog_6_method_7_code 590 = .ok (.aload_n 0, 1) := by decide +kernel
theorem d_Teller_perform_591 : decode prog_6_method_7_code 591 = .ok (.invokevirtual 184, 3) := by decide +kernel
theorem d_Teller_perform_594 : decode prog_6_method_7_code 594 = .ok (.invokevirtual 187, 3) := by decide +kernel
theorem d_Teller_perform_597 : decode prog_6_method_7_code 597 = .ok (.ifCond .eq 7, 3) := by decide +kernel
theorem d_Teller_perform_600 : decode prog_6_method_7_code 600 = .ok (.iconst 1, 1) := by decide +kernel
theorem d_Teller_perform_601 : decode prog_6_method_7_code 601 = .ok (.goto 4, 3) := by decide +kernel
theorem d_Teller_perform_604 : decode prog_6_method_7_code 604 = .ok (.iconst 0, 1) := by decide +kernel
theorem d_Teller_perform_605 : decode prog_6_method_7_code 605 = .ok (.ireturn, 1) := by decide +kernel
theorem d_Teller_perform_606 : decode prog_6_method_7_code 606 = .ok (.aload_n 0, 1) := by decide +kernel
theorem d_Teller_perform_607 : decode prog_6_method_7_code 607 = .ok (.aload_n 1, 1) := by decide +kernel
theorem d_Teller_perform_608 : decode prog_6_method_7_code 608 = .ok (.iconst 0, 1) := by decide +kernel
theorem d_Teller_perform_609 : decode prog_6_method_7_code 609 = .ok (.iconst 0, 1) := by decide +kernel
theorem d_Teller_perform_610 : decode prog_6_method_7_code 610 = .ok (.invokevirtual 187, 3) := by decide +kernel
theorem d_Teller_perform_613 : decode prog_6_method_7_code 613 = .ok (.ireturn, 1) := by decide +kernel
theorem d_Teller_perform_614 : decode prog_6_method_7_code 614 = .ok (.aload_n 0, 1) := by decide +kernel
theorem d_Teller_perform_615 : decode prog_6_method_7_code 615 = .ok (.aload_n 1, 1) := by decide +kernel
theorem d_Teller_perform_616 : decode prog_6_method_7_code 616 = .ok (.invokevirtual 190, 3) := by decide +kernel
theorem d_Teller_perform_619 : decode prog_6_method_7_code 619 = .ok (.ifCond .eq 18, 3) := by decide +kernel
theorem d_Teller_perform_622 : decode prog_6_method_7_code 622 = .ok (.aload_n 0, 1) := by decide +kernel
theorem d_Teller_perform_623 : decode prog_6_method_7_code 623 = .ok (.aload_n 0, 1) := by decide +kernel
theorem d_Teller_perform_624 : decode prog_6_method_7_code 624 = .ok (.invokevirtual 184, 3) := by decide +kernel
theorem d_Teller_perform_627 : decode prog_6_method_7_code 627 = .ok (.invokevirtual 193, 3) := by decide +kernel
theorem d_Teller_perform_630 : decode prog_6_method_7_code 630 = .ok (.ifCond .eq 7, 3) := by decide +kernel
theorem d_Teller_perform_633 : decode prog_6_method_7_code 633 = .ok (.iconst 1, 1) := by decide +kernel
theorem d_Teller_perform_634 : decode prog_6_method_7_code 634 = .ok (.goto 4, 3) := by decide +kernel
theorem d_Teller_perform_637 : decode prog_6_method_7_code 637 = .ok (.iconst 0, 1) := by decide +kernel
theorem d_Teller_perform_638 : decode prog_6_method_7_code 638 = .ok (.ireturn, 1) := by decide +kernel
theorem d_Teller_perform_639 : decode prog_6_method_7_code 639 = .ok (.aload_n 0, 1) := by decide +kernel
theorem d_Teller_perform_640 : decode prog_6_method_7_code 640 = .ok (.aload_n 1, 1) := by decide +kernel
theorem d_Teller_perform_641 : decode prog_6_method_7_code 641 = .ok (.iload_n 3, 1) := by decide +kernel
theorem d_Teller_perform_642 : decode prog_6_method_7_code 642 = .ok (.invokevirtual 196, 3) := by decide +kernel
theorem d_Teller_perform_645 : decode prog_6_method_7_code 645 = .ok (.ireturn, 1) := by decide +kernel
theorem d_Teller_perform_646 : decode prog_6_method_7_code 646 = .ok (.aload_n 0, 1) := by decide +kernel
theorem d_Teller_perform_647 : decode prog_6_method_7_code 647 = .ok (.aload_n 1, 1) := by decide +kernel
theorem d_Teller_perform_648 : decode prog_6_method_7_code 648 = .ok (.iload_n 3, 1) := by decide +kernel
theorem d_Teller_perform_649 : decode prog_6_method_7_code 649 = .ok (.invokevirtual 199, 3) := by decide +kernel
theorem d_Teller_perform_652 : decode prog_6_method_7_code 652 = .ok (.ireturn, 1) := by decide +kernel
theorem d_Teller_perform_653 : decode prog_6_method_7_code 653 = .ok (.aload_n 0, 1) := by decide +kernel
theorem d_Teller_perform_654 : decode prog_6_method_7_code 654 = .ok (.aload_n 1, 1) := by decide +kernel
theorem d_Teller_perform_655 : decode prog_6_method_7_code 655 = .ok (.iconst 1, 1) := by decide +kernel
theorem d_Teller_perform_656 : decode prog_6_method_7_code 656 = .ok (.invokevirtual 146, 3) := by decide +kernel
theorem d_Teller_perform_659 : decode prog_6_method_7_code 659 = .ok (.ifCond .eq 34, 3) := by decide +kernel
theorem d_Teller_perform_662 : decode prog_6_method_7_code 662 = .ok (.aload_n 0, 1) := by decide +kernel
theorem d_Teller_perform_663 : decode prog_6_method_7_code 663 = .ok (.getfield 26, 3) := by decide +kernel
theorem d_Teller_perform_666 : decode prog_6_method_7_code 666 = .ok (.aload_n 0, 1) := by decide +kernel
theorem d_Teller_perform_667 : decode prog_6_method_7_code 667 = .ok (.invokevirtual 180, 3) := by decide +kernel
theorem d_Teller_perform_670 : decode prog_6_method_7_code 670 = .ok (.aload_n 0, 1) := by decide +kernel
theorem d_Teller_perform_671 : decode prog_6_method_7_code 671 = .ok (.invokevirtual 184, 3) := by decide +kernel
theorem d_Teller_perform_674 : decode prog_6_method_7_code 674 = .ok (.invokevirtual 64, 3) := by decide +kernel
theorem d_Teller_perform_677 : decode prog_6_method_7_code 677 = .ok (.ifCond .eq 16, 3) := by decide +kernel
theorem d_Teller_perform_680 : decode prog_6_method_7_code 680 = .ok (.aload_n 0, 1) := by decide +kernel
theorem d_Teller_perform_681 : decode prog_6_method_7_code 681 = .ok (.aload_n 1, 1) := by decide +kernel
theorem d_Teller_perform_682 : decode prog_6_method_7_code 682 = .ok (.iconst 1, 1) := by decide +kernel
theorem d_Teller_perform_683 : decode prog_6_method_7_code 683 = .ok (.invokevirtual 149, 3) := by decide +kernel
theorem d_Teller_perform_686 : decode prog_6_method_7_code 686 = .ok (.ifCond .eq 7, 3) := by decide +kernel
theorem d_Teller_perform_689 : decode prog_6_method_7_code 689 = .ok (.iconst 1, 1) := by decide +kernel
theorem d_Teller_perform_690 : decode prog_6_method_7_code 690 = .ok (.goto 4, 3) := by decide +kernel
theorem d_Teller_perform_693 : decode prog_6_method_7_code 693 = .ok (.iconst 0, 1) := by decide +kernel
theorem d_Teller_perform_694 : decode prog_6_method_7_code 694 = .ok (.ireturn, 1) := by decide +kernel
theorem d_Teller_perform_695 : decode prog_6_method_7_code 695 = .ok (.aload_n 0, 1) := by decide +kernel
theorem d_Teller_perform_696 : decode prog_6_method_7_code 696 = .ok (.aload_n 1, 1) := by decide +kernel
theorem d_Teller_perform_697 : decode prog_6_method_7_code 697 = .ok (.invokevirtual 202, 3) := by decide +kernel
theorem d_Teller_perform_700 : decode prog_6_method_7_code 700 = .ok (.ireturn, 1) := by decide +kernel
theorem d_Teller_perform_701 : decode prog_6_method_7_code 701 = .ok (.aload_n 0, 1) := by decide +kernel
theorem d_Teller_perform_702 : decode prog_6_method_7_code 702 = .ok (.getfield 22, 3) := by decide +kernel
theorem d_Teller_perform_705 : decode prog_6_method_7_code 705 = .ok (.invokevirtual 205, 3) := by decide +kernel
theorem d_Teller_perform_708 : decode prog_6_method_7_code 708 = .ok (.ifCond .ne 30, 3) := by decide +kernel
theorem d_Teller_perform_711 : decode prog_6_method_7_code 711 = .ok (.aload_n 0, 1) := by decide +kernel
theorem d_Teller_perform_712 : decode prog_6_method_7_code 712 = .ok (.aload_n 1, 1) := by decide +kernel
theorem d_Teller_perform_713 : decode prog_6_method_7_code 713 = .ok (.iconst 0, 1) := by decide +kernel
theorem d_Teller_perform_714 : decode prog_6_method_7_code 714 = .ok (.aload_n 0, 1) := by decide +kernel
theorem d_Teller_perform_715 : decode prog_6_method_7_code 715 = .ok (.getfield 44, 3) := by decide +kernel
theorem d_Teller_perform_718 : decode prog_6_method_7_code 718 = .ok (.aload_n 0, 1) := by decide +kernel
theorem d_Teller_perform_719 : decode prog_6_method_7_code 719 = .ok (.getfield 40, 3) := by decide +kernel
theorem d_Teller_perform_722 : decode prog_6_method_7_code 722 = .ok (.getfield 209, 3) := by decide +kernel
theorem d_Teller_perform_725 : decode prog_6_method_7_code 725 = .ok (.invokevirtual 213, 3) := by decide +kernel
theorem d_Teller_perform_728 : decode prog_6_method_7_code 728 = .ok (.invokevirtual 161, 3) := by decide +kernel
theorem d_Teller_perform_731 : decode prog_6_method_7_code 731 = .ok (.ifCond .eq 7, 3) := by decide +kernel
theorem d_Teller_perform_734 : decode prog_6_method_7_code 734 = .ok (.iconst 1, 1) := by decide +kernel
theorem d_Teller_perform_735 : decode prog_6_method_7_code 735 = .ok (.goto 4, 3) := by decide +kernel
theorem d_Teller_perform_738 : decode prog_6_method_7_code 738 = .ok (.iconst 0, 1) := by decide +kernel
theorem d_Teller_perform_739 : decode prog_6_method_7_code 739 = .ok (.ireturn, 1) := by decide +kernel
theorem d_Teller_perform_740 : decode prog_6_method_7_code 740 = .ok (.aload_n 0, 1) := by decide +kernel
theorem d_Teller_perform_741 : decode prog_6_method_7_code 741 = .ok (.aload_n 1, 1) := by decide +kernel
theorem d_Teller_perform_742 : decode prog_6_method_7_code 742 = .ok (.iload_n 3, 1) := by decide +kernel
theorem d_Teller_perform_743 : decode prog_6_method_7_code 743 = .ok (.invokevirtual 217, 3) := by decide +kernel
theorem d_Teller_perform_746 : decode prog_6_method_7_code 746 = .ok (.ireturn, 1) := by decide +kernel
theorem d_Teller_perform_747 : decode prog_6_method_7_code 747 = .ok (.aload_n 0, 1) := by decide +kernel
theorem d_Teller_perform_748 : decode prog_6_method_7_code 748 = .ok (.aload_n 1, 1) := by decide +kernel
theorem d_Teller_perform_749 : decode prog_6_method_7_code 749 = .ok (.iload_n 3, 1) := by decide +kernel
theorem d_Teller_perform_750 : decode prog_6_method_7_code 750 = .ok (.invokevirtual 220, 3) := by decide +kernel
theorem d_Teller_perform_753 : decode prog_6_method_7_code 753 = .ok (.ireturn, 1) := by decide +kernel
theorem d_Teller_perform_754 : decode prog_6_method_7_code 754 = .ok (.iconst 0, 1) := by decide +kernel
theorem d_Teller_perform_755 : decode prog_6_method_7_code 755 = .ok (.ireturn, 1) := by decide +kernel
theorem d_Teller_put_0 : decode prog_6_method_9_code 0 = .ok (.aload_n 0, 1) := by decide +kernel
theorem d_Teller_put_1 : decode prog_6_method_9_code 1 = .ok (.getfield 22, 3) := by decide +kernel
theorem d_Teller_put_4 : decode prog_6_method_9_code 4 = .ok (.iload_n 2, 1) := by decide +kernel
theorem d_Teller_put_5 : decode prog_6_method_9_code 5 = .ok (.iload_n 3, 1) := by decide +kernel
theorem d_Teller_put_6 : decode prog_6_method_9_code 6 = .ok (.invokevirtual 64, 3) := by decide +kernel
theorem d_Teller_put_9 : decode prog_6_method_9_code 9 = .ok (.ifCond .eq 15, 3) := by decide +kernel
theorem d_Teller_put_12 : decode prog_6_method_9_code 12 = .ok (.aload_n 0, 1) := by decide +kernel
theorem d_Teller_put_13 : decode prog_6_method_9_code 13 = .ok (.aload_n 1, 1) := by decide +kernel
theorem d_Teller_put_14 : decode prog_6_method_9_code 14 = .ok (.invokevirtual 115, 3) := by decide +kernel
theorem d_Teller_put_17 : decode prog_6_method_9_code 17 = .ok (.ifCond .eq 7, 3) := by decide +kernel
theorem d_Teller_put_20 : decode prog_6_method_9_code 20 = .ok (.iconst 1, 1) := by decide +kernel
theorem d_Teller_put_21 : decode prog_6_method_9_code 21 = .ok (.goto 4, 3) := by decide +kernel
theorem d_Teller_put_24 : decode prog_6_method_9_code 24 = .ok (.iconst 0, 1) := by decide +kernel
theorem d_Teller_put_25 : decode prog_6_method_9_code 25 = .ok (.ireturn, 1) := by decide +kernel
theorem d_Teller_putCopy_0 : decode prog_6_method_10_code 0 = .ok (.aload_n 0, 1) := by decide +kernel
theorem d_Teller_putCopy_1 : decode prog_6_method_10_code 1 = .ok (.aload_n 1, 1) := by decide +kernel
theorem d_Teller_putCopy_2 : decode prog_6_method_10_code 2 = .ok (.aload_n 0, 1) := by decide +kernel
theorem d_Teller_putCopy_3 : decode prog_6_method_10_code 3 = .ok (.getfield 22, 3) := by decide +kernel
theorem d_Teller_putCopy_6 : decode prog_6_method_10_code 6 = .ok (.getfield 71, 3) := by decide +kernel
theorem d_Teller_putCopy_9 : decode prog_6_method_10_code 9 = .ok (.iload_n 2, 1) := by decide +kernel
theorem d_Teller_putCopy_10 : decode prog_6_method_10_code 10 = .ok (.iaload, 1) := by decide +kernel
theorem d_Teller_putCopy_11 : decode prog_6_method_10_code 11 = .ok (.aload_n 0, 1) := by decide +kernel
theorem d_Teller_putCopy_12 : decode prog_6_method_10_code 12 = .ok (.getfield 22, 3) := by decide +kernel
theorem d_Teller_putCopy_15 : decode prog_6_method_10_code 15 = .ok (.getfield 75, 3) := by decide +kernel
theorem d_Teller_putCopy_18 : decode prog_6_method_10_code 18 = .ok (.iload_n 2, 1) := by decide +kernel
theorem d_Teller_putCopy_19 : decode prog_6_method_10_code 19 = .ok (.iaload, 1) := by decide +kernel
theorem d_Teller_putCopy_20 : decode prog_6_method_10_code 20 = .ok (.invokevirtual 119, 3) := by decide +kernel
theorem d_Teller_putCopy_23 : decode prog_6_method_10_code 23 = .ok (.ireturn, 1) := by decide +kernel
theorem d_Teller_putTruthFor_0 : decode prog_6_method_11_code 0 = .ok (.aload_n 0, 1) := by decide +kernel
theorem d_Teller_putTruthFor_1 : decode prog_6_method_11_code 1 = .ok (.getfield 22, 3) := by decide +kernel
theorem d_Teller_putTruthFor_4 : decode prog_6_method_11_code 4 = .ok (.dup, 1) := by decide +kernel
theorem d_Teller_putTruthFor_5 : decode prog_6_method_11_code 5 = .ok (.getfield 52, 3) := by decide +kernel
theorem d_Teller_putTruthFor_8 : decode prog_6_method_11_code 8 = .ok (.iload_n 2, 1) := by decide +kernel
theorem d_Teller_putTruthFor_9 : decode prog_6_method_11_code 9 = .ok (.isub, 1) := by decide +kernel
theorem d_Teller_putTruthFor_10 : decode prog_6_method_11_code 10 = .ok (.putfield 52, 3) := by decide +kernel
theorem d_Teller_putTruthFor_13 : decode prog_6_method_11_code 13 = .ok (.iload_n 3, 1) := by decide +kernel
theorem d_Teller_putTruthFor_14 : decode prog_6_method_11_code 14 = .ok (.ifCond .eq 13, 3) := by decide +kernel
theorem d_Teller_putTruthFor_17 : decode prog_6_method_11_code 17 = .ok (.aload_n 0, 1) := by decide +kernel
theorem d_Teller_putTruthFor_18 : decode prog_6_method_11_code 18 = .ok (.aload_n 1, 1) := by decide +kernel
theorem d_Teller_putTruthFor_19 : decode prog_6_method_11_code 19 = .ok (.iconst 1, 1) := by decide +kernel
theorem d_Teller_putTruthFor_20 : decode prog_6_method_11_code 20 = .ok (.iconst 1, 1) := by decide +kernel
theorem d_Teller_putTruthFor_21 : decode prog_6_method_11_code 21 = .ok (.invokevirtual 119, 3) := by decide +kernel
theorem d_Teller_putTruthFor_24 : decode prog_6_method_11_code 24 = .ok (.goto 10, 3) := by decide +kernel
theorem d_Teller_putTruthFor_27 : decode prog_6_method_11_code 27 = .ok (.aload_n 0, 1) := by decide +kernel
theorem d_Teller_putTruthFor_28 : decode prog_6_method_11_code 28 = .ok (.aload_n 1, 1) := by decide +kernel
theorem d_Teller_putTruthFor_29 : decode prog_6_method_11_code 29 = .ok (.iconst 0, 1) := by decide +kernel
theorem d_Teller_putTruthFor_30 : decode prog_6_method_11_code 30 = .ok (.iconst 0, 1) := by decide +kernel
theorem d_Teller_putTruthFor_31 : decode prog_6_method_11_code 31 = .ok (.invokevirtual 119, 3) := by decide +kernel
theorem d_Teller_putTruthFor_34 : decode prog_6_method_11_code 34 = .ok (.ireturn, 1) := by decide +kernel
theorem d_Teller_raise_0 : decode prog_6_method_31_code 0 = .ok (.aload_n 0, 1) := by decide +kernel
theorem d_Teller_raise_1 : decode prog_6_method_31_code 1 = .ok (.getfield 40, 3) := by decide +kernel
theorem d_Teller_raise_4 : decode prog_6_method_31_code 4 = .ok (.iload_n 1, 1) := by decide +kernel
theorem d_Teller_raise_5 : decode prog_6_method_31_code 5 = .ok (.invokevirtual 269, 3) := by decide +kernel
theorem d_Teller_raise_8 : decode prog_6_method_31_code 8 = .ok (.aload_n 0, 1) := by decide +kernel
theorem d_Teller_raise_9 : decode prog_6_method_31_code 9 = .ok (.getfield 49, 3) := by decide +kernel
theorem d_Teller_raise_12 : decode prog_6_method_31_code 12 = .ok (.iconst 1, 1) := by decide +kernel
theorem d_Teller_raise_13 : decode prog_6_method_31_code 13 = .ok (.isub, 1) := by decide +kernel
theorem d_Teller_raise_14 : decode prog_6_method_31_code 14 = .ok (.istore_n 2, 1) := by decide +kernel
theorem d_Teller_raise_15 : decode prog_6_method_31_code 15 = .ok (.iload_n 2, 1) := by decide +kernel
theorem d_Teller_raise_16 : decode prog_6_method_31_code 16 = .ok (.ifCond .lt 65, 3) := by decide +kernel
theorem d_Teller_raise_19 : decode prog_6_method_31_code 19 = .ok (.aload_n 0, 1) := by decide +kernel
theorem d_Teller_raise_20 : decode prog_6_method_31_code 20 = .ok (.getfield 11, 3) := by decide +kernel
theorem d_Teller_raise_23 : decode prog_6_method_31_code 23 = .ok (.iload_n 2, 1) := by decide +kernel
theorem d_Teller_raise_24 : decode prog_6_method_31_code 24 = .ok (.aaload, 1) := by decide +kernel
theorem d_Teller_raise_25 : decode prog_6_method_31_code 25 = .ok (.astore_n 3, 1) := by decide +kernel
theorem d_Teller_raise_26 : decode prog_6_method_31_code 26 = .ok (.aload_n 0, 1) := by decide +kernel
theorem d_Teller_raise_27 : decode prog_6_method_31_code 27 = .ok (.aload_n 3, 1) := by decide +kernel
theorem d_Teller_raise_28 : decode prog_6_method_31_code 28 = .ok (.invokevirtual 272, 3) := by decide +kernel
theorem d_Teller_raise_31 : decode prog_6_method_31_code 31 = .ok (.istore 4, 2) := by decide +kernel
theorem d_Teller_raise_33 : decode prog_6_method_31_code 33 = .ok (.iload 4, 2) := by decide +kernel
theorem d_Teller_raise_35 : decode prog_6_method_31_code 35 = .ok (.iconst (-1), 1) := by decide +kernel
theorem d_Teller_raise_36 : decode prog_6_method_31_code 36 = .ok (.if_icmp .eq 39, 3) := by decide +kernel
theorem d_Teller_raise_39 : decode prog_6_method_31_code 39 = .ok (.aload_n 0, 1) := by decide +kernel
theorem d_Teller_raise_40 : decode prog_6_method_31_code 40 = .ok (.iload_n 2, 1) := by decide +kernel
theorem d_Teller_raise_41 : decode prog_6_method_31_code 41 = .ok (.iconst 1, 1) := by decide +kernel
theorem d_Teller_raise_42 : decode prog_6_method_31_code 42 = .ok (.iadd, 1) := by decide +kernel
theorem d_Teller_raise_43 : decode prog_6_method_31_code 43 = .ok (.putfield 49, 3) := by decide +kernel
theorem d_Teller_raise_46 : decode prog_6_method_31_code 46 = .ok (.aload_n 0, 1) := by decide +kernel
theorem d_Teller_raise_47 : decode prog_6_method_31_code 47 = .ok (.getfield 22, 3) := by decide +kernel
theorem d_Teller_raise_50 : decode prog_6_method_31_code 50 = .ok (.aload_n 3, 1) := by decide +kernel
theorem d_Teller_raise_51 : decode prog_6_method_31_code 51 = .ok (.getfield 223, 3) := by decide +kernel
theorem d_Teller_raise_54 : decode prog_6_method_31_code 54 = .ok (.putfield 52, 3) := by decide +kernel
theorem d_Teller_raise_57 : decode prog_6_method_31_code 57 = .ok (.aload_n 0, 1) := by decide +kernel
theorem d_Teller_raise_58 : decode prog_6_method_31_code 58 = .ok (.getfield 22, 3) := by decide +kernel
theorem d_Teller_raise_61 : decode prog_6_method_31_code 61 = .ok (.iconst 3, 1) := by decide +kernel
theorem d_Teller_raise_62 : decode prog_6_method_31_code 62 = .ok (.iload_n 1, 1) := by decide +kernel
theorem d_Teller_raise_63 : decode prog_6_method_31_code 63 = .ok (.invokevirtual 64, 3) := by decide +kernel
theorem d_Teller_raise_66 : decode prog_6_method_31_code 66 = .ok (.pop, 1) := by decide +kernel
theorem d_Teller_raise_67 : decode prog_6_method_31_code 67 = .ok (.aload_n 3, 1) := by decide +kernel
theorem d_Teller_raise_68 : decode prog_6_method_31_code 68 = .ok (.iload 4, 2) := by decide +kernel
theorem d_Teller_raise_70 : decode prog_6_method_31_code 70 = .ok (.putfield 97, 3) := by decide +kernel
theorem d_Teller_raise_73 : decode prog_6_method_31_code 73 = .ok (.iconst 1, 1) := by decide +kernel
theorem d_Teller_raise_74 : decode prog_6_method_31_code 74 = .ok (.ireturn, 1) := by decide +kernel
theorem d_Teller_raise_75 : decode prog_6_method_31_code 75 = .ok (.iinc 2 (-1), 3) := by decide +kernel
theorem d_Teller_raise_78 : decode prog_6_method_31_code 78 = .ok (.goto (-63), 3) := by decide +kernel
theorem d_Teller_raise_81 : decode prog_6_method_31_code 81 = .ok (.aload_n 0, 1) := by decide +kernel
theorem d_Teller_raise_82 : decode prog_6_method_31_code 82 = .ok (.iconst 2, 1) := by decide +kernel
theorem d_Teller_raise_83 : decode prog_6_method_31_code 83 = .ok (.iconst 3, 1) := by decide +kernel
theorem d_Teller_raise_84 : decode prog_6_method_31_code 84 = .ok (.iload_n 1, 1) := by decide +kernel
theorem d_Teller_raise_85 : decode prog_6_method_31_code 85 = .ok (.invokevirtual 265, 3) := by decide +kernel
theorem d_Teller_raise_88 : decode prog_6_method_31_code 88 = .ok (.ireturn, 1) := by decide +kernel
theorem d_Teller_reachRoots_0 : decode prog_6_method_6_code 0 = .ok (.iconst 0, 1) := by decide +kernel
theorem d_Teller_reachRoots_1 : decode prog_6_method_6_code 1 = .ok (.istore_n 1, 1) := by decide +kernel
theorem d_Teller_reachRoots_2 : decode prog_6_method_6_code 2 = .ok (.iload_n 1, 1) := by decide +kernel
theorem d_Teller_reachRoots_3 : decode prog_6_method_6_code 3 = .ok (.aload_n 0, 1) := by decide +kernel
theorem d_Teller_reachRoots_4 : decode prog_6_method_6_code 4 = .ok (.getfield 22, 3) := by decide +kernel
theorem d_Teller_reachRoots_7 : decode prog_6_method_6_code 7 = .ok (.getfield 52, 3) := by decide +kernel
theorem d_Teller_reachRoots_10 : decode prog_6_method_6_code 10 = .ok (.if_icmp .ge 34, 3) := by decide +kernel
theorem d_Teller_reachRoots_13 : decode prog_6_method_6_code 13 = .ok (.aload_n 0, 1) := by decide +kernel
theorem d_Teller_reachRoots_14 : decode prog_6_method_6_code 14 = .ok (.getfield 40, 3) := by decide +kernel
theorem d_Teller_reachRoots_17 : decode prog_6_method_6_code 17 = .ok (.aload_n 0, 1) := by decide +kernel
theorem d_Teller_reachRoots_18 : decode prog_6_method_6_code 18 = .ok (.getfield 22, 3) := by decide +kernel
theorem d_Teller_reachRoots_21 : decode prog_6_method_6_code 21 = .ok (.getfield 71, 3) := by decide +kernel
theorem d_Teller_reachRoots_24 : decode prog_6_method_6_code 24 = .ok (.iload_n 1, 1) := by decide +kernel
theorem d_Teller_reachRoots_25 : decode prog_6_method_6_code 25 = .ok (.iaload, 1) := by decide +kernel
theorem d_Teller_reachRoots_26 : decode prog_6_method_6_code 26 = .ok (.aload_n 0, 1) := by decide +kernel
theorem d_Teller_reachRoots_27 : decode prog_6_method_6_code 27 = .ok (.getfield 22, 3) := by decide +kernel
theorem d_Teller_reachRoots_30 : decode prog_6_method_6_code 30 = .ok (.getfield 75, 3) := by decide +kernel
theorem d_Teller_reachRoots_33 : decode prog_6_method_6_code 33 = .ok (.iload_n 1, 1) := by decide +kernel
theorem d_Teller_reachRoots_34 : decode prog_6_method_6_code 34 = .ok (.iaload, 1) := by decide +kernel
theorem d_Teller_reachRoots_35 : decode prog_6_method_6_code 35 = .ok (.invokevirtual 78, 3) := by decide +kernel
theorem d_Teller_reachRoots_38 : decode prog_6_method_6_code 38 = .ok (.iinc 1 1, 3) := by decide +kernel
theorem d_Teller_reachRoots_41 : decode prog_6_method_6_code 41 = .ok (.goto (-39), 3) := by decide +kernel
theorem d_Teller_reachRoots_44 : decode prog_6_method_6_code 44 = .ok (.iconst 0, 1) := by decide +kernel
theorem d_Teller_reachRoots_45 : decode prog_6_method_6_code 45 = .ok (.istore_n 1, 1) := by decide +kernel
theorem d_Teller_reachRoots_46 : decode prog_6_method_6_code 46 = .ok (.iload_n 1, 1) := by decide +kernel
theorem d_Teller_reachRoots_47 : decode prog_6_method_6_code 47 = .ok (.aload_n 0, 1) := by decide +kernel
theorem d_Teller_reachRoots_48 : decode prog_6_method_6_code 48 = .ok (.getfield 49, 3) := by decide +kernel
theorem d_Teller_reachRoots_51 : decode prog_6_method_6_code 51 = .ok (.if_icmp .ge 41, 3) := by decide +kernel
theorem d_Teller_reachRoots_54 : decode prog_6_method_6_code 54 = .ok (.aload_n 0, 1) := by decide +kernel
theorem d_Teller_reachRoots_55 : decode prog_6_method_6_code 55 = .ok (.getfield 40, 3) := by decide +kernel
theorem d_Teller_reachRoots_58 : decode prog_6_method_6_code 58 = .ok (.aload_n 0, 1) := by decide +kernel
theorem d_Teller_reachRoots_59 : decode prog_6_method_6_code 59 = .ok (.getfield 11, 3) := by decide +kernel
theorem d_Teller_reachRoots_62 : decode prog_6_method_6_code 62 = .ok (.iload_n 1, 1) := by decide +kernel
theorem d_Teller_reachRoots_63 : decode prog_6_method_6_code 63 = .ok (.aaload, 1) := by decide +kernel
theorem d_Teller_reachRoots_64 : decode prog_6_method_6_code 64 = .ok (.getfield 84, 3) := by decide +kernel
theorem d_Teller_reachRoots_67 : decode prog_6_method_6_code 67 = .ok (.invokevirtual 87, 3) := by decide +kernel
theorem d_Teller_reachRoots_70 : decode prog_6_method_6_code 70 = .ok (.aload_n 0, 1) := by decide +kernel
theorem d_Teller_reachRoots_71 : decode prog_6_method_6_code 71 = .ok (.getfield 40, 3) := by decide +kernel
theorem d_Teller_reachRoots_74 : decode prog_6_method_6_code 74 = .ok (.aload_n 0, 1) := by decide +kernel
theorem d_Teller_reachRoots_75 : decode prog_6_method_6_code 75 = .ok (.getfield 11, 3) := by decide +kernel
theorem d_Teller_reachRoots_78 : decode prog_6_method_6_code 78 = .ok (.iload_n 1, 1) := by decide +kernel
theorem d_Teller_reachRoots_79 : decode prog_6_method_6_code 79 = .ok (.aaload, 1) := by decide +kernel
theorem d_Teller_reachRoots_80 : decode prog_6_method_6_code 80 = .ok (.getfield 90, 3) := by decide +kernel
theorem d_Teller_reachRoots_83 : decode prog_6_method_6_code 83 = .ok (.invokevirtual 87, 3) := by decide +kernel
theorem d_Teller_reachRoots_86 : decode prog_6_method_6_code 86 = .ok (.iinc 1 1, 3) := by decide +kernel
theorem d_Teller_reachRoots_89 : decode prog_6_method_6_code 89 = .ok (.goto (-43), 3) := by decide +kernel
theorem d_Teller_reachRoots_92 : decode prog_6_method_6_code 92 = .ok (.aload_n 0, 1) := by decide +kernel
theorem d_Teller_reachRoots_93 : decode prog_6_method_6_code 93 = .ok (.getfield 29, 3) := by decide +kernel
theorem d_Teller_reachRoots_96 : decode prog_6_method_6_code 96 = .ok (.getfield 52, 3) := by decide +kernel
theorem d_Teller_reachRoots_99 : decode prog_6_method_6_code 99 = .ok (.ifCond .le 28, 3) := by decide +kernel
theorem d_Teller_reachRoots_102 : decode prog_6_method_6_code 102 = .ok (.aload_n 0, 1) := by decide +kernel
theorem d_Teller_reachRoots_103 : decode prog_6_method_6_code 103 = .ok (.getfield 40, 3) := by decide +kernel
theorem d_Teller_reachRoots_106 : decode prog_6_method_6_code 106 = .ok (.aload_n 0, 1) := by decide +kernel
theorem d_Teller_reachRoots_107 : decode prog_6_method_6_code 107 = .ok (.getfield 29, 3) := by decide +kernel
theorem d_Teller_reachRoots_110 : decode prog_6_method_6_code 110 = .ok (.getfield 71, 3) := by decide +kernel
theorem d_Teller_reachRoots_113 : decode prog_6_method_6_code 113 = .ok (.iconst 0, 1) := by decide +kernel
theorem d_Teller_reachRoots_114 : decode prog_6_method_6_code 114 = .ok (.iaload, 1) := by decide +kernel
theorem d_Teller_reachRoots_115 : decode prog_6_method_6_code 115 = .ok (.aload_n 0, 1) := by decide +kernel
theorem d_Teller_reachRoots_116 : decode prog_6_method_6_code 116 = .ok (.getfield 29, 3) := by decide +kernel
theorem d_Teller_reachRoots_119 : decode prog_6_method_6_code 119 = .ok (.getfield 75, 3) := by decide +kernel
theorem d_Teller_reachRoots_122 : decode prog_6_method_6_code 122 = .ok (.iconst 0, 1) := by decide +kernel
theorem d_Teller_reachRoots_123 : decode prog_6_method_6_code 123 = .ok (.iaload, 1) := by decide +kernel
theorem d_Teller_reachRoots_124 : decode prog_6_method_6_code 124 = .ok (.invokevirtual 78, 3) := by decide +kernel
theorem d_Teller_reachRoots_127 : decode prog_6_method_6_code 127 = .ok (.return_, 1) := by decide +kernel
theorem d_Teller_save_0 : decode prog_6_method_36_code 0 = .ok (.iload_n 2, 1) := by decide +kernel
theorem d_Teller_save_1 : decode prog_6_method_36_code 1 = .ok (.ifCond .lt 8, 3) := by decide +kernel
theorem d_Teller_save_4 : decode prog_6_method_36_code 4 = .ok (.iload_n 2, 1) := by decide +kernel
theorem d_Teller_save_5 : decode prog_6_method_36_code 5 = .ok (.iconst 2, 1) := by decide +kernel
theorem d_Teller_save_6 : decode prog_6_method_36_code 6 = .ok (.if_icmp .lt 5, 3) := by decide +kernel
theorem d_Teller_save_9 : decode prog_6_method_36_code 9 = .ok (.iconst 0, 1) := by decide +kernel
theorem d_Teller_save_10 : decode prog_6_method_36_code 10 = .ok (.ireturn, 1) := by decide +kernel
theorem d_Teller_save_11 : decode prog_6_method_36_code 11 = .ok (.aload_n 0, 1) := by decide +kernel
theorem d_Teller_save_12 : decode prog_6_method_36_code 12 = .ok (.getfield 44, 3) := by decide +kernel
theorem d_Teller_save_15 : decode prog_6_method_36_code 15 = .ok (.iload_n 2, 1) := by decide +kernel
theorem d_Teller_save_16 : decode prog_6_method_36_code 16 = .ok (.aload_n 0, 1) := by decide +kernel
theorem d_Teller_save_17 : decode prog_6_method_36_code 17 = .ok (.getfield 40, 3) := by decide +kernel
theorem d_Teller_save_20 : decode prog_6_method_36_code 20 = .ok (.getfield 209, 3) := by decide +kernel
theorem d_Teller_save_23 : decode prog_6_method_36_code 23 = .ok (.invokevirtual 287, 3) := by decide +kernel
theorem d_Teller_save_26 : decode prog_6_method_36_code 26 = .ok (.aload_n 0, 1) := by decide +kernel
theorem d_Teller_save_27 : decode prog_6_method_36_code 27 = .ok (.aload_n 1, 1) := by decide +kernel
theorem d_Teller_save_28 : decode prog_6_method_36_code 28 = .ok (.invokevirtual 115, 3) := by decide +kernel
theorem d_Teller_save_31 : decode prog_6_method_36_code 31 = .ok (.ireturn, 1) := by decide +kernel
theorem d_Teller_setOwn_0 : decode prog_6_method_29_code 0 = .ok (.iload_n 2, 1) := by decide +kernel
