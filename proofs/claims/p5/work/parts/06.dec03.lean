theorem d_Teller_setOwn_1 : decode prog_6_method_29_code 1 = .ok (.invokestatic 229, 3) := by decide +kernel
theorem d_Teller_setOwn_4 : decode prog_6_method_29_code 4 = .ok (.ifCond .eq 20, 3) := by decide +kernel
theorem d_Teller_setOwn_7 : decode prog_6_method_29_code 7 = .ok (.aload_n 0, 1) := by decide +kernel
theorem d_Teller_setOwn_8 : decode prog_6_method_29_code 8 = .ok (.aload_n 1, 1) := by decide +kernel
theorem d_Teller_setOwn_9 : decode prog_6_method_29_code 9 = .ok (.invokevirtual 190, 3) := by decide +kernel
theorem d_Teller_setOwn_12 : decode prog_6_method_29_code 12 = .ok (.ifCond .eq 12, 3) := by decide +kernel
theorem d_Teller_setOwn_15 : decode prog_6_method_29_code 15 = .ok (.aload_n 0, 1) := by decide +kernel
theorem d_Teller_setOwn_16 : decode prog_6_method_29_code 16 = .ok (.aload_n 1, 1) := by decide +kernel
theorem d_Teller_setOwn_17 : decode prog_6_method_29_code 17 = .ok (.iconst 2, 1) := by decide +kernel
theorem d_Teller_setOwn_18 : decode prog_6_method_29_code 18 = .ok (.invokevirtual 146, 3) := by decide +kernel
theorem d_Teller_setOwn_21 : decode prog_6_method_29_code 21 = .ok (.ifCond .ne 5, 3) := by decide +kernel
theorem d_Teller_setOwn_24 : decode prog_6_method_29_code 24 = .ok (.iconst 0, 1) := by decide +kernel
theorem d_Teller_setOwn_25 : decode prog_6_method_29_code 25 = .ok (.ireturn, 1) := by decide +kernel
theorem d_Teller_setOwn_26 : decode prog_6_method_29_code 26 = .ok (.aload_n 0, 1) := by decide +kernel
theorem d_Teller_setOwn_27 : decode prog_6_method_29_code 27 = .ok (.getfield 22, 3) := by decide +kernel
theorem d_Teller_setOwn_30 : decode prog_6_method_29_code 30 = .ok (.getfield 52, 3) := by decide +kernel
theorem d_Teller_setOwn_33 : decode prog_6_method_29_code 33 = .ok (.iconst 2, 1) := by decide +kernel
theorem d_Teller_setOwn_34 : decode prog_6_method_29_code 34 = .ok (.isub, 1) := by decide +kernel
theorem d_Teller_setOwn_35 : decode prog_6_method_29_code 35 = .ok (.istore_n 3, 1) := by decide +kernel
theorem d_Teller_setOwn_36 : decode prog_6_method_29_code 36 = .ok (.aload_n 0, 1) := by decide +kernel
theorem d_Teller_setOwn_37 : decode prog_6_method_29_code 37 = .ok (.getfield 40, 3) := by decide +kernel
theorem d_Teller_setOwn_40 : decode prog_6_method_29_code 40 = .ok (.aload_n 0, 1) := by decide +kernel
theorem d_Teller_setOwn_41 : decode prog_6_method_29_code 41 = .ok (.invokevirtual 184, 3) := by decide +kernel
theorem d_Teller_setOwn_44 : decode prog_6_method_29_code 44 = .ok (.iload_n 2, 1) := by decide +kernel
theorem d_Teller_setOwn_45 : decode prog_6_method_29_code 45 = .ok (.aload_n 0, 1) := by decide +kernel
theorem d_Teller_setOwn_46 : decode prog_6_method_29_code 46 = .ok (.getfield 22, 3) := by decide +kernel
theorem d_Teller_setOwn_49 : decode prog_6_method_29_code 49 = .ok (.getfield 71, 3) := by decide +kernel
theorem d_Teller_setOwn_52 : decode prog_6_method_29_code 52 = .ok (.iload_n 3, 1) := by decide +kernel
theorem d_Teller_setOwn_53 : decode prog_6_method_29_code 53 = .ok (.iaload, 1) := by decide +kernel
theorem d_Teller_setOwn_54 : decode prog_6_method_29_code 54 = .ok (.aload_n 0, 1) := by decide +kernel
theorem d_Teller_setOwn_55 : decode prog_6_method_29_code 55 = .ok (.getfield 22, 3) := by decide +kernel
theorem d_Teller_setOwn_58 : decode prog_6_method_29_code 58 = .ok (.getfield 75, 3) := by decide +kernel
theorem d_Teller_setOwn_61 : decode prog_6_method_29_code 61 = .ok (.iload_n 3, 1) := by decide +kernel
theorem d_Teller_setOwn_62 : decode prog_6_method_29_code 62 = .ok (.iaload, 1) := by decide +kernel
theorem d_Teller_setOwn_63 : decode prog_6_method_29_code 63 = .ok (.invokevirtual 262, 3) := by decide +kernel
theorem d_Teller_setOwn_66 : decode prog_6_method_29_code 66 = .ok (.aload_n 0, 1) := by decide +kernel
theorem d_Teller_setOwn_67 : decode prog_6_method_29_code 67 = .ok (.aload_n 1, 1) := by decide +kernel
theorem d_Teller_setOwn_68 : decode prog_6_method_29_code 68 = .ok (.iconst 2, 1) := by decide +kernel
theorem d_Teller_setOwn_69 : decode prog_6_method_29_code 69 = .ok (.invokevirtual 149, 3) := by decide +kernel
theorem d_Teller_setOwn_72 : decode prog_6_method_29_code 72 = .ok (.ireturn, 1) := by decide +kernel
theorem d_Teller_setPoint_0 : decode prog_6_method_35_code 0 = .ok (.aload_n 0, 1) := by decide +kernel
theorem d_Teller_setPoint_1 : decode prog_6_method_35_code 1 = .ok (.getfield 44, 3) := by decide +kernel
theorem d_Teller_setPoint_4 : decode prog_6_method_35_code 4 = .ok (.aload_n 0, 1) := by decide +kernel
theorem d_Teller_setPoint_5 : decode prog_6_method_35_code 5 = .ok (.getfield 40, 3) := by decide +kernel
theorem d_Teller_setPoint_8 : decode prog_6_method_35_code 8 = .ok (.getfield 209, 3) := by decide +kernel
theorem d_Teller_setPoint_11 : decode prog_6_method_35_code 11 = .ok (.invokevirtual 284, 3) := by decide +kernel
theorem d_Teller_setPoint_14 : decode prog_6_method_35_code 14 = .ok (.aload_n 0, 1) := by decide +kernel
theorem d_Teller_setPoint_15 : decode prog_6_method_35_code 15 = .ok (.aload_n 1, 1) := by decide +kernel
theorem d_Teller_setPoint_16 : decode prog_6_method_35_code 16 = .ok (.invokevirtual 115, 3) := by decide +kernel
theorem d_Teller_setPoint_19 : decode prog_6_method_35_code 19 = .ok (.ireturn, 1) := by decide +kernel
theorem d_Teller_start_0 : decode prog_6_method_3_code 0 = .ok (.aload_n 0, 1) := by decide +kernel
theorem d_Teller_start_1 : decode prog_6_method_3_code 1 = .ok (.iconst 0, 1) := by decide +kernel
theorem d_Teller_start_2 : decode prog_6_method_3_code 2 = .ok (.putfield 49, 3) := by decide +kernel
theorem d_Teller_start_5 : decode prog_6_method_3_code 5 = .ok (.aload_n 0, 1) := by decide +kernel
theorem d_Teller_start_6 : decode prog_6_method_3_code 6 = .ok (.getfield 22, 3) := by decide +kernel
theorem d_Teller_start_9 : decode prog_6_method_3_code 9 = .ok (.iconst 0, 1) := by decide +kernel
theorem d_Teller_start_10 : decode prog_6_method_3_code 10 = .ok (.putfield 52, 3) := by decide +kernel
theorem d_Teller_start_13 : decode prog_6_method_3_code 13 = .ok (.aload_n 0, 1) := by decide +kernel
theorem d_Teller_start_14 : decode prog_6_method_3_code 14 = .ok (.getfield 26, 3) := by decide +kernel
theorem d_Teller_start_17 : decode prog_6_method_3_code 17 = .ok (.iconst 0, 1) := by decide +kernel
theorem d_Teller_start_18 : decode prog_6_method_3_code 18 = .ok (.putfield 52, 3) := by decide +kernel
theorem d_Teller_start_21 : decode prog_6_method_3_code 21 = .ok (.aload_n 0, 1) := by decide +kernel
theorem d_Teller_start_22 : decode prog_6_method_3_code 22 = .ok (.getfield 29, 3) := by decide +kernel
theorem d_Teller_start_25 : decode prog_6_method_3_code 25 = .ok (.iconst 0, 1) := by decide +kernel
theorem d_Teller_start_26 : decode prog_6_method_3_code 26 = .ok (.putfield 52, 3) := by decide +kernel
theorem d_Teller_start_29 : decode prog_6_method_3_code 29 = .ok (.aload_n 0, 1) := by decide +kernel
theorem d_Teller_start_30 : decode prog_6_method_3_code 30 = .ok (.iconst 0, 1) := by decide +kernel
theorem d_Teller_start_31 : decode prog_6_method_3_code 31 = .ok (.putfield 32, 3) := by decide +kernel
theorem d_Teller_start_34 : decode prog_6_method_3_code 34 = .ok (.aload_n 0, 1) := by decide +kernel
theorem d_Teller_start_35 : decode prog_6_method_3_code 35 = .ok (.iload_n 1, 1) := by decide +kernel
theorem d_Teller_start_36 : decode prog_6_method_3_code 36 = .ok (.iconst 0, 1) := by decide +kernel
theorem d_Teller_start_37 : decode prog_6_method_3_code 37 = .ok (.iconst 0, 1) := by decide +kernel
theorem d_Teller_start_38 : decode prog_6_method_3_code 38 = .ok (.iload_n 2, 1) := by decide +kernel
theorem d_Teller_start_39 : decode prog_6_method_3_code 39 = .ok (.iload_n 3, 1) := by decide +kernel
theorem d_Teller_start_40 : decode prog_6_method_3_code 40 = .ok (.invokevirtual 55, 3) := by decide +kernel
theorem d_Teller_start_43 : decode prog_6_method_3_code 43 = .ok (.pop, 1) := by decide +kernel
theorem d_Teller_start_44 : decode prog_6_method_3_code 44 = .ok (.return_, 1) := by decide +kernel
theorem d_Teller_take_0 : decode prog_6_method_13_code 0 = .ok (.aload_n 0, 1) := by decide +kernel
theorem d_Teller_take_1 : decode prog_6_method_13_code 1 = .ok (.getfield 22, 3) := by decide +kernel
theorem d_Teller_take_4 : decode prog_6_method_13_code 4 = .ok (.dup, 1) := by decide +kernel
theorem d_Teller_take_5 : decode prog_6_method_13_code 5 = .ok (.getfield 52, 3) := by decide +kernel
theorem d_Teller_take_8 : decode prog_6_method_13_code 8 = .ok (.iload_n 2, 1) := by decide +kernel
theorem d_Teller_take_9 : decode prog_6_method_13_code 9 = .ok (.isub, 1) := by decide +kernel
theorem d_Teller_take_10 : decode prog_6_method_13_code 10 = .ok (.putfield 52, 3) := by decide +kernel
theorem d_Teller_take_13 : decode prog_6_method_13_code 13 = .ok (.aload_n 0, 1) := by decide +kernel
theorem d_Teller_take_14 : decode prog_6_method_13_code 14 = .ok (.aload_n 1, 1) := by decide +kernel
theorem d_Teller_take_15 : decode prog_6_method_13_code 15 = .ok (.invokevirtual 115, 3) := by decide +kernel
theorem d_Teller_take_18 : decode prog_6_method_13_code 18 = .ok (.ireturn, 1) := by decide +kernel
theorem d_Teller_takeIntoLocal_0 : decode prog_6_method_19_code 0 = .ok (.aload_n 0, 1) := by decide +kernel
theorem d_Teller_takeIntoLocal_1 : decode prog_6_method_19_code 1 = .ok (.aload_n 1, 1) := by decide +kernel
theorem d_Teller_takeIntoLocal_2 : decode prog_6_method_19_code 2 = .ok (.iload_n 2, 1) := by decide +kernel
theorem d_Teller_takeIntoLocal_3 : decode prog_6_method_19_code 3 = .ok (.invokevirtual 133, 3) := by decide +kernel
theorem d_Teller_takeIntoLocal_6 : decode prog_6_method_19_code 6 = .ok (.ifCond .eq 12, 3) := by decide +kernel
theorem d_Teller_takeIntoLocal_9 : decode prog_6_method_19_code 9 = .ok (.aload_n 0, 1) := by decide +kernel
theorem d_Teller_takeIntoLocal_10 : decode prog_6_method_19_code 10 = .ok (.aload_n 1, 1) := by decide +kernel
theorem d_Teller_takeIntoLocal_11 : decode prog_6_method_19_code 11 = .ok (.iconst 1, 1) := by decide +kernel
theorem d_Teller_takeIntoLocal_12 : decode prog_6_method_19_code 12 = .ok (.invokevirtual 146, 3) := by decide +kernel
theorem d_Teller_takeIntoLocal_15 : decode prog_6_method_19_code 15 = .ok (.ifCond .ne 5, 3) := by decide +kernel
theorem d_Teller_takeIntoLocal_18 : decode prog_6_method_19_code 18 = .ok (.iconst 0, 1) := by decide +kernel
theorem d_Teller_takeIntoLocal_19 : decode prog_6_method_19_code 19 = .ok (.ireturn, 1) := by decide +kernel
theorem d_Teller_takeIntoLocal_20 : decode prog_6_method_19_code 20 = .ok (.aload_n 0, 1) := by decide +kernel
theorem d_Teller_takeIntoLocal_21 : decode prog_6_method_19_code 21 = .ok (.getfield 22, 3) := by decide +kernel
theorem d_Teller_takeIntoLocal_24 : decode prog_6_method_19_code 24 = .ok (.getfield 71, 3) := by decide +kernel
theorem d_Teller_takeIntoLocal_27 : decode prog_6_method_19_code 27 = .ok (.aload_n 1, 1) := by decide +kernel
theorem d_Teller_takeIntoLocal_28 : decode prog_6_method_19_code 28 = .ok (.getfield 137, 3) := by decide +kernel
theorem d_Teller_takeIntoLocal_31 : decode prog_6_method_19_code 31 = .ok (.iload_n 2, 1) := by decide +kernel
theorem d_Teller_takeIntoLocal_32 : decode prog_6_method_19_code 32 = .ok (.iadd, 1) := by decide +kernel
theorem d_Teller_takeIntoLocal_33 : decode prog_6_method_19_code 33 = .ok (.aload_n 0, 1) := by decide +kernel
theorem d_Teller_takeIntoLocal_34 : decode prog_6_method_19_code 34 = .ok (.invokevirtual 180, 3) := by decide +kernel
theorem d_Teller_takeIntoLocal_37 : decode prog_6_method_19_code 37 = .ok (.iastore, 1) := by decide +kernel
theorem d_Teller_takeIntoLocal_38 : decode prog_6_method_19_code 38 = .ok (.aload_n 0, 1) := by decide +kernel
theorem d_Teller_takeIntoLocal_39 : decode prog_6_method_19_code 39 = .ok (.getfield 22, 3) := by decide +kernel
theorem d_Teller_takeIntoLocal_42 : decode prog_6_method_19_code 42 = .ok (.getfield 75, 3) := by decide +kernel
theorem d_Teller_takeIntoLocal_45 : decode prog_6_method_19_code 45 = .ok (.aload_n 1, 1) := by decide +kernel
theorem d_Teller_takeIntoLocal_46 : decode prog_6_method_19_code 46 = .ok (.getfield 137, 3) := by decide +kernel
theorem d_Teller_takeIntoLocal_49 : decode prog_6_method_19_code 49 = .ok (.iload_n 2, 1) := by decide +kernel
theorem d_Teller_takeIntoLocal_50 : decode prog_6_method_19_code 50 = .ok (.iadd, 1) := by decide +kernel
theorem d_Teller_takeIntoLocal_51 : decode prog_6_method_19_code 51 = .ok (.aload_n 0, 1) := by decide +kernel
theorem d_Teller_takeIntoLocal_52 : decode prog_6_method_19_code 52 = .ok (.invokevirtual 184, 3) := by decide +kernel
theorem d_Teller_takeIntoLocal_55 : decode prog_6_method_19_code 55 = .ok (.iastore, 1) := by decide +kernel
theorem d_Teller_takeIntoLocal_56 : decode prog_6_method_19_code 56 = .ok (.aload_n 0, 1) := by decide +kernel
theorem d_Teller_takeIntoLocal_57 : decode prog_6_method_19_code 57 = .ok (.aload_n 1, 1) := by decide +kernel
theorem d_Teller_takeIntoLocal_58 : decode prog_6_method_19_code 58 = .ok (.iconst 1, 1) := by decide +kernel
theorem d_Teller_takeIntoLocal_59 : decode prog_6_method_19_code 59 = .ok (.invokevirtual 149, 3) := by decide +kernel
theorem d_Teller_takeIntoLocal_62 : decode prog_6_method_19_code 62 = .ok (.ireturn, 1) := by decide +kernel
theorem d_Teller_testOf_0 : decode prog_6_method_34_code 0 = .ok (.aload_n 0, 1) := by decide +kernel
theorem d_Teller_testOf_1 : decode prog_6_method_34_code 1 = .ok (.getfield 40, 3) := by decide +kernel
theorem d_Teller_testOf_4 : decode prog_6_method_34_code 4 = .ok (.iload_n 2, 1) := by decide +kernel
theorem d_Teller_testOf_5 : decode prog_6_method_34_code 5 = .ok (.invokevirtual 126, 3) := by decide +kernel
theorem d_Teller_testOf_8 : decode prog_6_method_34_code 8 = .ok (.ifCond .eq 53, 3) := by decide +kernel
theorem d_Teller_testOf_11 : decode prog_6_method_34_code 11 = .ok (.aload_n 0, 1) := by decide +kernel
theorem d_Teller_testOf_12 : decode prog_6_method_34_code 12 = .ok (.aload_n 1, 1) := by decide +kernel
theorem d_Teller_testOf_13 : decode prog_6_method_34_code 13 = .ok (.iconst 1, 1) := by decide +kernel
theorem d_Teller_testOf_14 : decode prog_6_method_34_code 14 = .ok (.invokevirtual 146, 3) := by decide +kernel
theorem d_Teller_testOf_17 : decode prog_6_method_34_code 17 = .ok (.ifCond .eq 44, 3) := by decide +kernel
theorem d_Teller_testOf_20 : decode prog_6_method_34_code 20 = .ok (.aload_n 0, 1) := by decide +kernel
theorem d_Teller_testOf_21 : decode prog_6_method_34_code 21 = .ok (.aload_n 1, 1) := by decide +kernel
theorem d_Teller_testOf_22 : decode prog_6_method_34_code 22 = .ok (.iconst 1, 1) := by decide +kernel
theorem d_Teller_testOf_23 : decode prog_6_method_34_code 23 = .ok (.aload_n 0, 1) := by decide +kernel
theorem d_Teller_testOf_24 : decode prog_6_method_34_code 24 = .ok (.invokevirtual 180, 3) := by decide +kernel
theorem d_Teller_testOf_27 : decode prog_6_method_34_code 27 = .ok (.iconst 3, 1) := by decide +kernel
theorem d_Teller_testOf_28 : decode prog_6_method_34_code 28 = .ok (.if_icmp .ne 22, 3) := by decide +kernel
theorem d_Teller_testOf_31 : decode prog_6_method_34_code 31 = .ok (.aload_n 0, 1) := by decide +kernel
theorem d_Teller_testOf_32 : decode prog_6_method_34_code 32 = .ok (.getfield 40, 3) := by decide +kernel
theorem d_Teller_testOf_35 : decode prog_6_method_34_code 35 = .ok (.aload_n 0, 1) := by decide +kernel
theorem d_Teller_testOf_36 : decode prog_6_method_34_code 36 = .ok (.invokevirtual 184, 3) := by decide +kernel
theorem d_Teller_testOf_39 : decode prog_6_method_34_code 39 = .ok (.iload_n 2, 1) := by decide +kernel
theorem d_Teller_testOf_40 : decode prog_6_method_34_code 40 = .ok (.invokevirtual 281, 3) := by decide +kernel
theorem d_Teller_testOf_43 : decode prog_6_method_34_code 43 = .ok (.ifCond .eq 7, 3) := by decide +kernel
theorem d_Teller_testOf_46 : decode prog_6_method_34_code 46 = .ok (.iconst 1, 1) := by decide +kernel
theorem d_Teller_testOf_47 : decode prog_6_method_34_code 47 = .ok (.goto 4, 3) := by decide +kernel
theorem d_Teller_testOf_50 : decode prog_6_method_34_code 50 = .ok (.iconst 0, 1) := by decide +kernel
theorem d_Teller_testOf_51 : decode prog_6_method_34_code 51 = .ok (.invokevirtual 161, 3) := by decide +kernel
theorem d_Teller_testOf_54 : decode prog_6_method_34_code 54 = .ok (.ifCond .eq 7, 3) := by decide +kernel
theorem d_Teller_testOf_57 : decode prog_6_method_34_code 57 = .ok (.iconst 1, 1) := by decide +kernel
theorem d_Teller_testOf_58 : decode prog_6_method_34_code 58 = .ok (.goto 4, 3) := by decide +kernel
theorem d_Teller_testOf_61 : decode prog_6_method_34_code 61 = .ok (.iconst 0, 1) := by decide +kernel
theorem d_Teller_testOf_62 : decode prog_6_method_34_code 62 = .ok (.ireturn, 1) := by decide +kernel
theorem d_Teller_top_0 : decode prog_6_method_2_code 0 = .ok (.aload_n 0, 1) := by decide +kernel
theorem d_Teller_top_1 : decode prog_6_method_2_code 1 = .ok (.getfield 11, 3) := by decide +kernel
theorem d_Teller_top_4 : decode prog_6_method_2_code 4 = .ok (.aload_n 0, 1) := by decide +kernel
theorem d_Teller_top_5 : decode prog_6_method_2_code 5 = .ok (.getfield 49, 3) := by decide +kernel
theorem d_Teller_top_8 : decode prog_6_method_2_code 8 = .ok (.ifCond .le 12, 3) := by decide +kernel
theorem d_Teller_top_11 : decode prog_6_method_2_code 11 = .ok (.aload_n 0, 1) := by decide +kernel
theorem d_Teller_top_12 : decode prog_6_method_2_code 12 = .ok (.getfield 49, 3) := by decide +kernel
theorem d_Teller_top_15 : decode prog_6_method_2_code 15 = .ok (.iconst 1, 1) := by decide +kernel
theorem d_Teller_top_16 : decode prog_6_method_2_code 16 = .ok (.isub, 1) := by decide +kernel
theorem d_Teller_top_17 : decode prog_6_method_2_code 17 = .ok (.goto 4, 3) := by decide +kernel
theorem d_Teller_top_20 : decode prog_6_method_2_code 20 = .ok (.iconst 0, 1) := by decide +kernel
theorem d_Teller_top_21 : decode prog_6_method_2_code 21 = .ok (.aaload, 1) := by decide +kernel
theorem d_Teller_top_22 : decode prog_6_method_2_code 22 = .ok (.areturn, 1) := by decide +kernel
theorem d_Teller_topInt_0 : decode prog_6_method_15_code 0 = .ok (.aload_n 0, 1) := by decide +kernel
theorem d_Teller_topInt_1 : decode prog_6_method_15_code 1 = .ok (.getfield 22, 3) := by decide +kernel
theorem d_Teller_topInt_4 : decode prog_6_method_15_code 4 = .ok (.getfield 75, 3) := by decide +kernel
theorem d_Teller_topInt_7 : decode prog_6_method_15_code 7 = .ok (.aload_n 0, 1) := by decide +kernel
theorem d_Teller_topInt_8 : decode prog_6_method_15_code 8 = .ok (.getfield 22, 3) := by decide +kernel
theorem d_Teller_topInt_11 : decode prog_6_method_15_code 11 = .ok (.getfield 52, 3) := by decide +kernel
theorem d_Teller_topInt_14 : decode prog_6_method_15_code 14 = .ok (.iconst 1, 1) := by decide +kernel
theorem d_Teller_topInt_15 : decode prog_6_method_15_code 15 = .ok (.isub, 1) := by decide +kernel
theorem d_Teller_topInt_16 : decode prog_6_method_15_code 16 = .ok (.iaload, 1) := by decide +kernel
theorem d_Teller_topInt_17 : decode prog_6_method_15_code 17 = .ok (.ireturn, 1) := by decide +kernel
theorem d_Teller_topKind_0 : decode prog_6_method_14_code 0 = .ok (.aload_n 0, 1) := by decide +kernel
theorem d_Teller_topKind_1 : decode prog_6_method_14_code 1 = .ok (.getfield 22, 3) := by decide +kernel
theorem d_Teller_topKind_4 : decode prog_6_method_14_code 4 = .ok (.getfield 71, 3) := by decide +kernel
theorem d_Teller_topKind_7 : decode prog_6_method_14_code 7 = .ok (.aload_n 0, 1) := by decide +kernel
theorem d_Teller_topKind_8 : decode prog_6_method_14_code 8 = .ok (.getfield 22, 3) := by decide +kernel
theorem d_Teller_topKind_11 : decode prog_6_method_14_code 11 = .ok (.getfield 52, 3) := by decide +kernel
theorem d_Teller_topKind_14 : decode prog_6_method_14_code 14 = .ok (.iconst 1, 1) := by decide +kernel
theorem d_Teller_topKind_15 : decode prog_6_method_14_code 15 = .ok (.isub, 1) := by decide +kernel
theorem d_Teller_topKind_16 : decode prog_6_method_14_code 16 = .ok (.iaload, 1) := by decide +kernel
theorem d_Teller_topKind_17 : decode prog_6_method_14_code 17 = .ok (.ireturn, 1) := by decide +kernel
theorem d_Values_init_0 : decode prog_7_method_1_code 0 = .ok (.aload_n 0, 1) := by decide +kernel
theorem d_Values_init_1 : decode prog_7_method_1_code 1 = .ok (.invokespecial 1, 3) := by decide +kernel
theorem d_Values_init_4 : decode prog_7_method_1_code 4 = .ok (.aload_n 0, 1) := by decide +kernel
theorem d_Values_init_5 : decode prog_7_method_1_code 5 = .ok (.iload_n 1, 1) := by decide +kernel
theorem d_Values_init_6 : decode prog_7_method_1_code 6 = .ok (.newarray .int, 2) := by decide +kernel
theorem d_Values_init_8 : decode prog_7_method_1_code 8 = .ok (.putfield 7, 3) := by decide +kernel
theorem d_Values_init_11 : decode prog_7_method_1_code 11 = .ok (.aload_n 0, 1) := by decide +kernel
theorem d_Values_init_12 : decode prog_7_method_1_code 12 = .ok (.iload_n 1, 1) := by decide +kernel
theorem d_Values_init_13 : decode prog_7_method_1_code 13 = .ok (.newarray .int, 2) := by decide +kernel
theorem d_Values_init_15 : decode prog_7_method_1_code 15 = .ok (.putfield 13, 3) := by decide +kernel
theorem d_Values_init_18 : decode prog_7_method_1_code 18 = .ok (.return_, 1) := by decide +kernel
theorem d_Values_add_0 : decode prog_7_method_3_code 0 = .ok (.aload_n 0, 1) := by decide +kernel
theorem d_Values_add_1 : decode prog_7_method_3_code 1 = .ok (.getfield 16, 3) := by decide +kernel
theorem d_Values_add_4 : decode prog_7_method_3_code 4 = .ok (.aload_n 0, 1) := by decide +kernel
theorem d_Values_add_5 : decode prog_7_method_3_code 5 = .ok (.getfield 7, 3) := by decide +kernel
theorem d_Values_add_8 : decode prog_7_method_3_code 8 = .ok (.arraylength, 1) := by decide +kernel
theorem d_Values_add_9 : decode prog_7_method_3_code 9 = .ok (.if_icmp .lt 5, 3) := by decide +kernel
theorem d_Values_add_12 : decode prog_7_method_3_code 12 = .ok (.iconst 0, 1) := by decide +kernel
theorem d_Values_add_13 : decode prog_7_method_3_code 13 = .ok (.ireturn, 1) := by decide +kernel
theorem d_Values_add_14 : decode prog_7_method_3_code 14 = .ok (.aload_n 0, 1) := by decide +kernel
theorem d_Values_add_15 : decode prog_7_method_3_code 15 = .ok (.getfield 7, 3) := by decide +kernel
theorem d_Values_add_18 : decode prog_7_method_3_code 18 = .ok (.aload_n 0, 1) := by decide +kernel
theorem d_Values_add_19 : decode prog_7_method_3_code 19 = .ok (.getfield 16, 3) := by decide +kernel
theorem d_Values_add_22 : decode prog_7_method_3_code 22 = .ok (.iload_n 1, 1) := by decide +kernel
theorem d_Values_add_23 : decode prog_7_method_3_code 23 = .ok (.iastore, 1) := by decide +kernel
theorem d_Values_add_24 : decode prog_7_method_3_code 24 = .ok (.aload_n 0, 1) := by decide +kernel
theorem d_Values_add_25 : decode prog_7_method_3_code 25 = .ok (.getfield 13, 3) := by decide +kernel
theorem d_Values_add_28 : decode prog_7_method_3_code 28 = .ok (.aload_n 0, 1) := by decide +kernel
theorem d_Values_add_29 : decode prog_7_method_3_code 29 = .ok (.getfield 16, 3) := by decide +kernel
theorem d_Values_add_32 : decode prog_7_method_3_code 32 = .ok (.iload_n 2, 1) := by decide +kernel
theorem d_Values_add_33 : decode prog_7_method_3_code 33 = .ok (.iastore, 1) := by decide +kernel
theorem d_Values_add_34 : decode prog_7_method_3_code 34 = .ok (.aload_n 0, 1) := by decide +kernel
theorem d_Values_add_35 : decode prog_7_method_3_code 35 = .ok (.dup, 1) := by decide +kernel
theorem d_Values_add_36 : decode prog_7_method_3_code 36 = .ok (.getfield 16, 3) := by decide +kernel
theorem d_Values_add_39 : decode prog_7_method_3_code 39 = .ok (.iconst 1, 1) := by decide +kernel
theorem d_Values_add_40 : decode prog_7_method_3_code 40 = .ok (.iadd, 1) := by decide +kernel
theorem d_Values_add_41 : decode prog_7_method_3_code 41 = .ok (.putfield 16, 3) := by decide +kernel
theorem d_Values_add_44 : decode prog_7_method_3_code 44 = .ok (.iconst 1, 1) := by decide +kernel
theorem d_Values_add_45 : decode prog_7_method_3_code 45 = .ok (.ireturn, 1) := by decide +kernel
theorem d_Values_isFull_0 : decode prog_7_method_2_code 0 = .ok (.aload_n 0, 1) := by decide +kernel
theorem d_Values_isFull_1 : decode prog_7_method_2_code 1 = .ok (.getfield 16, 3) := by decide +kernel
theorem d_Values_isFull_4 : decode prog_7_method_2_code 4 = .ok (.aload_n 0, 1) := by decide +kernel
theorem d_Values_isFull_5 : decode prog_7_method_2_code 5 = .ok (.getfield 7, 3) := by decide +kernel
theorem d_Values_isFull_8 : decode prog_7_method_2_code 8 = .ok (.arraylength, 1) := by decide +kernel
theorem d_Values_isFull_9 : decode prog_7_method_2_code 9 = .ok (.if_icmp .lt 7, 3) := by decide +kernel
theorem d_Values_isFull_12 : decode prog_7_method_2_code 12 = .ok (.iconst 1, 1) := by decide +kernel
theorem d_Values_isFull_13 : decode prog_7_method_2_code 13 = .ok (.goto 4, 3) := by decide +kernel
theorem d_Values_isFull_16 : decode prog_7_method_2_code 16 = .ok (.iconst 0, 1) := by decide +kernel
theorem d_Values_isFull_17 : decode prog_7_method_2_code 17 = .ok (.ireturn, 1) := by decide +kernel
theorem d_World_init_0 : decode prog_8_method_1_code 0 = .ok (.aload_n 0, 1) := by decide +kernel
theorem d_World_init_1 : decode prog_8_method_1_code 1 = .ok (.invokespecial 3, 3) := by decide +kernel
theorem d_World_init_4 : decode prog_8_method_1_code 4 = .ok (.aload_n 0, 1) := by decide +kernel
theorem d_World_init_5 : decode prog_8_method_1_code 5 = .ok (.new 9, 3) := by decide +kernel
theorem d_World_init_8 : decode prog_8_method_1_code 8 = .ok (.dup, 1) := by decide +kernel
theorem d_World_init_9 : decode prog_8_method_1_code 9 = .ok (.invokespecial 11, 3) := by decide +kernel
theorem d_World_init_12 : decode prog_8_method_1_code 12 = .ok (.putfield 12, 3) := by decide +kernel
theorem d_World_init_15 : decode prog_8_method_1_code 15 = .ok (.aload_n 0, 1) := by decide +kernel
theorem d_World_init_16 : decode prog_8_method_1_code 16 = .ok (.sipush 256, 3) := by decide +kernel
theorem d_World_init_19 : decode prog_8_method_1_code 19 = .ok (.newarray .int, 2) := by decide +kernel
theorem d_World_init_21 : decode prog_8_method_1_code 21 = .ok (.putfield 18, 3) := by decide +kernel
theorem d_World_init_24 : decode prog_8_method_1_code 24 = .ok (.aload_n 0, 1) := by decide +kernel
theorem d_World_init_25 : decode prog_8_method_1_code 25 = .ok (.bipush 16, 2) := by decide +kernel
theorem d_World_init_27 : decode prog_8_method_1_code 27 = .ok (.newarray .int, 2) := by decide +kernel
theorem d_World_init_29 : decode prog_8_method_1_code 29 = .ok (.putfield 22, 3) := by decide +kernel
theorem d_World_init_32 : decode prog_8_method_1_code 32 = .ok (.aload_n 0, 1) := by decide +kernel
theorem d_World_init_33 : decode prog_8_method_1_code 33 = .ok (.bipush 32, 2) := by decide +kernel
theorem d_World_init_35 : decode prog_8_method_1_code 35 = .ok (.newarray .int, 2) := by decide +kernel
theorem d_World_init_37 : decode prog_8_method_1_code 37 = .ok (.putfield 25, 3) := by decide +kernel
theorem d_World_init_40 : decode prog_8_method_1_code 40 = .ok (.aload_n 0, 1) := by decide +kernel
theorem d_World_init_41 : decode prog_8_method_1_code 41 = .ok (.bipush 32, 2) := by decide +kernel
theorem d_World_init_43 : decode prog_8_method_1_code 43 = .ok (.newarray .int, 2) := by decide +kernel
theorem d_World_init_45 : decode prog_8_method_1_code 45 = .ok (.putfield 28, 3) := by decide +kernel
theorem d_World_init_48 : decode prog_8_method_1_code 48 = .ok (.return_, 1) := by decide +kernel
theorem d_World_clearOwn_0 : decode prog_8_method_11_code 0 = .ok (.iconst 0, 1) := by decide +kernel
theorem d_World_clearOwn_1 : decode prog_8_method_11_code 1 = .ok (.istore_n 2, 1) := by decide +kernel
theorem d_World_clearOwn_2 : decode prog_8_method_11_code 2 = .ok (.iload_n 2, 1) := by decide +kernel
theorem d_World_clearOwn_3 : decode prog_8_method_11_code 3 = .ok (.bipush 8, 2) := by decide +kernel
theorem d_World_clearOwn_5 : decode prog_8_method_11_code 5 = .ok (.if_icmp .ge 17, 3) := by decide +kernel
theorem d_World_clearOwn_8 : decode prog_8_method_11_code 8 = .ok (.aload_n 0, 1) := by decide +kernel
theorem d_World_clearOwn_9 : decode prog_8_method_11_code 9 = .ok (.iload_n 1, 1) := by decide +kernel
theorem d_World_clearOwn_10 : decode prog_8_method_11_code 10 = .ok (.iload_n 2, 1) := by decide +kernel
theorem d_World_clearOwn_11 : decode prog_8_method_11_code 11 = .ok (.iconst (-1), 1) := by decide +kernel
theorem d_World_clearOwn_12 : decode prog_8_method_11_code 12 = .ok (.iconst 0, 1) := by decide +kernel
theorem d_World_clearOwn_13 : decode prog_8_method_11_code 13 = .ok (.invokevirtual 59, 3) := by decide +kernel
theorem d_World_clearOwn_16 : decode prog_8_method_11_code 16 = .ok (.iinc 2 1, 3) := by decide +kernel
theorem d_World_clearOwn_19 : decode prog_8_method_11_code 19 = .ok (.goto (-17), 3) := by decide +kernel
theorem d_World_clearOwn_22 : decode prog_8_method_11_code 22 = .ok (.return_, 1) := by decide +kernel
theorem d_World_count_0 : decode prog_8_method_4_code 0 = .ok (.aload_n 0, 1) := by decide +kernel
theorem d_World_count_1 : decode prog_8_method_4_code 1 = .ok (.getfield 31, 3) := by decide +kernel
theorem d_World_count_4 : decode prog_8_method_4_code 4 = .ok (.istore_n 1, 1) := by decide +kernel
theorem d_World_count_5 : decode prog_8_method_4_code 5 = .ok (.iconst 0, 1) := by decide +kernel
theorem d_World_count_6 : decode prog_8_method_4_code 6 = .ok (.istore_n 2, 1) := by decide +kernel
theorem d_World_count_7 : decode prog_8_method_4_code 7 = .ok (.iload_n 2, 1) := by decide +kernel
theorem d_World_count_8 : decode prog_8_method_4_code 8 = .ok (.bipush 16, 2) := by decide +kernel
theorem d_World_count_10 : decode prog_8_method_4_code 10 = .ok (.if_icmp .ge 25, 3) := by decide +kernel
theorem d_World_count_13 : decode prog_8_method_4_code 13 = .ok (.aload_n 0, 1) := by decide +kernel
theorem d_World_count_14 : decode prog_8_method_4_code 14 = .ok (.getfield 12, 3) := by decide +kernel
theorem d_World_count_17 : decode prog_8_method_4_code 17 = .ok (.getfield 39, 3) := by decide +kernel
theorem d_World_count_20 : decode prog_8_method_4_code 20 = .ok (.iload_n 2, 1) := by decide +kernel
theorem d_World_count_21 : decode prog_8_method_4_code 21 = .ok (.iaload, 1) := by decide +kernel
theorem d_World_count_22 : decode prog_8_method_4_code 22 = .ok (.iconst (-1), 1) := by decide +kernel
theorem d_World_count_23 : decode prog_8_method_4_code 23 = .ok (.if_icmp .eq 6, 3) := by decide +kernel
theorem d_World_count_26 : decode prog_8_method_4_code 26 = .ok (.iinc 1 1, 3) := by decide +kernel
theorem d_World_count_29 : decode prog_8_method_4_code 29 = .ok (.iinc 2 1, 3) := by decide +kernel
theorem d_World_count_32 : decode prog_8_method_4_code 32 = .ok (.goto (-25), 3) := by decide +kernel
theorem d_World_count_35 : decode prog_8_method_4_code 35 = .ok (.iload_n 1, 1) := by decide +kernel
theorem d_World_count_36 : decode prog_8_method_4_code 36 = .ok (.ireturn, 1) := by decide +kernel
theorem d_World_descends_0 : decode prog_8_method_17_code 0 = .ok (.aload_n 0, 1) := by decide +kernel
theorem d_World_descends_1 : decode prog_8_method_17_code 1 = .ok (.iload_n 1, 1) := by decide +kernel
theorem d_World_descends_2 : decode prog_8_method_17_code 2 = .ok (.invokevirtual 82, 3) := by decide +kernel
theorem d_World_descends_5 : decode prog_8_method_17_code 5 = .ok (.ifCond .eq 11, 3) := by decide +kernel
theorem d_World_descends_8 : decode prog_8_method_17_code 8 = .ok (.aload_n 0, 1) := by decide +kernel
theorem d_World_descends_9 : decode prog_8_method_17_code 9 = .ok (.iload_n 2, 1) := by decide +kernel
theorem d_World_descends_10 : decode prog_8_method_17_code 10 = .ok (.invokevirtual 82, 3) := by decide +kernel
theorem d_World_descends_13 : decode prog_8_method_17_code 13 = .ok (.ifCond .ne 5, 3) := by decide +kernel
theorem d_World_descends_16 : decode prog_8_method_17_code 16 = .ok (.iconst 0, 1) := by decide +kernel
theorem d_World_descends_17 : decode prog_8_method_17_code 17 = .ok (.ireturn, 1) := by decide +kernel
theorem d_World_descends_18 : decode prog_8_method_17_code 18 = .ok (.aload_n 0, 1) := by decide +kernel
theorem d_World_descends_19 : decode prog_8_method_17_code 19 = .ok (.iload_n 1, 1) := by decide +kernel
theorem d_World_descends_20 : decode prog_8_method_17_code 20 = .ok (.invokevirtual 72, 3) := by decide +kernel
theorem d_World_descends_23 : decode prog_8_method_17_code 23 = .ok (.aload_n 0, 1) := by decide +kernel
theorem d_World_descends_24 : decode prog_8_method_17_code 24 = .ok (.iload_n 2, 1) := by decide +kernel
theorem d_World_descends_25 : decode prog_8_method_17_code 25 = .ok (.invokevirtual 78, 3) := by decide +kernel
theorem d_World_descends_28 : decode prog_8_method_17_code 28 = .ok (.iconst (-1), 1) := by decide +kernel
theorem d_World_descends_29 : decode prog_8_method_17_code 29 = .ok (.if_icmp .eq 7, 3) := by decide +kernel
theorem d_World_descends_32 : decode prog_8_method_17_code 32 = .ok (.iconst 1, 1) := by decide +kernel
theorem d_World_descends_33 : decode prog_8_method_17_code 33 = .ok (.goto 4, 3) := by decide +kernel
theorem d_World_descends_36 : decode prog_8_method_17_code 36 = .ok (.iconst 0, 1) := by decide +kernel
theorem d_World_descends_37 : decode prog_8_method_17_code 37 = .ok (.ireturn, 1) := by decide +kernel
theorem d_World_fix_0 : decode prog_8_method_8_code 0 = .ok (.aload_n 0, 1) := by decide +kernel
theorem d_World_fix_1 : decode prog_8_method_8_code 1 = .ok (.iconst 0, 1) := by decide +kernel
theorem d_World_fix_2 : decode prog_8_method_8_code 2 = .ok (.putfield 48, 3) := by decide +kernel
theorem d_World_fix_5 : decode prog_8_method_8_code 5 = .ok (.iconst 0, 1) := by decide +kernel
theorem d_World_fix_6 : decode prog_8_method_8_code 6 = .ok (.istore 5, 2) := by decide +kernel
theorem d_World_fix_8 : decode prog_8_method_8_code 8 = .ok (.iload_n 1, 1) := by decide +kernel
theorem d_World_fix_9 : decode prog_8_method_8_code 9 = .ok (.iconst 1, 1) := by decide +kernel
theorem d_World_fix_10 : decode prog_8_method_8_code 10 = .ok (.isub, 1) := by decide +kernel
theorem d_World_fix_11 : decode prog_8_method_8_code 11 = .ok (.istore 6, 2) := by decide +kernel
theorem d_World_fix_13 : decode prog_8_method_8_code 13 = .ok (.iload 6, 2) := by decide +kernel
theorem d_World_fix_15 : decode prog_8_method_8_code 15 = .ok (.ifCond .lt 38, 3) := by decide +kernel
theorem d_World_fix_18 : decode prog_8_method_8_code 18 = .ok (.aload_n 0, 1) := by decide +kernel
theorem d_World_fix_19 : decode prog_8_method_8_code 19 = .ok (.iload 6, 2) := by decide +kernel
theorem d_World_fix_21 : decode prog_8_method_8_code 21 = .ok (.ifCond .ne 7, 3) := by decide +kernel
theorem d_World_fix_24 : decode prog_8_method_8_code 24 = .ok (.iload_n 2, 1) := by decide +kernel
theorem d_World_fix_25 : decode prog_8_method_8_code 25 = .ok (.goto 15, 3) := by decide +kernel
theorem d_World_fix_28 : decode prog_8_method_8_code 28 = .ok (.iload 6, 2) := by decide +kernel
theorem d_World_fix_30 : decode prog_8_method_8_code 30 = .ok (.iconst 1, 1) := by decide +kernel
theorem d_World_fix_31 : decode prog_8_method_8_code 31 = .ok (.if_icmp .ne 7, 3) := by decide +kernel
theorem d_World_fix_34 : decode prog_8_method_8_code 34 = .ok (.iload_n 3, 1) := by decide +kernel
theorem d_World_fix_35 : decode prog_8_method_8_code 35 = .ok (.goto 5, 3) := by decide +kernel
theorem d_World_fix_38 : decode prog_8_method_8_code 38 = .ok (.iload 4, 2) := by decide +kernel
theorem d_World_fix_40 : decode prog_8_method_8_code 40 = .ok (.iload 5, 2) := by decide +kernel
theorem d_World_fix_42 : decode prog_8_method_8_code 42 = .ok (.invokevirtual 51, 3) := by decide +kernel
theorem d_World_fix_45 : decode prog_8_method_8_code 45 = .ok (.istore 5, 2) := by decide +kernel
theorem d_World_fix_47 : decode prog_8_method_8_code 47 = .ok (.iinc 6 (-1), 3) := by decide +kernel
theorem d_World_fix_50 : decode prog_8_method_8_code 50 = .ok (.goto (-37), 3) := by decide +kernel
theorem d_World_fix_53 : decode prog_8_method_8_code 53 = .ok (.aload_n 0, 1) := by decide +kernel
theorem d_World_fix_54 : decode prog_8_method_8_code 54 = .ok (.getfield 31, 3) := by decide +kernel
theorem d_World_fix_57 : decode prog_8_method_8_code 57 = .ok (.bipush 16, 2) := by decide +kernel
theorem d_World_fix_59 : decode prog_8_method_8_code 59 = .ok (.imul, 1) := by decide +kernel
theorem d_World_fix_60 : decode prog_8_method_8_code 60 = .ok (.istore 6, 2) := by decide +kernel
theorem d_World_fix_62 : decode prog_8_method_8_code 62 = .ok (.aload_n 0, 1) := by decide +kernel
theorem d_World_fix_63 : decode prog_8_method_8_code 63 = .ok (.getfield 18, 3) := by decide +kernel
theorem d_World_fix_66 : decode prog_8_method_8_code 66 = .ok (.iload 6, 2) := by decide +kernel
theorem d_World_fix_68 : decode prog_8_method_8_code 68 = .ok (.aload_n 0, 1) := by decide +kernel
theorem d_World_fix_69 : decode prog_8_method_8_code 69 = .ok (.getfield 31, 3) := by decide +kernel
theorem d_World_fix_72 : decode prog_8_method_8_code 72 = .ok (.iastore, 1) := by decide +kernel
theorem d_World_fix_73 : decode prog_8_method_8_code 73 = .ok (.iconst 0, 1) := by decide +kernel
theorem d_World_fix_74 : decode prog_8_method_8_code 74 = .ok (.istore 7, 2) := by decide +kernel
theorem d_World_fix_76 : decode prog_8_method_8_code 76 = .ok (.iload 7, 2) := by decide +kernel
theorem d_World_fix_78 : decode prog_8_method_8_code 78 = .ok (.aload_n 0, 1) := by decide +kernel
theorem d_World_fix_79 : decode prog_8_method_8_code 79 = .ok (.getfield 48, 3) := by decide +kernel
theorem d_World_fix_82 : decode prog_8_method_8_code 82 = .ok (.if_icmp .ge 35, 3) := by decide +kernel
theorem d_World_fix_85 : decode prog_8_method_8_code 85 = .ok (.aload_n 0, 1) := by decide +kernel
theorem d_World_fix_86 : decode prog_8_method_8_code 86 = .ok (.getfield 18, 3) := by decide +kernel
theorem d_World_fix_89 : decode prog_8_method_8_code 89 = .ok (.iload 6, 2) := by decide +kernel
theorem d_World_fix_91 : decode prog_8_method_8_code 91 = .ok (.iconst 1, 1) := by decide +kernel
theorem d_World_fix_92 : decode prog_8_method_8_code 92 = .ok (.iadd, 1) := by decide +kernel
theorem d_World_fix_93 : decode prog_8_method_8_code 93 = .ok (.iload 7, 2) := by decide +kernel
theorem d_World_fix_95 : decode prog_8_method_8_code 95 = .ok (.iadd, 1) := by decide +kernel
theorem d_World_fix_96 : decode prog_8_method_8_code 96 = .ok (.aload_n 0, 1) := by decide +kernel
theorem d_World_fix_97 : decode prog_8_method_8_code 97 = .ok (.getfield 25, 3) := by decide +kernel
theorem d_World_fix_100 : decode prog_8_method_8_code 100 = .ok (.aload_n 0, 1) := by decide +kernel
theorem d_World_fix_101 : decode prog_8_method_8_code 101 = .ok (.getfield 48, 3) := by decide +kernel
theorem d_World_fix_104 : decode prog_8_method_8_code 104 = .ok (.iconst 1, 1) := by decide +kernel
theorem d_World_fix_105 : decode prog_8_method_8_code 105 = .ok (.isub, 1) := by decide +kernel
theorem d_World_fix_106 : decode prog_8_method_8_code 106 = .ok (.iload 7, 2) := by decide +kernel
theorem d_World_fix_108 : decode prog_8_method_8_code 108 = .ok (.isub, 1) := by decide +kernel
theorem d_World_fix_109 : decode prog_8_method_8_code 109 = .ok (.iaload, 1) := by decide +kernel
theorem d_World_fix_110 : decode prog_8_method_8_code 110 = .ok (.iastore, 1) := by decide +kernel
theorem d_World_fix_111 : decode prog_8_method_8_code 111 = .ok (.iinc 7 1, 3) := by decide +kernel
theorem d_World_fix_114 : decode prog_8_method_8_code 114 = .ok (.goto (-38), 3) := by decide +kernel
theorem d_World_fix_117 : decode prog_8_method_8_code 117 = .ok (.aload_n 0, 1) := by decide +kernel
theorem d_World_fix_118 : decode prog_8_method_8_code 118 = .ok (.getfield 22, 3) := by decide +kernel
theorem d_World_fix_121 : decode prog_8_method_8_code 121 = .ok (.aload_n 0, 1) := by decide +kernel
theorem d_World_fix_122 : decode prog_8_method_8_code 122 = .ok (.getfield 31, 3) := by decide +kernel
theorem d_World_fix_125 : decode prog_8_method_8_code 125 = .ok (.aload_n 0, 1) := by decide +kernel
theorem d_World_fix_126 : decode prog_8_method_8_code 126 = .ok (.getfield 48, 3) := by decide +kernel
theorem d_World_fix_129 : decode prog_8_method_8_code 129 = .ok (.iconst 1, 1) := by decide +kernel
theorem d_World_fix_130 : decode prog_8_method_8_code 130 = .ok (.iadd, 1) := by decide +kernel
theorem d_World_fix_131 : decode prog_8_method_8_code 131 = .ok (.iastore, 1) := by decide +kernel
theorem d_World_fix_132 : decode prog_8_method_8_code 132 = .ok (.aload_n 0, 1) := by decide +kernel
theorem d_World_fix_133 : decode prog_8_method_8_code 133 = .ok (.dup, 1) := by decide +kernel
theorem d_World_fix_134 : decode prog_8_method_8_code 134 = .ok (.getfield 31, 3) := by decide +kernel
theorem d_World_fix_137 : decode prog_8_method_8_code 137 = .ok (.iconst 1, 1) := by decide +kernel
theorem d_World_fix_138 : decode prog_8_method_8_code 138 = .ok (.iadd, 1) := by decide +kernel
theorem d_World_fix_139 : decode prog_8_method_8_code 139 = .ok (.putfield 31, 3) := by decide +kernel
theorem d_World_fix_142 : decode prog_8_method_8_code 142 = .ok (.aload_n 0, 1) := by decide +kernel
theorem d_World_fix_143 : decode prog_8_method_8_code 143 = .ok (.getfield 31, 3) := by decide +kernel
theorem d_World_fix_146 : decode prog_8_method_8_code 146 = .ok (.iconst 1, 1) := by decide +kernel
theorem d_World_fix_147 : decode prog_8_method_8_code 147 = .ok (.isub, 1) := by decide +kernel
theorem d_World_fix_148 : decode prog_8_method_8_code 148 = .ok (.ireturn, 1) := by decide +kernel
theorem d_World_forgetReached_0 : decode prog_8_method_18_code 0 = .ok (.aload_n 0, 1) := by decide +kernel
theorem d_World_forgetReached_1 : decode prog_8_method_18_code 1 = .ok (.iconst 0, 1) := by decide +kernel
theorem d_World_forgetReached_2 : decode prog_8_method_18_code 2 = .ok (.putfield 85, 3) := by decide +kernel
theorem d_World_forgetReached_5 : decode prog_8_method_18_code 5 = .ok (.aload_n 0, 1) := by decide +kernel
theorem d_World_forgetReached_6 : decode prog_8_method_18_code 6 = .ok (.iconst 0, 1) := by decide +kernel
theorem d_World_forgetReached_7 : decode prog_8_method_18_code 7 = .ok (.putfield 88, 3) := by decide +kernel
theorem d_World_forgetReached_10 : decode prog_8_method_18_code 10 = .ok (.return_, 1) := by decide +kernel
theorem d_World_gather_0 : decode prog_8_method_9_code 0 = .ok (.iload_n 2, 1) := by decide +kernel
theorem d_World_gather_1 : decode prog_8_method_9_code 1 = .ok (.istore_n 3, 1) := by decide +kernel
theorem d_World_gather_2 : decode prog_8_method_9_code 2 = .ok (.aload_n 0, 1) := by decide +kernel
theorem d_World_gather_3 : decode prog_8_method_9_code 3 = .ok (.getfield 22, 3) := by decide +kernel
theorem d_World_gather_6 : decode prog_8_method_9_code 6 = .ok (.iload_n 1, 1) := by decide +kernel
theorem d_World_gather_7 : decode prog_8_method_9_code 7 = .ok (.iaload, 1) := by decide +kernel
theorem d_World_gather_8 : decode prog_8_method_9_code 8 = .ok (.iconst 1, 1) := by decide +kernel
theorem d_World_gather_9 : decode prog_8_method_9_code 9 = .ok (.isub, 1) := by decide +kernel
theorem d_World_gather_10 : decode prog_8_method_9_code 10 = .ok (.istore 4, 2) := by decide +kernel
theorem d_World_gather_12 : decode prog_8_method_9_code 12 = .ok (.iload 4, 2) := by decide +kernel
theorem d_World_gather_14 : decode prog_8_method_9_code 14 = .ok (.ifCond .lt 60, 3) := by decide +kernel
theorem d_World_gather_17 : decode prog_8_method_9_code 17 = .ok (.aload_n 0, 1) := by decide +kernel
theorem d_World_gather_18 : decode prog_8_method_9_code 18 = .ok (.getfield 18, 3) := by decide +kernel
theorem d_World_gather_21 : decode prog_8_method_9_code 21 = .ok (.iload_n 1, 1) := by decide +kernel
theorem d_World_gather_22 : decode prog_8_method_9_code 22 = .ok (.bipush 16, 2) := by decide +kernel
theorem d_World_gather_24 : decode prog_8_method_9_code 24 = .ok (.imul, 1) := by decide +kernel
theorem d_World_gather_25 : decode prog_8_method_9_code 25 = .ok (.iload 4, 2) := by decide +kernel
theorem d_World_gather_27 : decode prog_8_method_9_code 27 = .ok (.iadd, 1) := by decide +kernel
theorem d_World_gather_28 : decode prog_8_method_9_code 28 = .ok (.iaload, 1) := by decide +kernel
theorem d_World_gather_29 : decode prog_8_method_9_code 29 = .ok (.istore 5, 2) := by decide +kernel
theorem d_World_gather_31 : decode prog_8_method_9_code 31 = .ok (.iload_n 3, 1) := by decide +kernel
theorem d_World_gather_32 : decode prog_8_method_9_code 32 = .ok (.iload 5, 2) := by decide +kernel
theorem d_World_gather_34 : decode prog_8_method_9_code 34 = .ok (.iushr, 1) := by decide +kernel
theorem d_World_gather_35 : decode prog_8_method_9_code 35 = .ok (.iconst 1, 1) := by decide +kernel
theorem d_World_gather_36 : decode prog_8_method_9_code 36 = .ok (.iand, 1) := by decide +kernel
theorem d_World_gather_37 : decode prog_8_method_9_code 37 = .ok (.ifCond .ne 31, 3) := by decide +kernel
theorem d_World_gather_40 : decode prog_8_method_9_code 40 = .ok (.iload_n 3, 1) := by decide +kernel
theorem d_World_gather_41 : decode prog_8_method_9_code 41 = .ok (.iconst 1, 1) := by decide +kernel
theorem d_World_gather_42 : decode prog_8_method_9_code 42 = .ok (.iload 5, 2) := by decide +kernel
theorem d_World_gather_44 : decode prog_8_method_9_code 44 = .ok (.ishl, 1) := by decide +kernel
theorem d_World_gather_45 : decode prog_8_method_9_code 45 = .ok (.ior, 1) := by decide +kernel
theorem d_World_gather_46 : decode prog_8_method_9_code 46 = .ok (.istore_n 3, 1) := by decide +kernel
theorem d_World_gather_47 : decode prog_8_method_9_code 47 = .ok (.aload_n 0, 1) := by decide +kernel
theorem d_World_gather_48 : decode prog_8_method_9_code 48 = .ok (.getfield 25, 3) := by decide +kernel
theorem d_World_gather_51 : decode prog_8_method_9_code 51 = .ok (.aload_n 0, 1) := by decide +kernel
theorem d_World_gather_52 : decode prog_8_method_9_code 52 = .ok (.getfield 48, 3) := by decide +kernel
theorem d_World_gather_55 : decode prog_8_method_9_code 55 = .ok (.iload 5, 2) := by decide +kernel
theorem d_World_gather_57 : decode prog_8_method_9_code 57 = .ok (.iastore, 1) := by decide +kernel
theorem d_World_gather_58 : decode prog_8_method_9_code 58 = .ok (.aload_n 0, 1) := by decide +kernel
theorem d_World_gather_59 : decode prog_8_method_9_code 59 = .ok (.dup, 1) := by decide +kernel
theorem d_World_gather_60 : decode prog_8_method_9_code 60 = .ok (.getfield 48, 3) := by decide +kernel
theorem d_World_gather_63 : decode prog_8_method_9_code 63 = .ok (.iconst 1, 1) := by decide +kernel
theorem d_World_gather_64 : decode prog_8_method_9_code 64 = .ok (.iadd, 1) := by decide +kernel
theorem d_World_gather_65 : decode prog_8_method_9_code 65 = .ok (.putfield 48, 3) := by decide +kernel
theorem d_World_gather_68 : decode prog_8_method_9_code 68 = .ok (.iinc 4 (-1), 3) := by decide +kernel
theorem d_World_gather_71 : decode prog_8_method_9_code 71 = .ok (.goto (-59), 3) := by decide +kernel
theorem d_World_gather_74 : decode prog_8_method_9_code 74 = .ok (.iload_n 3, 1) := by decide +kernel
theorem d_World_gather_75 : decode prog_8_method_9_code 75 = .ok (.ireturn, 1) := by decide +kernel
theorem d_World_holder_0 : decode prog_8_method_15_code 0 = .ok (.aload_n 0, 1) := by decide +kernel
theorem d_World_holder_1 : decode prog_8_method_15_code 1 = .ok (.iload_n 1, 1) := by decide +kernel
theorem d_World_holder_2 : decode prog_8_method_15_code 2 = .ok (.invokevirtual 72, 3) := by decide +kernel
theorem d_World_holder_5 : decode prog_8_method_15_code 5 = .ok (.aload_n 0, 1) := by decide +kernel
theorem d_World_holder_6 : decode prog_8_method_15_code 6 = .ok (.iconst 0, 1) := by decide +kernel
theorem d_World_holder_7 : decode prog_8_method_15_code 7 = .ok (.iload_n 2, 1) := by decide +kernel
theorem d_World_holder_8 : decode prog_8_method_15_code 8 = .ok (.invokevirtual 75, 3) := by decide +kernel
theorem d_World_holder_11 : decode prog_8_method_15_code 11 = .ok (.ireturn, 1) := by decide +kernel
theorem d_World_holderBehind_0 : decode prog_8_method_16_code 0 = .ok (.aload_n 0, 1) := by decide +kernel
theorem d_World_holderBehind_1 : decode prog_8_method_16_code 1 = .ok (.iload_n 2, 1) := by decide +kernel
theorem d_World_holderBehind_2 : decode prog_8_method_16_code 2 = .ok (.invokevirtual 72, 3) := by decide +kernel
theorem d_World_holderBehind_5 : decode prog_8_method_16_code 5 = .ok (.aload_n 0, 1) := by decide +kernel
theorem d_World_holderBehind_6 : decode prog_8_method_16_code 6 = .ok (.iload_n 1, 1) := by decide +kernel
theorem d_World_holderBehind_7 : decode prog_8_method_16_code 7 = .ok (.invokevirtual 78, 3) := by decide +kernel
theorem d_World_holderBehind_10 : decode prog_8_method_16_code 10 = .ok (.istore 4, 2) := by decide +kernel
theorem d_World_holderBehind_12 : decode prog_8_method_16_code 12 = .ok (.iload 4, 2) := by decide +kernel
theorem d_World_holderBehind_14 : decode prog_8_method_16_code 14 = .ok (.iconst (-1), 1) := by decide +kernel
theorem d_World_holderBehind_15 : decode prog_8_method_16_code 15 = .ok (.if_icmp .ne 7, 3) := by decide +kernel
theorem d_World_holderBehind_18 : decode prog_8_method_16_code 18 = .ok (.iconst (-1), 1) := by decide +kernel
theorem d_World_holderBehind_19 : decode prog_8_method_16_code 19 = .ok (.goto 12, 3) := by decide +kernel
theorem d_World_holderBehind_22 : decode prog_8_method_16_code 22 = .ok (.aload_n 0, 1) := by decide +kernel
theorem d_World_holderBehind_23 : decode prog_8_method_16_code 23 = .ok (.iload 4, 2) := by decide +kernel
theorem d_World_holderBehind_25 : decode prog_8_method_16_code 25 = .ok (.iconst 1, 1) := by decide +kernel
theorem d_World_holderBehind_26 : decode prog_8_method_16_code 26 = .ok (.iadd, 1) := by decide +kernel
theorem d_World_holderBehind_27 : decode prog_8_method_16_code 27 = .ok (.iload_n 3, 1) := by decide +kernel
theorem d_World_holderBehind_28 : decode prog_8_method_16_code 28 = .ok (.invokevirtual 75, 3) := by decide +kernel
theorem d_World_holderBehind_31 : decode prog_8_method_16_code 31 = .ok (.ireturn, 1) := by decide +kernel
theorem d_World_holderFrom_0 : decode prog_8_method_14_code 0 = .ok (.iload_n 1, 1) := by decide +kernel
theorem d_World_holderFrom_1 : decode prog_8_method_14_code 1 = .ok (.istore_n 3, 1) := by decide +kernel
theorem d_World_holderFrom_2 : decode prog_8_method_14_code 2 = .ok (.iload_n 3, 1) := by decide +kernel
theorem d_World_holderFrom_3 : decode prog_8_method_14_code 3 = .ok (.aload_n 0, 1) := by decide +kernel
theorem d_World_holderFrom_4 : decode prog_8_method_14_code 4 = .ok (.getfield 48, 3) := by decide +kernel
theorem d_World_holderFrom_7 : decode prog_8_method_14_code 7 = .ok (.if_icmp .ge 31, 3) := by decide +kernel
theorem d_World_holderFrom_10 : decode prog_8_method_14_code 10 = .ok (.aload_n 0, 1) := by decide +kernel
theorem d_World_holderFrom_11 : decode prog_8_method_14_code 11 = .ok (.aload_n 0, 1) := by decide +kernel
theorem d_World_holderFrom_12 : decode prog_8_method_14_code 12 = .ok (.getfield 25, 3) := by decide +kernel
theorem d_World_holderFrom_15 : decode prog_8_method_14_code 15 = .ok (.iload_n 3, 1) := by decide +kernel
theorem d_World_holderFrom_16 : decode prog_8_method_14_code 16 = .ok (.iaload, 1) := by decide +kernel
theorem d_World_holderFrom_17 : decode prog_8_method_14_code 17 = .ok (.iload_n 2, 1) := by decide +kernel
theorem d_World_holderFrom_18 : decode prog_8_method_14_code 18 = .ok (.invokevirtual 69, 3) := by decide +kernel
theorem d_World_holderFrom_21 : decode prog_8_method_14_code 21 = .ok (.iconst (-1), 1) := by decide +kernel
theorem d_World_holderFrom_22 : decode prog_8_method_14_code 22 = .ok (.if_icmp .eq 10, 3) := by decide +kernel
theorem d_World_holderFrom_25 : decode prog_8_method_14_code 25 = .ok (.aload_n 0, 1) := by decide +kernel
theorem d_World_holderFrom_26 : decode prog_8_method_14_code 26 = .ok (.getfield 25, 3) := by decide +kernel
theorem d_World_holderFrom_29 : decode prog_8_method_14_code 29 = .ok (.iload_n 3, 1) := by decide +kernel
theorem d_World_holderFrom_30 : decode prog_8_method_14_code 30 = .ok (.iaload, 1) := by decide +kernel
theorem d_World_holderFrom_31 : decode prog_8_method_14_code 31 = .ok (.ireturn, 1) := by decide +kernel
theorem d_World_holderFrom_32 : decode prog_8_method_14_code 32 = .ok (.iinc 3 1, 3) := by decide +kernel
theorem d_World_holderFrom_35 : decode prog_8_method_14_code 35 = .ok (.goto (-33), 3) := by decide +kernel
theorem d_World_holderFrom_38 : decode prog_8_method_14_code 38 = .ok (.iconst (-1), 1) := by decide +kernel
theorem d_World_holderFrom_39 : decode prog_8_method_14_code 39 = .ok (.ireturn, 1) := by decide +kernel
theorem d_World_inLine_0 : decode prog_8_method_13_code 0 = .ok (.iconst 0, 1) := by decide +kernel
theorem d_World_inLine_1 : decode prog_8_method_13_code 1 = .ok (.istore_n 2, 1) := by decide +kernel
theorem d_World_inLine_2 : decode prog_8_method_13_code 2 = .ok (.iload_n 2, 1) := by decide +kernel
theorem d_World_inLine_3 : decode prog_8_method_13_code 3 = .ok (.aload_n 0, 1) := by decide +kernel
theorem d_World_inLine_4 : decode prog_8_method_13_code 4 = .ok (.getfield 48, 3) := by decide +kernel
theorem d_World_inLine_7 : decode prog_8_method_13_code 7 = .ok (.if_icmp .ge 21, 3) := by decide +kernel
theorem d_World_inLine_10 : decode prog_8_method_13_code 10 = .ok (.aload_n 0, 1) := by decide +kernel
theorem d_World_inLine_11 : decode prog_8_method_13_code 11 = .ok (.getfield 25, 3) := by decide +kernel
theorem d_World_inLine_14 : decode prog_8_method_13_code 14 = .ok (.iload_n 2, 1) := by decide +kernel
theorem d_World_inLine_15 : decode prog_8_method_13_code 15 = .ok (.iaload, 1) := by decide +kernel
theorem d_World_inLine_16 : decode prog_8_method_13_code 16 = .ok (.iload_n 1, 1) := by decide +kernel
theorem d_World_inLine_17 : decode prog_8_method_13_code 17 = .ok (.if_icmp .ne 5, 3) := by decide +kernel
theorem d_World_inLine_20 : decode prog_8_method_13_code 20 = .ok (.iload_n 2, 1) := by decide +kernel
theorem d_World_inLine_21 : decode prog_8_method_13_code 21 = .ok (.ireturn, 1) := by decide +kernel
theorem d_World_inLine_22 : decode prog_8_method_13_code 22 = .ok (.iinc 2 1, 3) := by decide +kernel
theorem d_World_inLine_25 : decode prog_8_method_13_code 25 = .ok (.goto (-23), 3) := by decide +kernel
theorem d_World_inLine_28 : decode prog_8_method_13_code 28 = .ok (.iconst (-1), 1) := by decide +kernel
theorem d_World_inLine_29 : decode prog_8_method_13_code 29 = .ok (.ireturn, 1) := by decide +kernel
theorem d_World_isFixed_0 : decode prog_8_method_2_code 0 = .ok (.iload_n 1, 1) := by decide +kernel
theorem d_World_isFixed_1 : decode prog_8_method_2_code 1 = .ok (.ifCond .lt 15, 3) := by decide +kernel
theorem d_World_isFixed_4 : decode prog_8_method_2_code 4 = .ok (.iload_n 1, 1) := by decide +kernel
theorem d_World_isFixed_5 : decode prog_8_method_2_code 5 = .ok (.aload_n 0, 1) := by decide +kernel
theorem d_World_isFixed_6 : decode prog_8_method_2_code 6 = .ok (.getfield 31, 3) := by decide +kernel
theorem d_World_isFixed_9 : decode prog_8_method_2_code 9 = .ok (.if_icmp .ge 7, 3) := by decide +kernel
theorem d_World_isFixed_12 : decode prog_8_method_2_code 12 = .ok (.iconst 1, 1) := by decide +kernel
theorem d_World_isFixed_13 : decode prog_8_method_2_code 13 = .ok (.goto 4, 3) := by decide +kernel
theorem d_World_isFixed_16 : decode prog_8_method_2_code 16 = .ok (.iconst 0, 1) := by decide +kernel
theorem d_World_isFixed_17 : decode prog_8_method_2_code 17 = .ok (.ireturn, 1) := by decide +kernel
theorem d_World_isThere_0 : decode prog_8_method_3_code 0 = .ok (.aload_n 0, 1) := by decide +kernel
theorem d_World_isThere_1 : decode prog_8_method_3_code 1 = .ok (.iload_n 1, 1) := by decide +kernel
theorem d_World_isThere_2 : decode prog_8_method_3_code 2 = .ok (.invokevirtual 35, 3) := by decide +kernel
theorem d_World_isThere_5 : decode prog_8_method_3_code 5 = .ok (.ifCond .ne 31, 3) := by decide +kernel
theorem d_World_isThere_8 : decode prog_8_method_3_code 8 = .ok (.iload_n 1, 1) := by decide +kernel
theorem d_World_isThere_9 : decode prog_8_method_3_code 9 = .ok (.bipush 16, 2) := by decide +kernel
theorem d_World_isThere_11 : decode prog_8_method_3_code 11 = .ok (.if_icmp .lt 29, 3) := by decide +kernel
theorem d_World_isThere_14 : decode prog_8_method_3_code 14 = .ok (.iload_n 1, 1) := by decide +kernel
theorem d_World_isThere_15 : decode prog_8_method_3_code 15 = .ok (.bipush 32, 2) := by decide +kernel
theorem d_World_isThere_17 : decode prog_8_method_3_code 17 = .ok (.if_icmp .ge 23, 3) := by decide +kernel
theorem d_World_isThere_20 : decode prog_8_method_3_code 20 = .ok (.aload_n 0, 1) := by decide +kernel
theorem d_World_isThere_21 : decode prog_8_method_3_code 21 = .ok (.getfield 12, 3) := by decide +kernel
theorem d_World_isThere_24 : decode prog_8_method_3_code 24 = .ok (.getfield 39, 3) := by decide +kernel
theorem d_World_isThere_27 : decode prog_8_method_3_code 27 = .ok (.iload_n 1, 1) := by decide +kernel
theorem d_World_isThere_28 : decode prog_8_method_3_code 28 = .ok (.bipush 16, 2) := by decide +kernel
theorem d_World_isThere_30 : decode prog_8_method_3_code 30 = .ok (.isub, 1) := by decide +kernel
theorem d_World_isThere_31 : decode prog_8_method_3_code 31 = .ok (.iaload, 1) := by decide +kernel
theorem d_World_isThere_32 : decode prog_8_method_3_code 32 = .ok (.iconst (-1), 1) := by decide +kernel
theorem d_World_isThere_33 : decode prog_8_method_3_code 33 = .ok (.if_icmp .eq 7, 3) := by decide +kernel
theorem d_World_isThere_36 : decode prog_8_method_3_code 36 = .ok (.iconst 1, 1) := by decide +kernel
theorem d_World_isThere_37 : decode prog_8_method_3_code 37 = .ok (.goto 4, 3) := by decide +kernel
theorem d_World_isThere_40 : decode prog_8_method_3_code 40 = .ok (.iconst 0, 1) := by decide +kernel
theorem d_World_isThere_41 : decode prog_8_method_3_code 41 = .ok (.ireturn, 1) := by decide +kernel
theorem d_World_lay_0 : decode prog_8_method_12_code 0 = .ok (.aload_n 0, 1) := by decide +kernel
theorem d_World_lay_1 : decode prog_8_method_12_code 1 = .ok (.iconst 0, 1) := by decide +kernel
theorem d_World_lay_2 : decode prog_8_method_12_code 2 = .ok (.putfield 48, 3) := by decide +kernel
theorem d_World_lay_5 : decode prog_8_method_12_code 5 = .ok (.iload_n 1, 1) := by decide +kernel
theorem d_World_lay_6 : decode prog_8_method_12_code 6 = .ok (.istore_n 2, 1) := by decide +kernel
theorem d_World_lay_7 : decode prog_8_method_12_code 7 = .ok (.iload_n 2, 1) := by decide +kernel
theorem d_World_lay_8 : decode prog_8_method_12_code 8 = .ok (.bipush 16, 2) := by decide +kernel
theorem d_World_lay_10 : decode prog_8_method_12_code 10 = .ok (.if_icmp .lt 48, 3) := by decide +kernel
theorem d_World_lay_13 : decode prog_8_method_12_code 13 = .ok (.aload_n 0, 1) := by decide +kernel
theorem d_World_lay_14 : decode prog_8_method_12_code 14 = .ok (.getfield 48, 3) := by decide +kernel
theorem d_World_lay_17 : decode prog_8_method_12_code 17 = .ok (.bipush 16, 2) := by decide +kernel
theorem d_World_lay_19 : decode prog_8_method_12_code 19 = .ok (.if_icmp .ge 39, 3) := by decide +kernel
theorem d_World_lay_22 : decode prog_8_method_12_code 22 = .ok (.aload_n 0, 1) := by decide +kernel
theorem d_World_lay_23 : decode prog_8_method_12_code 23 = .ok (.getfield 25, 3) := by decide +kernel
theorem d_World_lay_26 : decode prog_8_method_12_code 26 = .ok (.aload_n 0, 1) := by decide +kernel
theorem d_World_lay_27 : decode prog_8_method_12_code 27 = .ok (.getfield 48, 3) := by decide +kernel
theorem d_World_lay_30 : decode prog_8_method_12_code 30 = .ok (.iload_n 2, 1) := by decide +kernel
theorem d_World_lay_31 : decode prog_8_method_12_code 31 = .ok (.iastore, 1) := by decide +kernel
theorem d_World_lay_32 : decode prog_8_method_12_code 32 = .ok (.aload_n 0, 1) := by decide +kernel
theorem d_World_lay_33 : decode prog_8_method_12_code 33 = .ok (.dup, 1) := by decide +kernel
theorem d_World_lay_34 : decode prog_8_method_12_code 34 = .ok (.getfield 48, 3) := by decide +kernel
theorem d_World_lay_37 : decode prog_8_method_12_code 37 = .ok (.iconst 1, 1) := by decide +kernel
theorem d_World_lay_38 : decode prog_8_method_12_code 38 = .ok (.iadd, 1) := by decide +kernel
theorem d_World_lay_39 : decode prog_8_method_12_code 39 = .ok (.putfield 48, 3) := by decide +kernel
theorem d_World_lay_42 : decode prog_8_method_12_code 42 = .ok (.aload_n 0, 1) := by decide +kernel
theorem d_World_lay_43 : decode prog_8_method_12_code 43 = .ok (.getfield 12, 3) := by decide +kernel
theorem d_World_lay_46 : decode prog_8_method_12_code 46 = .ok (.getfield 39, 3) := by decide +kernel
theorem d_World_lay_49 : decode prog_8_method_12_code 49 = .ok (.iload_n 2, 1) := by decide +kernel
theorem d_World_lay_50 : decode prog_8_method_12_code 50 = .ok (.bipush 16, 2) := by decide +kernel
theorem d_World_lay_52 : decode prog_8_method_12_code 52 = .ok (.isub, 1) := by decide +kernel
theorem d_World_lay_53 : decode prog_8_method_12_code 53 = .ok (.iaload, 1) := by decide +kernel
theorem d_World_lay_54 : decode prog_8_method_12_code 54 = .ok (.istore_n 2, 1) := by decide +kernel
theorem d_World_lay_55 : decode prog_8_method_12_code 55 = .ok (.goto (-48), 3) := by decide +kernel
theorem d_World_lay_58 : decode prog_8_method_12_code 58 = .ok (.aload_n 0, 1) := by decide +kernel
theorem d_World_lay_59 : decode prog_8_method_12_code 59 = .ok (.iload_n 2, 1) := by decide +kernel
theorem d_World_lay_60 : decode prog_8_method_12_code 60 = .ok (.invokevirtual 35, 3) := by decide +kernel
theorem d_World_lay_63 : decode prog_8_method_12_code 63 = .ok (.ifCond .eq 43, 3) := by decide +kernel
theorem d_World_lay_66 : decode prog_8_method_12_code 66 = .ok (.aload_n 0, 1) := by decide +kernel
theorem d_World_lay_67 : decode prog_8_method_12_code 67 = .ok (.getfield 18, 3) := by decide +kernel
theorem d_World_lay_70 : decode prog_8_method_12_code 70 = .ok (.iload_n 2, 1) := by decide +kernel
theorem d_World_lay_71 : decode prog_8_method_12_code 71 = .ok (.bipush 16, 2) := by decide +kernel
theorem d_World_lay_73 : decode prog_8_method_12_code 73 = .ok (.imul, 1) := by decide +kernel
theorem d_World_lay_74 : decode prog_8_method_12_code 74 = .ok (.aload_n 0, 1) := by decide +kernel
theorem d_World_lay_75 : decode prog_8_method_12_code 75 = .ok (.getfield 25, 3) := by decide +kernel
theorem d_World_lay_78 : decode prog_8_method_12_code 78 = .ok (.aload_n 0, 1) := by decide +kernel
theorem d_World_lay_79 : decode prog_8_method_12_code 79 = .ok (.getfield 48, 3) := by decide +kernel
theorem d_World_lay_82 : decode prog_8_method_12_code 82 = .ok (.aload_n 0, 1) := by decide +kernel
theorem d_World_lay_83 : decode prog_8_method_12_code 83 = .ok (.getfield 22, 3) := by decide +kernel
theorem d_World_lay_86 : decode prog_8_method_12_code 86 = .ok (.iload_n 2, 1) := by decide +kernel
theorem d_World_lay_87 : decode prog_8_method_12_code 87 = .ok (.iaload, 1) := by decide +kernel
theorem d_World_lay_88 : decode prog_8_method_12_code 88 = .ok (.invokestatic 63, 3) := by decide +kernel
theorem d_World_lay_91 : decode prog_8_method_12_code 91 = .ok (.aload_n 0, 1) := by decide +kernel
theorem d_World_lay_92 : decode prog_8_method_12_code 92 = .ok (.dup, 1) := by decide +kernel
theorem d_World_lay_93 : decode prog_8_method_12_code 93 = .ok (.getfield 48, 3) := by decide +kernel
theorem d_World_lay_96 : decode prog_8_method_12_code 96 = .ok (.aload_n 0, 1) := by decide +kernel
theorem d_World_lay_97 : decode prog_8_method_12_code 97 = .ok (.getfield 22, 3) := by decide +kernel
theorem d_World_lay_100 : decode prog_8_method_12_code 100 = .ok (.iload_n 2, 1) := by decide +kernel
theorem d_World_lay_101 : decode prog_8_method_12_code 101 = .ok (.iaload, 1) := by decide +kernel
theorem d_World_lay_102 : decode prog_8_method_12_code 102 = .ok (.iadd, 1) := by decide +kernel
theorem d_World_lay_103 : decode prog_8_method_12_code 103 = .ok (.putfield 48, 3) := by decide +kernel
theorem d_World_lay_106 : decode prog_8_method_12_code 106 = .ok (.return_, 1) := by decide +kernel
theorem d_World_make_0 : decode prog_8_method_10_code 0 = .ok (.iconst 0, 1) := by decide +kernel
theorem d_World_make_1 : decode prog_8_method_10_code 1 = .ok (.istore_n 2, 1) := by decide +kernel
theorem d_World_make_2 : decode prog_8_method_10_code 2 = .ok (.iload_n 2, 1) := by decide +kernel
theorem d_World_make_3 : decode prog_8_method_10_code 3 = .ok (.bipush 16, 2) := by decide +kernel
theorem d_World_make_5 : decode prog_8_method_10_code 5 = .ok (.if_icmp .ge 45, 3) := by decide +kernel
theorem d_World_make_8 : decode prog_8_method_10_code 8 = .ok (.aload_n 0, 1) := by decide +kernel
theorem d_World_make_9 : decode prog_8_method_10_code 9 = .ok (.getfield 12, 3) := by decide +kernel
theorem d_World_make_12 : decode prog_8_method_10_code 12 = .ok (.getfield 39, 3) := by decide +kernel
theorem d_World_make_15 : decode prog_8_method_10_code 15 = .ok (.iload_n 2, 1) := by decide +kernel
theorem d_World_make_16 : decode prog_8_method_10_code 16 = .ok (.iaload, 1) := by decide +kernel
theorem d_World_make_17 : decode prog_8_method_10_code 17 = .ok (.iconst (-1), 1) := by decide +kernel
theorem d_World_make_18 : decode prog_8_method_10_code 18 = .ok (.if_icmp .ne 26, 3) := by decide +kernel
theorem d_World_make_21 : decode prog_8_method_10_code 21 = .ok (.aload_n 0, 1) := by decide +kernel
theorem d_World_make_22 : decode prog_8_method_10_code 22 = .ok (.getfield 12, 3) := by decide +kernel
theorem d_World_make_25 : decode prog_8_method_10_code 25 = .ok (.getfield 39, 3) := by decide +kernel
theorem d_World_make_28 : decode prog_8_method_10_code 28 = .ok (.iload_n 2, 1) := by decide +kernel
theorem d_World_make_29 : decode prog_8_method_10_code 29 = .ok (.iload_n 1, 1) := by decide +kernel
theorem d_World_make_30 : decode prog_8_method_10_code 30 = .ok (.iastore, 1) := by decide +kernel
theorem d_World_make_31 : decode prog_8_method_10_code 31 = .ok (.aload_n 0, 1) := by decide +kernel
theorem d_World_make_32 : decode prog_8_method_10_code 32 = .ok (.bipush 16, 2) := by decide +kernel
theorem d_World_make_34 : decode prog_8_method_10_code 34 = .ok (.iload_n 2, 1) := by decide +kernel
theorem d_World_make_35 : decode prog_8_method_10_code 35 = .ok (.iadd, 1) := by decide +kernel
theorem d_World_make_36 : decode prog_8_method_10_code 36 = .ok (.invokevirtual 55, 3) := by decide +kernel
theorem d_World_make_39 : decode prog_8_method_10_code 39 = .ok (.bipush 16, 2) := by decide +kernel
theorem d_World_make_41 : decode prog_8_method_10_code 41 = .ok (.iload_n 2, 1) := by decide +kernel
theorem d_World_make_42 : decode prog_8_method_10_code 42 = .ok (.iadd, 1) := by decide +kernel
theorem d_World_make_43 : decode prog_8_method_10_code 43 = .ok (.ireturn, 1) := by decide +kernel
theorem d_World_make_44 : decode prog_8_method_10_code 44 = .ok (.iinc 2 1, 3) := by decide +kernel
theorem d_World_make_47 : decode prog_8_method_10_code 47 = .ok (.goto (-45), 3) := by decide +kernel
theorem d_World_make_50 : decode prog_8_method_10_code 50 = .ok (.iconst (-1), 1) := by decide +kernel
theorem d_World_make_51 : decode prog_8_method_10_code 51 = .ok (.ireturn, 1) := by decide +kernel
theorem d_World_ownInt_0 : decode prog_8_method_6_code 0 = .ok (.aload_n 0, 1) := by decide +kernel
theorem d_World_ownInt_1 : decode prog_8_method_6_code 1 = .ok (.getfield 12, 3) := by decide +kernel
theorem d_World_ownInt_4 : decode prog_8_method_6_code 4 = .ok (.getfield 45, 3) := by decide +kernel
theorem d_World_ownInt_7 : decode prog_8_method_6_code 7 = .ok (.iload_n 1, 1) := by decide +kernel
theorem d_World_ownInt_8 : decode prog_8_method_6_code 8 = .ok (.bipush 8, 2) := by decide +kernel
theorem d_World_ownInt_10 : decode prog_8_method_6_code 10 = .ok (.imul, 1) := by decide +kernel
theorem d_World_ownInt_11 : decode prog_8_method_6_code 11 = .ok (.iload_n 2, 1) := by decide +kernel
theorem d_World_ownInt_12 : decode prog_8_method_6_code 12 = .ok (.iadd, 1) := by decide +kernel
theorem d_World_ownInt_13 : decode prog_8_method_6_code 13 = .ok (.iaload, 1) := by decide +kernel
theorem d_World_ownInt_14 : decode prog_8_method_6_code 14 = .ok (.ireturn, 1) := by decide +kernel
theorem d_World_ownKind_0 : decode prog_8_method_5_code 0 = .ok (.aload_n 0, 1) := by decide +kernel
theorem d_World_ownKind_1 : decode prog_8_method_5_code 1 = .ok (.getfield 12, 3) := by decide +kernel
theorem d_World_ownKind_4 : decode prog_8_method_5_code 4 = .ok (.getfield 42, 3) := by decide +kernel
theorem d_World_ownKind_7 : decode prog_8_method_5_code 7 = .ok (.iload_n 1, 1) := by decide +kernel
theorem d_World_ownKind_8 : decode prog_8_method_5_code 8 = .ok (.bipush 8, 2) := by decide +kernel
theorem d_World_ownKind_10 : decode prog_8_method_5_code 10 = .ok (.imul, 1) := by decide +kernel
theorem d_World_ownKind_11 : decode prog_8_method_5_code 11 = .ok (.iload_n 2, 1) := by decide +kernel
theorem d_World_ownKind_12 : decode prog_8_method_5_code 12 = .ok (.iadd, 1) := by decide +kernel
theorem d_World_ownKind_13 : decode prog_8_method_5_code 13 = .ok (.iaload, 1) := by decide +kernel
theorem d_World_ownKind_14 : decode prog_8_method_5_code 14 = .ok (.ireturn, 1) := by decide +kernel
theorem d_World_reach_0 : decode prog_8_method_19_code 0 = .ok (.aload_n 0, 1) := by decide +kernel
theorem d_World_reach_1 : decode prog_8_method_19_code 1 = .ok (.iload_n 1, 1) := by decide +kernel
theorem d_World_reach_2 : decode prog_8_method_19_code 2 = .ok (.invokevirtual 82, 3) := by decide +kernel
theorem d_World_reach_5 : decode prog_8_method_19_code 5 = .ok (.ifCond .eq 46, 3) := by decide +kernel
theorem d_World_reach_8 : decode prog_8_method_19_code 8 = .ok (.aload_n 0, 1) := by decide +kernel
theorem d_World_reach_9 : decode prog_8_method_19_code 9 = .ok (.getfield 88, 3) := by decide +kernel
theorem d_World_reach_12 : decode prog_8_method_19_code 12 = .ok (.iload_n 1, 1) := by decide +kernel
theorem d_World_reach_13 : decode prog_8_method_19_code 13 = .ok (.iushr, 1) := by decide +kernel
theorem d_World_reach_14 : decode prog_8_method_19_code 14 = .ok (.iconst 1, 1) := by decide +kernel
theorem d_World_reach_15 : decode prog_8_method_19_code 15 = .ok (.iand, 1) := by decide +kernel
theorem d_World_reach_16 : decode prog_8_method_19_code 16 = .ok (.ifCond .ne 35, 3) := by decide +kernel
theorem d_World_reach_19 : decode prog_8_method_19_code 19 = .ok (.aload_n 0, 1) := by decide +kernel
theorem d_World_reach_20 : decode prog_8_method_19_code 20 = .ok (.dup, 1) := by decide +kernel
theorem d_World_reach_21 : decode prog_8_method_19_code 21 = .ok (.getfield 88, 3) := by decide +kernel
theorem d_World_reach_24 : decode prog_8_method_19_code 24 = .ok (.iconst 1, 1) := by decide +kernel
theorem d_World_reach_25 : decode prog_8_method_19_code 25 = .ok (.iload_n 1, 1) := by decide +kernel
theorem d_World_reach_26 : decode prog_8_method_19_code 26 = .ok (.ishl, 1) := by decide +kernel
theorem d_World_reach_27 : decode prog_8_method_19_code 27 = .ok (.ior, 1) := by decide +kernel
theorem d_World_reach_28 : decode prog_8_method_19_code 28 = .ok (.putfield 88, 3) := by decide +kernel
theorem d_World_reach_31 : decode prog_8_method_19_code 31 = .ok (.aload_n 0, 1) := by decide +kernel
theorem d_World_reach_32 : decode prog_8_method_19_code 32 = .ok (.getfield 28, 3) := by decide +kernel
theorem d_World_reach_35 : decode prog_8_method_19_code 35 = .ok (.aload_n 0, 1) := by decide +kernel
theorem d_World_reach_36 : decode prog_8_method_19_code 36 = .ok (.getfield 85, 3) := by decide +kernel
theorem d_World_reach_39 : decode prog_8_method_19_code 39 = .ok (.iload_n 1, 1) := by decide +kernel
theorem d_World_reach_40 : decode prog_8_method_19_code 40 = .ok (.iastore, 1) := by decide +kernel
theorem d_World_reach_41 : decode prog_8_method_19_code 41 = .ok (.aload_n 0, 1) := by decide +kernel
theorem d_World_reach_42 : decode prog_8_method_19_code 42 = .ok (.dup, 1) := by decide +kernel
theorem d_World_reach_43 : decode prog_8_method_19_code 43 = .ok (.getfield 85, 3) := by decide +kernel
