theorem d_Model_outside_0 : decode prog_10_method_4_code 0 = .ok (.iload_n 0, 1) := by decide +kernel
theorem d_Model_outside_1 : decode prog_10_method_4_code 1 = .ok (.iload_n 1, 1) := by decide +kernel
theorem d_Model_outside_2 : decode prog_10_method_4_code 2 = .ok (.if_icmp .lt 8, 3) := by decide +kernel
theorem d_Model_outside_10 : decode prog_10_method_4_code 10 = .ok (.iconst 1, 1) := by decide +kernel
theorem d_Model_outside_11 : decode prog_10_method_4_code 11 = .ok (.goto 4, 3) := by decide +kernel
theorem d_Model_outside_15 : decode prog_10_method_4_code 15 = .ok (.ireturn, 1) := by decide +kernel
theorem d_Model_outside_5 : decode prog_10_method_4_code 5 = .ok (.iload_n 0, 1) := by decide +kernel
theorem d_Model_outside_6 : decode prog_10_method_4_code 6 = .ok (.iload_n 2, 1) := by decide +kernel
theorem d_Model_outside_7 : decode prog_10_method_4_code 7 = .ok (.if_icmp .le 7, 3) := by decide +kernel
theorem d_Model_outside_14 : decode prog_10_method_4_code 14 = .ok (.iconst 0, 1) := by decide +kernel
theorem d_Model_refuse_0 : decode prog_10_method_3_code 0 = .ok (.aload_n 0, 1) := by decide +kernel
theorem d_Model_refuse_1 : decode prog_10_method_3_code 1 = .ok (.iload_n 1, 1) := by decide +kernel
theorem d_Model_refuse_2 : decode prog_10_method_3_code 2 = .ok (.putfield 75, 3) := by decide +kernel
theorem d_Model_refuse_5 : decode prog_10_method_3_code 5 = .ok (.iconst 0, 1) := by decide +kernel
theorem d_Model_refuse_6 : decode prog_10_method_3_code 6 = .ok (.ireturn, 1) := by decide +kernel
theorem d_Model_over_0 : decode prog_10_method_25_code 0 = .ok (.aload_n 0, 1) := by decide +kernel
theorem d_Model_over_1 : decode prog_10_method_25_code 1 = .ok (.iload_n 1, 1) := by decide +kernel
theorem d_Model_over_2 : decode prog_10_method_25_code 2 = .ok (.putfield 71, 3) := by decide +kernel
theorem d_Model_over_5 : decode prog_10_method_25_code 5 = .ok (.aload_n 0, 1) := by decide +kernel
theorem d_Model_over_6 : decode prog_10_method_25_code 6 = .ok (.iconst 0, 1) := by decide +kernel
theorem d_Model_over_7 : decode prog_10_method_25_code 7 = .ok (.putfield 153, 3) := by decide +kernel
theorem d_Model_over_10 : decode prog_10_method_25_code 10 = .ok (.iload_n 1, 1) := by decide +kernel
theorem d_Model_over_11 : decode prog_10_method_25_code 11 = .ok (.ireturn, 1) := by decide +kernel
theorem d_Model_at_0 : decode prog_10_method_20_code 0 = .ok (.iload_n 1, 1) := by decide +kernel
theorem d_Model_at_1 : decode prog_10_method_20_code 1 = .ok (.iconst 0, 1) := by decide +kernel
theorem d_Model_at_2 : decode prog_10_method_20_code 2 = .ok (.aload_n 0, 1) := by decide +kernel
theorem d_Model_at_3 : decode prog_10_method_20_code 3 = .ok (.getfield 104, 3) := by decide +kernel
theorem d_Model_at_6 : decode prog_10_method_20_code 6 = .ok (.iconst 1, 1) := by decide +kernel
theorem d_Model_at_7 : decode prog_10_method_20_code 7 = .ok (.isub, 1) := by decide +kernel
theorem d_Model_at_8 : decode prog_10_method_20_code 8 = .ok (.invokestatic 78, 3) := by decide +kernel
theorem d_Model_at_11 : decode prog_10_method_20_code 11 = .ok (.ifCond .eq 9, 3) := by decide +kernel
theorem d_Model_at_20 : decode prog_10_method_20_code 20 = .ok (.aload_n 0, 1) := by decide +kernel
theorem d_Model_at_21 : decode prog_10_method_20_code 21 = .ok (.getfield 7, 3) := by decide +kernel
theorem d_Model_at_24 : decode prog_10_method_20_code 24 = .ok (.iload_n 1, 1) := by decide +kernel
theorem d_Model_at_25 : decode prog_10_method_20_code 25 = .ok (.iaload, 1) := by decide +kernel
theorem d_Model_at_26 : decode prog_10_method_20_code 26 = .ok (.ireturn, 1) := by decide +kernel
theorem d_Model_at_14 : decode prog_10_method_20_code 14 = .ok (.sipush 1000, 3) := by decide +kernel
theorem d_Model_at_17 : decode prog_10_method_20_code 17 = .ok (.goto 9, 3) := by decide +kernel
theorem d_Model_two_0 : decode prog_10_method_21_code 0 = .ok (.sipush 256, 3) := by decide +kernel
theorem d_Model_two_3 : decode prog_10_method_21_code 3 = .ok (.aload_n 0, 1) := by decide +kernel
theorem d_Model_two_4 : decode prog_10_method_21_code 4 = .ok (.iload_n 1, 1) := by decide +kernel
theorem d_Model_two_5 : decode prog_10_method_21_code 5 = .ok (.invokevirtual 124, 3) := by decide +kernel
theorem d_Model_two_8 : decode prog_10_method_21_code 8 = .ok (.imul, 1) := by decide +kernel
theorem d_Model_two_9 : decode prog_10_method_21_code 9 = .ok (.aload_n 0, 1) := by decide +kernel
theorem d_Model_two_10 : decode prog_10_method_21_code 10 = .ok (.iload_n 1, 1) := by decide +kernel
theorem d_Model_two_11 : decode prog_10_method_21_code 11 = .ok (.iconst 1, 1) := by decide +kernel
theorem d_Model_two_12 : decode prog_10_method_21_code 12 = .ok (.iadd, 1) := by decide +kernel
theorem d_Model_two_13 : decode prog_10_method_21_code 13 = .ok (.invokevirtual 124, 3) := by decide +kernel
theorem d_Model_two_16 : decode prog_10_method_21_code 16 = .ok (.iadd, 1) := by decide +kernel
theorem d_Model_two_17 : decode prog_10_method_21_code 17 = .ok (.ireturn, 1) := by decide +kernel
theorem d_Model_signed_0 : decode prog_10_method_36_code 0 = .ok (.aload_n 0, 1) := by decide +kernel
theorem d_Model_signed_1 : decode prog_10_method_36_code 1 = .ok (.iload_n 1, 1) := by decide +kernel
theorem d_Model_signed_2 : decode prog_10_method_36_code 2 = .ok (.invokevirtual 124, 3) := by decide +kernel
theorem d_Model_signed_5 : decode prog_10_method_36_code 5 = .ok (.bipush 127, 2) := by decide +kernel
theorem d_Model_signed_7 : decode prog_10_method_36_code 7 = .ok (.if_icmp .le 15, 3) := by decide +kernel
theorem d_Model_signed_22 : decode prog_10_method_36_code 22 = .ok (.aload_n 0, 1) := by decide +kernel
theorem d_Model_signed_23 : decode prog_10_method_36_code 23 = .ok (.iload_n 1, 1) := by decide +kernel
theorem d_Model_signed_24 : decode prog_10_method_36_code 24 = .ok (.invokevirtual 124, 3) := by decide +kernel
theorem d_Model_signed_27 : decode prog_10_method_36_code 27 = .ok (.ireturn, 1) := by decide +kernel
theorem d_Model_signed_10 : decode prog_10_method_36_code 10 = .ok (.aload_n 0, 1) := by decide +kernel
theorem d_Model_signed_11 : decode prog_10_method_36_code 11 = .ok (.iload_n 1, 1) := by decide +kernel
theorem d_Model_signed_12 : decode prog_10_method_36_code 12 = .ok (.invokevirtual 124, 3) := by decide +kernel
theorem d_Model_signed_15 : decode prog_10_method_36_code 15 = .ok (.sipush 256, 3) := by decide +kernel
theorem d_Model_signed_18 : decode prog_10_method_36_code 18 = .ok (.isub, 1) := by decide +kernel
theorem d_Model_signed_19 : decode prog_10_method_36_code 19 = .ok (.goto 8, 3) := by decide +kernel
theorem d_Model_push_0 : decode prog_10_method_28_code 0 = .ok (.aload_n 0, 1) := by decide +kernel
theorem d_Model_push_1 : decode prog_10_method_28_code 1 = .ok (.getfield 32, 3) := by decide +kernel
theorem d_Model_push_4 : decode prog_10_method_28_code 4 = .ok (.aload_n 0, 1) := by decide +kernel
theorem d_Model_push_5 : decode prog_10_method_28_code 5 = .ok (.getfield 130, 3) := by decide +kernel
theorem d_Model_push_8 : decode prog_10_method_28_code 8 = .ok (.iload_n 1, 1) := by decide +kernel
theorem d_Model_push_9 : decode prog_10_method_28_code 9 = .ok (.iastore, 1) := by decide +kernel
theorem d_Model_push_10 : decode prog_10_method_28_code 10 = .ok (.aload_n 0, 1) := by decide +kernel
theorem d_Model_push_11 : decode prog_10_method_28_code 11 = .ok (.getfield 35, 3) := by decide +kernel
theorem d_Model_push_14 : decode prog_10_method_28_code 14 = .ok (.aload_n 0, 1) := by decide +kernel
theorem d_Model_push_15 : decode prog_10_method_28_code 15 = .ok (.getfield 130, 3) := by decide +kernel
theorem d_Model_push_18 : decode prog_10_method_28_code 18 = .ok (.iload_n 1, 1) := by decide +kernel
theorem d_Model_push_19 : decode prog_10_method_28_code 19 = .ok (.iconst 2, 1) := by decide +kernel
theorem d_Model_push_20 : decode prog_10_method_28_code 20 = .ok (.if_icmp .ge 7, 3) := by decide +kernel
theorem d_Model_push_27 : decode prog_10_method_28_code 27 = .ok (.iload_n 2, 1) := by decide +kernel
theorem d_Model_push_28 : decode prog_10_method_28_code 28 = .ok (.iastore, 1) := by decide +kernel
theorem d_Model_push_29 : decode prog_10_method_28_code 29 = .ok (.aload_n 0, 1) := by decide +kernel
theorem d_Model_push_30 : decode prog_10_method_28_code 30 = .ok (.dup, 1) := by decide +kernel
theorem d_Model_push_31 : decode prog_10_method_28_code 31 = .ok (.getfield 130, 3) := by decide +kernel
theorem d_Model_push_34 : decode prog_10_method_28_code 34 = .ok (.iconst 1, 1) := by decide +kernel
theorem d_Model_push_35 : decode prog_10_method_28_code 35 = .ok (.iadd, 1) := by decide +kernel
theorem d_Model_push_36 : decode prog_10_method_28_code 36 = .ok (.putfield 130, 3) := by decide +kernel
theorem d_Model_push_39 : decode prog_10_method_28_code 39 = .ok (.return_, 1) := by decide +kernel
theorem d_Model_push_23 : decode prog_10_method_28_code 23 = .ok (.iconst 0, 1) := by decide +kernel
theorem d_Model_push_24 : decode prog_10_method_28_code 24 = .ok (.goto 4, 3) := by decide +kernel
theorem d_Model_truth_0 : decode prog_10_method_29_code 0 = .ok (.aload_n 0, 1) := by decide +kernel
theorem d_Model_truth_1 : decode prog_10_method_29_code 1 = .ok (.iload_n 1, 1) := by decide +kernel
theorem d_Model_truth_2 : decode prog_10_method_29_code 2 = .ok (.ifCond .eq 7, 3) := by decide +kernel
theorem d_Model_truth_9 : decode prog_10_method_29_code 9 = .ok (.iconst 0, 1) := by decide +kernel
theorem d_Model_truth_10 : decode prog_10_method_29_code 10 = .ok (.iconst 0, 1) := by decide +kernel
theorem d_Model_truth_11 : decode prog_10_method_29_code 11 = .ok (.invokevirtual 133, 3) := by decide +kernel
theorem d_Model_truth_14 : decode prog_10_method_29_code 14 = .ok (.iconst 1, 1) := by decide +kernel
theorem d_Model_truth_15 : decode prog_10_method_29_code 15 = .ok (.ireturn, 1) := by decide +kernel
theorem d_Model_truth_5 : decode prog_10_method_29_code 5 = .ok (.iconst 1, 1) := by decide +kernel
theorem d_Model_truth_6 : decode prog_10_method_29_code 6 = .ok (.goto 4, 3) := by decide +kernel
theorem d_Model_isFalse_0 : decode prog_10_method_31_code 0 = .ok (.aload_n 0, 1) := by decide +kernel
theorem d_Model_isFalse_1 : decode prog_10_method_31_code 1 = .ok (.getfield 32, 3) := by decide +kernel
theorem d_Model_isFalse_4 : decode prog_10_method_31_code 4 = .ok (.iload_n 1, 1) := by decide +kernel
theorem d_Model_isFalse_5 : decode prog_10_method_31_code 5 = .ok (.iaload, 1) := by decide +kernel
theorem d_Model_isFalse_6 : decode prog_10_method_31_code 6 = .ok (.ifCond .eq 22, 3) := by decide +kernel
theorem d_Model_isFalse_28 : decode prog_10_method_31_code 28 = .ok (.iconst 1, 1) := by decide +kernel
theorem d_Model_isFalse_29 : decode prog_10_method_31_code 29 = .ok (.goto 4, 3) := by decide +kernel
theorem d_Model_isFalse_33 : decode prog_10_method_31_code 33 = .ok (.ireturn, 1) := by decide +kernel
theorem d_Model_isFalse_9 : decode prog_10_method_31_code 9 = .ok (.aload_n 0, 1) := by decide +kernel
theorem d_Model_isFalse_10 : decode prog_10_method_31_code 10 = .ok (.getfield 32, 3) := by decide +kernel
theorem d_Model_isFalse_13 : decode prog_10_method_31_code 13 = .ok (.iload_n 1, 1) := by decide +kernel
theorem d_Model_isFalse_14 : decode prog_10_method_31_code 14 = .ok (.iaload, 1) := by decide +kernel
theorem d_Model_isFalse_15 : decode prog_10_method_31_code 15 = .ok (.iconst 2, 1) := by decide +kernel
theorem d_Model_isFalse_16 : decode prog_10_method_31_code 16 = .ok (.if_icmp .ne 16, 3) := by decide +kernel
theorem d_Model_isFalse_32 : decode prog_10_method_31_code 32 = .ok (.iconst 0, 1) := by decide +kernel
theorem d_Model_isFalse_19 : decode prog_10_method_31_code 19 = .ok (.aload_n 0, 1) := by decide +kernel
theorem d_Model_isFalse_20 : decode prog_10_method_31_code 20 = .ok (.getfield 35, 3) := by decide +kernel
theorem d_Model_isFalse_23 : decode prog_10_method_31_code 23 = .ok (.iload_n 1, 1) := by decide +kernel
theorem d_Model_isFalse_24 : decode prog_10_method_31_code 24 = .ok (.iaload, 1) := by decide +kernel
theorem d_Model_isFalse_25 : decode prog_10_method_31_code 25 = .ok (.ifCond .ne 7, 3) := by decide +kernel
theorem d_Model_placeOf_0 : decode prog_10_method_8_code 0 = .ok (.bipush 29, 2) := by decide +kernel
theorem d_Model_placeOf_2 : decode prog_10_method_8_code 2 = .ok (.iload_n 1, 1) := by decide +kernel
theorem d_Model_placeOf_3 : decode prog_10_method_8_code 3 = .ok (.imul, 1) := by decide +kernel
theorem d_Model_placeOf_4 : decode prog_10_method_8_code 4 = .ok (.iconst 5, 1) := by decide +kernel
theorem d_Model_placeOf_5 : decode prog_10_method_8_code 5 = .ok (.iadd, 1) := by decide +kernel
theorem d_Model_placeOf_6 : decode prog_10_method_8_code 6 = .ok (.iconst 3, 1) := by decide +kernel
theorem d_Model_placeOf_7 : decode prog_10_method_8_code 7 = .ok (.iload_n 2, 1) := by decide +kernel
theorem d_Model_placeOf_8 : decode prog_10_method_8_code 8 = .ok (.imul, 1) := by decide +kernel
theorem d_Model_placeOf_9 : decode prog_10_method_8_code 9 = .ok (.iadd, 1) := by decide +kernel
theorem d_Model_placeOf_10 : decode prog_10_method_8_code 10 = .ok (.ireturn, 1) := by decide +kernel
theorem d_Model_isThere_0 : decode prog_10_method_5_code 0 = .ok (.iload_n 1, 1) := by decide +kernel
theorem d_Model_isThere_1 : decode prog_10_method_5_code 1 = .ok (.iconst 0, 1) := by decide +kernel
theorem d_Model_isThere_2 : decode prog_10_method_5_code 2 = .ok (.bipush 31, 2) := by decide +kernel
theorem d_Model_isThere_4 : decode prog_10_method_5_code 4 = .ok (.invokestatic 78, 3) := by decide +kernel
theorem d_Model_isThere_7 : decode prog_10_method_5_code 7 = .ok (.ifCond .ne 20, 3) := by decide +kernel
theorem d_Model_isThere_27 : decode prog_10_method_5_code 27 = .ok (.iconst 0, 1) := by decide +kernel
theorem d_Model_isThere_28 : decode prog_10_method_5_code 28 = .ok (.ireturn, 1) := by decide +kernel
theorem d_Model_isThere_10 : decode prog_10_method_5_code 10 = .ok (.aload_n 0, 1) := by decide +kernel
theorem d_Model_isThere_11 : decode prog_10_method_5_code 11 = .ok (.getfield 13, 3) := by decide +kernel
theorem d_Model_isThere_14 : decode prog_10_method_5_code 14 = .ok (.bipush 29, 2) := by decide +kernel
theorem d_Model_isThere_16 : decode prog_10_method_5_code 16 = .ok (.iload_n 1, 1) := by decide +kernel
theorem d_Model_isThere_17 : decode prog_10_method_5_code 17 = .ok (.imul, 1) := by decide +kernel
theorem d_Model_isThere_18 : decode prog_10_method_5_code 18 = .ok (.iaload, 1) := by decide +kernel
theorem d_Model_isThere_19 : decode prog_10_method_5_code 19 = .ok (.iconst 1, 1) := by decide +kernel
theorem d_Model_isThere_20 : decode prog_10_method_5_code 20 = .ok (.if_icmp .ne 7, 3) := by decide +kernel
theorem d_Model_isThere_23 : decode prog_10_method_5_code 23 = .ok (.iconst 1, 1) := by decide +kernel
theorem d_Model_isThere_24 : decode prog_10_method_5_code 24 = .ok (.goto 4, 3) := by decide +kernel
theorem d_Model_isObject_0 : decode prog_10_method_32_code 0 = .ok (.aload_n 0, 1) := by decide +kernel
theorem d_Model_isObject_1 : decode prog_10_method_32_code 1 = .ok (.getfield 32, 3) := by decide +kernel
theorem d_Model_isObject_4 : decode prog_10_method_32_code 4 = .ok (.iload_n 1, 1) := by decide +kernel
theorem d_Model_isObject_5 : decode prog_10_method_32_code 5 = .ok (.iaload, 1) := by decide +kernel
theorem d_Model_isObject_6 : decode prog_10_method_32_code 6 = .ok (.iconst 3, 1) := by decide +kernel
theorem d_Model_isObject_7 : decode prog_10_method_32_code 7 = .ok (.if_icmp .ne 20, 3) := by decide +kernel
theorem d_Model_isObject_27 : decode prog_10_method_32_code 27 = .ok (.iconst 0, 1) := by decide +kernel
theorem d_Model_isObject_28 : decode prog_10_method_32_code 28 = .ok (.ireturn, 1) := by decide +kernel
theorem d_Model_isObject_10 : decode prog_10_method_32_code 10 = .ok (.aload_n 0, 1) := by decide +kernel
theorem d_Model_isObject_11 : decode prog_10_method_32_code 11 = .ok (.aload_n 0, 1) := by decide +kernel
theorem d_Model_isObject_12 : decode prog_10_method_32_code 12 = .ok (.getfield 35, 3) := by decide +kernel
theorem d_Model_isObject_15 : decode prog_10_method_32_code 15 = .ok (.iload_n 1, 1) := by decide +kernel
theorem d_Model_isObject_16 : decode prog_10_method_32_code 16 = .ok (.iaload, 1) := by decide +kernel
theorem d_Model_isObject_17 : decode prog_10_method_32_code 17 = .ok (.invokevirtual 107, 3) := by decide +kernel
theorem d_Model_isObject_20 : decode prog_10_method_32_code 20 = .ok (.ifCond .eq 7, 3) := by decide +kernel
theorem d_Model_isObject_23 : decode prog_10_method_32_code 23 = .ok (.iconst 1, 1) := by decide +kernel
theorem d_Model_isObject_24 : decode prog_10_method_32_code 24 = .ok (.goto 4, 3) := by decide +kernel
theorem d_Model_parents_0 : decode prog_10_method_6_code 0 = .ok (.aload_n 0, 1) := by decide +kernel
theorem d_Model_parents_1 : decode prog_10_method_6_code 1 = .ok (.getfield 13, 3) := by decide +kernel
theorem d_Model_parents_4 : decode prog_10_method_6_code 4 = .ok (.bipush 29, 2) := by decide +kernel
theorem d_Model_parents_6 : decode prog_10_method_6_code 6 = .ok (.iload_n 1, 1) := by decide +kernel
theorem d_Model_parents_7 : decode prog_10_method_6_code 7 = .ok (.imul, 1) := by decide +kernel
theorem d_Model_parents_8 : decode prog_10_method_6_code 8 = .ok (.iconst 1, 1) := by decide +kernel
theorem d_Model_parents_9 : decode prog_10_method_6_code 9 = .ok (.iadd, 1) := by decide +kernel
theorem d_Model_parents_10 : decode prog_10_method_6_code 10 = .ok (.iaload, 1) := by decide +kernel
theorem d_Model_parents_11 : decode prog_10_method_6_code 11 = .ok (.ireturn, 1) := by decide +kernel
theorem d_Model_parent_0 : decode prog_10_method_7_code 0 = .ok (.aload_n 0, 1) := by decide +kernel
theorem d_Model_parent_1 : decode prog_10_method_7_code 1 = .ok (.getfield 13, 3) := by decide +kernel
theorem d_Model_parent_4 : decode prog_10_method_7_code 4 = .ok (.bipush 29, 2) := by decide +kernel
theorem d_Model_parent_6 : decode prog_10_method_7_code 6 = .ok (.iload_n 1, 1) := by decide +kernel
theorem d_Model_parent_7 : decode prog_10_method_7_code 7 = .ok (.imul, 1) := by decide +kernel
theorem d_Model_parent_8 : decode prog_10_method_7_code 8 = .ok (.iconst 2, 1) := by decide +kernel
theorem d_Model_parent_9 : decode prog_10_method_7_code 9 = .ok (.iadd, 1) := by decide +kernel
theorem d_Model_parent_10 : decode prog_10_method_7_code 10 = .ok (.iload_n 2, 1) := by decide +kernel
theorem d_Model_parent_11 : decode prog_10_method_7_code 11 = .ok (.iadd, 1) := by decide +kernel
theorem d_Model_parent_12 : decode prog_10_method_7_code 12 = .ok (.iaload, 1) := by decide +kernel
theorem d_Model_parent_13 : decode prog_10_method_7_code 13 = .ok (.ireturn, 1) := by decide +kernel
theorem d_Model_hasOwn_0 : decode prog_10_method_9_code 0 = .ok (.aload_n 0, 1) := by decide +kernel
theorem d_Model_hasOwn_1 : decode prog_10_method_9_code 1 = .ok (.getfield 13, 3) := by decide +kernel
theorem d_Model_hasOwn_4 : decode prog_10_method_9_code 4 = .ok (.aload_n 0, 1) := by decide +kernel
theorem d_Model_hasOwn_5 : decode prog_10_method_9_code 5 = .ok (.iload_n 1, 1) := by decide +kernel
theorem d_Model_hasOwn_6 : decode prog_10_method_9_code 6 = .ok (.iload_n 2, 1) := by decide +kernel
theorem d_Model_hasOwn_7 : decode prog_10_method_9_code 7 = .ok (.invokevirtual 82, 3) := by decide +kernel
theorem d_Model_hasOwn_10 : decode prog_10_method_9_code 10 = .ok (.iaload, 1) := by decide +kernel
theorem d_Model_hasOwn_11 : decode prog_10_method_9_code 11 = .ok (.iconst 1, 1) := by decide +kernel
theorem d_Model_hasOwn_12 : decode prog_10_method_9_code 12 = .ok (.if_icmp .ne 7, 3) := by decide +kernel
theorem d_Model_hasOwn_19 : decode prog_10_method_9_code 19 = .ok (.iconst 0, 1) := by decide +kernel
theorem d_Model_hasOwn_20 : decode prog_10_method_9_code 20 = .ok (.ireturn, 1) := by decide +kernel
theorem d_Model_hasOwn_15 : decode prog_10_method_9_code 15 = .ok (.iconst 1, 1) := by decide +kernel
theorem d_Model_hasOwn_16 : decode prog_10_method_9_code 16 = .ok (.goto 4, 3) := by decide +kernel
theorem d_Model_give_0 : decode prog_10_method_10_code 0 = .ok (.aload_n 0, 1) := by decide +kernel
theorem d_Model_give_1 : decode prog_10_method_10_code 1 = .ok (.iload_n 1, 1) := by decide +kernel
theorem d_Model_give_2 : decode prog_10_method_10_code 2 = .ok (.iload_n 2, 1) := by decide +kernel
theorem d_Model_give_3 : decode prog_10_method_10_code 3 = .ok (.invokevirtual 82, 3) := by decide +kernel
theorem d_Model_give_6 : decode prog_10_method_10_code 6 = .ok (.istore 5, 2) := by decide +kernel
theorem d_Model_give_8 : decode prog_10_method_10_code 8 = .ok (.aload_n 0, 1) := by decide +kernel
theorem d_Model_give_9 : decode prog_10_method_10_code 9 = .ok (.getfield 13, 3) := by decide +kernel
theorem d_Model_give_12 : decode prog_10_method_10_code 12 = .ok (.iload 5, 2) := by decide +kernel
theorem d_Model_give_14 : decode prog_10_method_10_code 14 = .ok (.iconst 1, 1) := by decide +kernel
theorem d_Model_give_15 : decode prog_10_method_10_code 15 = .ok (.iastore, 1) := by decide +kernel
theorem d_Model_give_16 : decode prog_10_method_10_code 16 = .ok (.aload_n 0, 1) := by decide +kernel
theorem d_Model_give_17 : decode prog_10_method_10_code 17 = .ok (.getfield 13, 3) := by decide +kernel
theorem d_Model_give_20 : decode prog_10_method_10_code 20 = .ok (.iload 5, 2) := by decide +kernel
theorem d_Model_give_22 : decode prog_10_method_10_code 22 = .ok (.iconst 1, 1) := by decide +kernel
theorem d_Model_give_23 : decode prog_10_method_10_code 23 = .ok (.iadd, 1) := by decide +kernel
theorem d_Model_give_24 : decode prog_10_method_10_code 24 = .ok (.iload_n 3, 1) := by decide +kernel
theorem d_Model_give_25 : decode prog_10_method_10_code 25 = .ok (.iastore, 1) := by decide +kernel
theorem d_Model_give_26 : decode prog_10_method_10_code 26 = .ok (.aload_n 0, 1) := by decide +kernel
theorem d_Model_give_27 : decode prog_10_method_10_code 27 = .ok (.getfield 13, 3) := by decide +kernel
theorem d_Model_give_30 : decode prog_10_method_10_code 30 = .ok (.iload 5, 2) := by decide +kernel
theorem d_Model_give_32 : decode prog_10_method_10_code 32 = .ok (.iconst 2, 1) := by decide +kernel
theorem d_Model_give_33 : decode prog_10_method_10_code 33 = .ok (.iadd, 1) := by decide +kernel
theorem d_Model_give_34 : decode prog_10_method_10_code 34 = .ok (.iload_n 3, 1) := by decide +kernel
theorem d_Model_give_35 : decode prog_10_method_10_code 35 = .ok (.iconst 2, 1) := by decide +kernel
theorem d_Model_give_36 : decode prog_10_method_10_code 36 = .ok (.if_icmp .ge 7, 3) := by decide +kernel
theorem d_Model_give_43 : decode prog_10_method_10_code 43 = .ok (.iload 4, 2) := by decide +kernel
theorem d_Model_give_45 : decode prog_10_method_10_code 45 = .ok (.iastore, 1) := by decide +kernel
theorem d_Model_give_46 : decode prog_10_method_10_code 46 = .ok (.return_, 1) := by decide +kernel
theorem d_Model_give_39 : decode prog_10_method_10_code 39 = .ok (.iconst 0, 1) := by decide +kernel
theorem d_Model_give_40 : decode prog_10_method_10_code 40 = .ok (.goto 5, 3) := by decide +kernel
theorem d_Model_taken_0 : decode prog_10_method_30_code 0 = .ok (.aload_n 0, 1) := by decide +kernel
theorem d_Model_taken_1 : decode prog_10_method_30_code 1 = .ok (.getfield 130, 3) := by decide +kernel
theorem d_Model_taken_4 : decode prog_10_method_30_code 4 = .ok (.aload_n 0, 1) := by decide +kernel
theorem d_Model_taken_5 : decode prog_10_method_30_code 5 = .ok (.getfield 47, 3) := by decide +kernel
theorem d_Model_taken_8 : decode prog_10_method_30_code 8 = .ok (.aload_n 0, 1) := by decide +kernel
theorem d_Model_taken_9 : decode prog_10_method_30_code 9 = .ok (.getfield 127, 3) := by decide +kernel
theorem d_Model_taken_12 : decode prog_10_method_30_code 12 = .ok (.iconst 1, 1) := by decide +kernel
theorem d_Model_taken_13 : decode prog_10_method_30_code 13 = .ok (.isub, 1) := by decide +kernel
theorem d_Model_taken_14 : decode prog_10_method_30_code 14 = .ok (.iaload, 1) := by decide +kernel
theorem d_Model_taken_15 : decode prog_10_method_30_code 15 = .ok (.isub, 1) := by decide +kernel
theorem d_Model_taken_16 : decode prog_10_method_30_code 16 = .ok (.aload_n 0, 1) := by decide +kernel
theorem d_Model_taken_17 : decode prog_10_method_30_code 17 = .ok (.getfield 50, 3) := by decide +kernel
theorem d_Model_taken_20 : decode prog_10_method_30_code 20 = .ok (.aload_n 0, 1) := by decide +kernel
theorem d_Model_taken_21 : decode prog_10_method_30_code 21 = .ok (.getfield 127, 3) := by decide +kernel
theorem d_Model_taken_24 : decode prog_10_method_30_code 24 = .ok (.iconst 1, 1) := by decide +kernel
theorem d_Model_taken_25 : decode prog_10_method_30_code 25 = .ok (.isub, 1) := by decide +kernel
theorem d_Model_taken_26 : decode prog_10_method_30_code 26 = .ok (.iaload, 1) := by decide +kernel
theorem d_Model_taken_27 : decode prog_10_method_30_code 27 = .ok (.isub, 1) := by decide +kernel
theorem d_Model_taken_28 : decode prog_10_method_30_code 28 = .ok (.ireturn, 1) := by decide +kernel
theorem d_Model_lengthOf_0 : decode prog_10_method_33_code 0 = .ok (.iload_n 0, 1) := by decide +kernel
theorem d_Model_lengthOf_1 : decode prog_10_method_33_code 1 = .ok (.iconst 2, 1) := by decide +kernel
theorem d_Model_lengthOf_2 : decode prog_10_method_33_code 2 = .ok (.if_icmp .ne 5, 3) := by decide +kernel
theorem d_Model_lengthOf_7 : decode prog_10_method_33_code 7 = .ok (.iload_n 0, 1) := by decide +kernel
theorem d_Model_lengthOf_8 : decode prog_10_method_33_code 8 = .ok (.bipush 24, 2) := by decide +kernel
theorem d_Model_lengthOf_10 : decode prog_10_method_33_code 10 = .ok (.if_icmp .ne 5, 3) := by decide +kernel
theorem d_Model_lengthOf_15 : decode prog_10_method_33_code 15 = .ok (.iload_n 0, 1) := by decide +kernel
theorem d_Model_lengthOf_16 : decode prog_10_method_33_code 16 = .ok (.bipush 6, 2) := by decide +kernel
theorem d_Model_lengthOf_18 : decode prog_10_method_33_code 18 = .ok (.if_icmp .eq 15, 3) := by decide +kernel
theorem d_Model_lengthOf_33 : decode prog_10_method_33_code 33 = .ok (.iconst 3, 1) := by decide +kernel
theorem d_Model_lengthOf_34 : decode prog_10_method_33_code 34 = .ok (.ireturn, 1) := by decide +kernel
theorem d_Model_lengthOf_21 : decode prog_10_method_33_code 21 = .ok (.iload_n 0, 1) := by decide +kernel
theorem d_Model_lengthOf_22 : decode prog_10_method_33_code 22 = .ok (.bipush 21, 2) := by decide +kernel
theorem d_Model_lengthOf_24 : decode prog_10_method_33_code 24 = .ok (.if_icmp .eq 9, 3) := by decide +kernel
theorem d_Model_lengthOf_27 : decode prog_10_method_33_code 27 = .ok (.iload_n 0, 1) := by decide +kernel
theorem d_Model_lengthOf_28 : decode prog_10_method_33_code 28 = .ok (.bipush 23, 2) := by decide +kernel
theorem d_Model_lengthOf_30 : decode prog_10_method_33_code 30 = .ok (.if_icmp .ne 5, 3) := by decide +kernel
theorem d_Model_lengthOf_35 : decode prog_10_method_33_code 35 = .ok (.iload_n 0, 1) := by decide +kernel
theorem d_Model_lengthOf_36 : decode prog_10_method_33_code 36 = .ok (.iconst 1, 1) := by decide +kernel
theorem d_Model_lengthOf_37 : decode prog_10_method_33_code 37 = .ok (.if_icmp .eq 62, 3) := by decide +kernel
theorem d_Model_lengthOf_99 : decode prog_10_method_33_code 99 = .ok (.iconst 1, 1) := by decide +kernel
theorem d_Model_lengthOf_100 : decode prog_10_method_33_code 100 = .ok (.goto 4, 3) := by decide +kernel
theorem d_Model_lengthOf_104 : decode prog_10_method_33_code 104 = .ok (.istore_n 1, 1) := by decide +kernel
theorem d_Model_lengthOf_105 : decode prog_10_method_33_code 105 = .ok (.iload_n 1, 1) := by decide +kernel
theorem d_Model_lengthOf_106 : decode prog_10_method_33_code 106 = .ok (.ifCond .eq 7, 3) := by decide +kernel
theorem d_Model_lengthOf_109 : decode prog_10_method_33_code 109 = .ok (.iconst 2, 1) := by decide +kernel
theorem d_Model_lengthOf_110 : decode prog_10_method_33_code 110 = .ok (.goto 4, 3) := by decide +kernel
theorem d_Model_lengthOf_114 : decode prog_10_method_33_code 114 = .ok (.ireturn, 1) := by decide +kernel
theorem d_Model_lengthOf_40 : decode prog_10_method_33_code 40 = .ok (.iload_n 0, 1) := by decide +kernel
theorem d_Model_lengthOf_41 : decode prog_10_method_33_code 41 = .ok (.iconst 5, 1) := by decide +kernel
theorem d_Model_lengthOf_42 : decode prog_10_method_33_code 42 = .ok (.if_icmp .eq 57, 3) := by decide +kernel
theorem d_Model_lengthOf_45 : decode prog_10_method_33_code 45 = .ok (.iload_n 0, 1) := by decide +kernel
theorem d_Model_lengthOf_46 : decode prog_10_method_33_code 46 = .ok (.bipush 7, 2) := by decide +kernel
theorem d_Model_lengthOf_48 : decode prog_10_method_33_code 48 = .ok (.if_icmp .eq 51, 3) := by decide +kernel
theorem d_Model_lengthOf_51 : decode prog_10_method_33_code 51 = .ok (.iload_n 0, 1) := by decide +kernel
theorem d_Model_lengthOf_52 : decode prog_10_method_33_code 52 = .ok (.bipush 8, 2) := by decide +kernel
theorem d_Model_lengthOf_54 : decode prog_10_method_33_code 54 = .ok (.if_icmp .eq 45, 3) := by decide +kernel
theorem d_Model_lengthOf_57 : decode prog_10_method_33_code 57 = .ok (.iload_n 0, 1) := by decide +kernel
theorem d_Model_lengthOf_58 : decode prog_10_method_33_code 58 = .ok (.bipush 19, 2) := by decide +kernel
theorem d_Model_lengthOf_60 : decode prog_10_method_33_code 60 = .ok (.if_icmp .eq 39, 3) := by decide +kernel
theorem d_Model_lengthOf_63 : decode prog_10_method_33_code 63 = .ok (.iload_n 0, 1) := by decide +kernel
theorem d_Model_lengthOf_64 : decode prog_10_method_33_code 64 = .ok (.bipush 20, 2) := by decide +kernel
theorem d_Model_lengthOf_66 : decode prog_10_method_33_code 66 = .ok (.if_icmp .eq 33, 3) := by decide +kernel
theorem d_Model_lengthOf_69 : decode prog_10_method_33_code 69 = .ok (.iload_n 0, 1) := by decide +kernel
theorem d_Model_lengthOf_70 : decode prog_10_method_33_code 70 = .ok (.bipush 22, 2) := by decide +kernel
theorem d_Model_lengthOf_72 : decode prog_10_method_33_code 72 = .ok (.if_icmp .eq 27, 3) := by decide +kernel
theorem d_Model_lengthOf_75 : decode prog_10_method_33_code 75 = .ok (.iload_n 0, 1) := by decide +kernel
theorem d_Model_lengthOf_76 : decode prog_10_method_33_code 76 = .ok (.bipush 28, 2) := by decide +kernel
theorem d_Model_lengthOf_78 : decode prog_10_method_33_code 78 = .ok (.if_icmp .eq 21, 3) := by decide +kernel
theorem d_Model_lengthOf_81 : decode prog_10_method_33_code 81 = .ok (.iload_n 0, 1) := by decide +kernel
theorem d_Model_lengthOf_82 : decode prog_10_method_33_code 82 = .ok (.bipush 29, 2) := by decide +kernel
theorem d_Model_lengthOf_84 : decode prog_10_method_33_code 84 = .ok (.if_icmp .eq 15, 3) := by decide +kernel
theorem d_Model_lengthOf_87 : decode prog_10_method_33_code 87 = .ok (.iload_n 0, 1) := by decide +kernel
theorem d_Model_lengthOf_88 : decode prog_10_method_33_code 88 = .ok (.bipush 33, 2) := by decide +kernel
theorem d_Model_lengthOf_90 : decode prog_10_method_33_code 90 = .ok (.if_icmp .eq 9, 3) := by decide +kernel
theorem d_Model_lengthOf_93 : decode prog_10_method_33_code 93 = .ok (.iload_n 0, 1) := by decide +kernel
theorem d_Model_lengthOf_94 : decode prog_10_method_33_code 94 = .ok (.bipush 34, 2) := by decide +kernel
theorem d_Model_lengthOf_96 : decode prog_10_method_33_code 96 = .ok (.if_icmp .ne 7, 3) := by decide +kernel
theorem d_Model_lengthOf_103 : decode prog_10_method_33_code 103 = .ok (.iconst 0, 1) := by decide +kernel
theorem d_Model_lengthOf_113 : decode prog_10_method_33_code 113 = .ok (.iconst 1, 1) := by decide +kernel
theorem d_Model_lengthOf_13 : decode prog_10_method_33_code 13 = .ok (.iconst 4, 1) := by decide +kernel
theorem d_Model_lengthOf_14 : decode prog_10_method_33_code 14 = .ok (.ireturn, 1) := by decide +kernel
theorem d_Model_lengthOf_5 : decode prog_10_method_33_code 5 = .ok (.iconst 5, 1) := by decide +kernel
theorem d_Model_lengthOf_6 : decode prog_10_method_33_code 6 = .ok (.ireturn, 1) := by decide +kernel
theorem d_Model_copy_0 : decode prog_10_method_12_code 0 = .ok (.iconst 0, 1) := by decide +kernel
theorem d_Model_copy_1 : decode prog_10_method_12_code 1 = .ok (.istore_n 3, 1) := by decide +kernel
theorem d_Model_copy_2 : decode prog_10_method_12_code 2 = .ok (.iload_n 3, 1) := by decide +kernel
theorem d_Model_copy_3 : decode prog_10_method_12_code 3 = .ok (.sipush 928, 3) := by decide +kernel
theorem d_Model_copy_6 : decode prog_10_method_12_code 6 = .ok (.if_icmp .ge 33, 3) := by decide +kernel
theorem d_Model_copy_9 : decode prog_10_method_12_code 9 = .ok (.aload_n 0, 1) := by decide +kernel
theorem d_Model_copy_10 : decode prog_10_method_12_code 10 = .ok (.getfield 13, 3) := by decide +kernel
theorem d_Model_copy_13 : decode prog_10_method_12_code 13 = .ok (.sipush 928, 3) := by decide +kernel
theorem d_Model_copy_16 : decode prog_10_method_12_code 16 = .ok (.iload_n 2, 1) := by decide +kernel
theorem d_Model_copy_17 : decode prog_10_method_12_code 17 = .ok (.imul, 1) := by decide +kernel
theorem d_Model_copy_18 : decode prog_10_method_12_code 18 = .ok (.iload_n 3, 1) := by decide +kernel
theorem d_Model_copy_19 : decode prog_10_method_12_code 19 = .ok (.iadd, 1) := by decide +kernel
theorem d_Model_copy_20 : decode prog_10_method_12_code 20 = .ok (.aload_n 0, 1) := by decide +kernel
theorem d_Model_copy_21 : decode prog_10_method_12_code 21 = .ok (.getfield 13, 3) := by decide +kernel
theorem d_Model_copy_24 : decode prog_10_method_12_code 24 = .ok (.sipush 928, 3) := by decide +kernel
theorem d_Model_copy_27 : decode prog_10_method_12_code 27 = .ok (.iload_n 1, 1) := by decide +kernel
theorem d_Model_copy_28 : decode prog_10_method_12_code 28 = .ok (.imul, 1) := by decide +kernel
theorem d_Model_copy_29 : decode prog_10_method_12_code 29 = .ok (.iload_n 3, 1) := by decide +kernel
theorem d_Model_copy_30 : decode prog_10_method_12_code 30 = .ok (.iadd, 1) := by decide +kernel
theorem d_Model_copy_31 : decode prog_10_method_12_code 31 = .ok (.iaload, 1) := by decide +kernel
theorem d_Model_copy_32 : decode prog_10_method_12_code 32 = .ok (.iastore, 1) := by decide +kernel
theorem d_Model_copy_33 : decode prog_10_method_12_code 33 = .ok (.iinc 3 1, 3) := by decide +kernel
theorem d_Model_copy_36 : decode prog_10_method_12_code 36 = .ok (.goto (-34), 3) := by decide +kernel
theorem d_Model_copy_39 : decode prog_10_method_12_code 39 = .ok (.return_, 1) := by decide +kernel
theorem d_Model_empty_0 : decode prog_10_method_11_code 0 = .ok (.aload_n 0, 1) := by decide +kernel
theorem d_Model_empty_1 : decode prog_10_method_11_code 1 = .ok (.getfield 13, 3) := by decide +kernel
theorem d_Model_empty_4 : decode prog_10_method_11_code 4 = .ok (.bipush 29, 2) := by decide +kernel
theorem d_Model_empty_6 : decode prog_10_method_11_code 6 = .ok (.iload_n 1, 1) := by decide +kernel
theorem d_Model_empty_7 : decode prog_10_method_11_code 7 = .ok (.imul, 1) := by decide +kernel
theorem d_Model_empty_8 : decode prog_10_method_11_code 8 = .ok (.iconst 1, 1) := by decide +kernel
theorem d_Model_empty_9 : decode prog_10_method_11_code 9 = .ok (.iastore, 1) := by decide +kernel
theorem d_Model_empty_10 : decode prog_10_method_11_code 10 = .ok (.aload_n 0, 1) := by decide +kernel
theorem d_Model_empty_11 : decode prog_10_method_11_code 11 = .ok (.getfield 13, 3) := by decide +kernel
theorem d_Model_empty_14 : decode prog_10_method_11_code 14 = .ok (.bipush 29, 2) := by decide +kernel
theorem d_Model_empty_16 : decode prog_10_method_11_code 16 = .ok (.iload_n 1, 1) := by decide +kernel
theorem d_Model_empty_17 : decode prog_10_method_11_code 17 = .ok (.imul, 1) := by decide +kernel
theorem d_Model_empty_18 : decode prog_10_method_11_code 18 = .ok (.iconst 1, 1) := by decide +kernel
theorem d_Model_empty_19 : decode prog_10_method_11_code 19 = .ok (.iadd, 1) := by decide +kernel
theorem d_Model_empty_20 : decode prog_10_method_11_code 20 = .ok (.iconst 0, 1) := by decide +kernel
theorem d_Model_empty_21 : decode prog_10_method_11_code 21 = .ok (.iastore, 1) := by decide +kernel
theorem d_Model_empty_22 : decode prog_10_method_11_code 22 = .ok (.iconst 0, 1) := by decide +kernel
theorem d_Model_empty_23 : decode prog_10_method_11_code 23 = .ok (.istore_n 2, 1) := by decide +kernel
theorem d_Model_empty_24 : decode prog_10_method_11_code 24 = .ok (.iload_n 2, 1) := by decide +kernel
theorem d_Model_empty_25 : decode prog_10_method_11_code 25 = .ok (.bipush 8, 2) := by decide +kernel
theorem d_Model_empty_27 : decode prog_10_method_11_code 27 = .ok (.if_icmp .ge 21, 3) := by decide +kernel
theorem d_Model_empty_30 : decode prog_10_method_11_code 30 = .ok (.aload_n 0, 1) := by decide +kernel
theorem d_Model_empty_31 : decode prog_10_method_11_code 31 = .ok (.getfield 13, 3) := by decide +kernel
theorem d_Model_empty_34 : decode prog_10_method_11_code 34 = .ok (.aload_n 0, 1) := by decide +kernel
theorem d_Model_empty_35 : decode prog_10_method_11_code 35 = .ok (.iload_n 1, 1) := by decide +kernel
theorem d_Model_empty_36 : decode prog_10_method_11_code 36 = .ok (.iload_n 2, 1) := by decide +kernel
theorem d_Model_empty_37 : decode prog_10_method_11_code 37 = .ok (.invokevirtual 82, 3) := by decide +kernel
theorem d_Model_empty_40 : decode prog_10_method_11_code 40 = .ok (.iconst 0, 1) := by decide +kernel
theorem d_Model_empty_41 : decode prog_10_method_11_code 41 = .ok (.iastore, 1) := by decide +kernel
theorem d_Model_empty_42 : decode prog_10_method_11_code 42 = .ok (.iinc 2 1, 3) := by decide +kernel
theorem d_Model_empty_45 : decode prog_10_method_11_code 45 = .ok (.goto (-21), 3) := by decide +kernel
theorem d_Model_empty_48 : decode prog_10_method_11_code 48 = .ok (.return_, 1) := by decide +kernel
theorem d_TM_init_0 : decode prog_1_method_1_code 0 = .ok (.aload_n 0, 1) := by decide +kernel
theorem d_TM_init_1 : decode prog_1_method_1_code 1 = .ok (.invokespecial 3, 3) := by decide +kernel
theorem d_TM_init_4 : decode prog_1_method_1_code 4 = .ok (.aload_n 0, 1) := by decide +kernel
theorem d_TM_init_5 : decode prog_1_method_1_code 5 = .ok (.new 9, 3) := by decide +kernel
theorem d_TM_init_8 : decode prog_1_method_1_code 8 = .ok (.dup, 1) := by decide +kernel
theorem d_TM_init_9 : decode prog_1_method_1_code 9 = .ok (.invokespecial 11, 3) := by decide +kernel
theorem d_TM_init_12 : decode prog_1_method_1_code 12 = .ok (.putfield 12, 3) := by decide +kernel
theorem d_TM_init_15 : decode prog_1_method_1_code 15 = .ok (.aload_n 0, 1) := by decide +kernel
theorem d_TM_init_16 : decode prog_1_method_1_code 16 = .ok (.new 16, 3) := by decide +kernel
theorem d_TM_init_19 : decode prog_1_method_1_code 19 = .ok (.dup, 1) := by decide +kernel
theorem d_TM_init_20 : decode prog_1_method_1_code 20 = .ok (.invokespecial 18, 3) := by decide +kernel
theorem d_TM_init_23 : decode prog_1_method_1_code 23 = .ok (.putfield 19, 3) := by decide +kernel
theorem d_TM_init_26 : decode prog_1_method_1_code 26 = .ok (.aload_n 0, 1) := by decide +kernel
theorem d_TM_init_27 : decode prog_1_method_1_code 27 = .ok (.new 23, 3) := by decide +kernel
theorem d_TM_init_30 : decode prog_1_method_1_code 30 = .ok (.dup, 1) := by decide +kernel
theorem d_TM_init_31 : decode prog_1_method_1_code 31 = .ok (.invokespecial 25, 3) := by decide +kernel
theorem d_TM_init_34 : decode prog_1_method_1_code 34 = .ok (.putfield 26, 3) := by decide +kernel
theorem d_TM_init_37 : decode prog_1_method_1_code 37 = .ok (.aload_n 0, 1) := by decide +kernel
theorem d_TM_init_38 : decode prog_1_method_1_code 38 = .ok (.new 30, 3) := by decide +kernel
theorem d_TM_init_41 : decode prog_1_method_1_code 41 = .ok (.dup, 1) := by decide +kernel
theorem d_TM_init_42 : decode prog_1_method_1_code 42 = .ok (.aload_n 0, 1) := by decide +kernel
theorem d_TM_init_43 : decode prog_1_method_1_code 43 = .ok (.getfield 12, 3) := by decide +kernel
theorem d_TM_init_46 : decode prog_1_method_1_code 46 = .ok (.aload_n 0, 1) := by decide +kernel
theorem d_TM_init_47 : decode prog_1_method_1_code 47 = .ok (.getfield 19, 3) := by decide +kernel
theorem d_TM_init_50 : decode prog_1_method_1_code 50 = .ok (.aload_n 0, 1) := by decide +kernel
theorem d_TM_init_51 : decode prog_1_method_1_code 51 = .ok (.getfield 26, 3) := by decide +kernel
theorem d_TM_init_54 : decode prog_1_method_1_code 54 = .ok (.invokespecial 32, 3) := by decide +kernel
theorem d_TM_init_57 : decode prog_1_method_1_code 57 = .ok (.putfield 35, 3) := by decide +kernel
theorem d_TM_init_60 : decode prog_1_method_1_code 60 = .ok (.return_, 1) := by decide +kernel
theorem d_TM_begin_0 : decode prog_1_method_5_code 0 = .ok (.aload_n 0, 1) := by decide +kernel
theorem d_TM_begin_1 : decode prog_1_method_5_code 1 = .ok (.getfield 19, 3) := by decide +kernel
theorem d_TM_begin_4 : decode prog_1_method_5_code 4 = .ok (.iload_n 1, 1) := by decide +kernel
theorem d_TM_begin_5 : decode prog_1_method_5_code 5 = .ok (.invokevirtual 73, 3) := by decide +kernel
theorem d_TM_begin_8 : decode prog_1_method_5_code 8 = .ok (.ifCond .ne 13, 3) := by decide +kernel
theorem d_TM_begin_11 : decode prog_1_method_5_code 11 = .ok (.new 76, 3) := by decide +kernel
theorem d_TM_begin_14 : decode prog_1_method_5_code 14 = .ok (.dup, 1) := by decide +kernel
theorem d_TM_begin_15 : decode prog_1_method_5_code 15 = .ok (.ldc 78, 2) := by decide +kernel
theorem d_TM_begin_17 : decode prog_1_method_5_code 17 = .ok (.invokespecial 80, 3) := by decide +kernel
theorem d_TM_begin_20 : decode prog_1_method_5_code 20 = .ok (.athrow, 1) := by decide +kernel
theorem d_TM_begin_21 : decode prog_1_method_5_code 21 = .ok (.iload_n 2, 1) := by decide +kernel
theorem d_TM_begin_22 : decode prog_1_method_5_code 22 = .ok (.invokestatic 81, 3) := by decide +kernel
theorem d_TM_begin_25 : decode prog_1_method_5_code 25 = .ok (.ifCond .eq 15, 3) := by decide +kernel
theorem d_TM_begin_28 : decode prog_1_method_5_code 28 = .ok (.aload_n 0, 1) := by decide +kernel
theorem d_TM_begin_29 : decode prog_1_method_5_code 29 = .ok (.getfield 19, 3) := by decide +kernel
theorem d_TM_begin_32 : decode prog_1_method_5_code 32 = .ok (.iload_n 1, 1) := by decide +kernel
theorem d_TM_begin_33 : decode prog_1_method_5_code 33 = .ok (.iload_n 2, 1) := by decide +kernel
theorem d_TM_begin_34 : decode prog_1_method_5_code 34 = .ok (.invokevirtual 92, 3) := by decide +kernel
theorem d_TM_begin_37 : decode prog_1_method_5_code 37 = .ok (.goto 4, 3) := by decide +kernel
theorem d_TM_begin_40 : decode prog_1_method_5_code 40 = .ok (.iconst (-1), 1) := by decide +kernel
theorem d_TM_begin_41 : decode prog_1_method_5_code 41 = .ok (.istore_n 3, 1) := by decide +kernel
theorem d_TM_begin_42 : decode prog_1_method_5_code 42 = .ok (.iload_n 3, 1) := by decide +kernel
theorem d_TM_begin_43 : decode prog_1_method_5_code 43 = .ok (.iconst (-1), 1) := by decide +kernel
theorem d_TM_begin_44 : decode prog_1_method_5_code 44 = .ok (.if_icmp .eq 36, 3) := by decide +kernel
theorem d_TM_begin_47 : decode prog_1_method_5_code 47 = .ok (.aload_n 0, 1) := by decide +kernel
theorem d_TM_begin_48 : decode prog_1_method_5_code 48 = .ok (.getfield 19, 3) := by decide +kernel
theorem d_TM_begin_51 : decode prog_1_method_5_code 51 = .ok (.iload_n 3, 1) := by decide +kernel
theorem d_TM_begin_52 : decode prog_1_method_5_code 52 = .ok (.iload_n 2, 1) := by decide +kernel
theorem d_TM_begin_53 : decode prog_1_method_5_code 53 = .ok (.invokevirtual 96, 3) := by decide +kernel
theorem d_TM_begin_56 : decode prog_1_method_5_code 56 = .ok (.iconst 4, 1) := by decide +kernel
theorem d_TM_begin_57 : decode prog_1_method_5_code 57 = .ok (.if_icmp .ne 23, 3) := by decide +kernel
theorem d_TM_begin_60 : decode prog_1_method_5_code 60 = .ok (.aload_n 0, 1) := by decide +kernel
theorem d_TM_begin_61 : decode prog_1_method_5_code 61 = .ok (.getfield 12, 3) := by decide +kernel
theorem d_TM_begin_64 : decode prog_1_method_5_code 64 = .ok (.aload_n 0, 1) := by decide +kernel
theorem d_TM_begin_65 : decode prog_1_method_5_code 65 = .ok (.getfield 19, 3) := by decide +kernel
theorem d_TM_begin_68 : decode prog_1_method_5_code 68 = .ok (.iload_n 3, 1) := by decide +kernel
theorem d_TM_begin_69 : decode prog_1_method_5_code 69 = .ok (.iload_n 2, 1) := by decide +kernel
theorem d_TM_begin_70 : decode prog_1_method_5_code 70 = .ok (.invokevirtual 99, 3) := by decide +kernel
theorem d_TM_begin_73 : decode prog_1_method_5_code 73 = .ok (.iconst 0, 1) := by decide +kernel
theorem d_TM_begin_74 : decode prog_1_method_5_code 74 = .ok (.invokevirtual 102, 3) := by decide +kernel
theorem d_TM_begin_77 : decode prog_1_method_5_code 77 = .ok (.ifCond .ne 13, 3) := by decide +kernel
theorem d_TM_begin_80 : decode prog_1_method_5_code 80 = .ok (.new 47, 3) := by decide +kernel
theorem d_TM_begin_83 : decode prog_1_method_5_code 83 = .ok (.dup, 1) := by decide +kernel
theorem d_TM_begin_84 : decode prog_1_method_5_code 84 = .ok (.ldc 105, 2) := by decide +kernel
theorem d_TM_begin_86 : decode prog_1_method_5_code 86 = .ok (.invokespecial 51, 3) := by decide +kernel
theorem d_TM_begin_89 : decode prog_1_method_5_code 89 = .ok (.athrow, 1) := by decide +kernel
theorem d_TM_begin_90 : decode prog_1_method_5_code 90 = .ok (.aload_n 0, 1) := by decide +kernel
theorem d_TM_begin_91 : decode prog_1_method_5_code 91 = .ok (.getfield 35, 3) := by decide +kernel
theorem d_TM_begin_94 : decode prog_1_method_5_code 94 = .ok (.getfield 58, 3) := by decide +kernel
theorem d_TM_begin_97 : decode prog_1_method_5_code 97 = .ok (.ifCond .ne 13, 3) := by decide +kernel
theorem d_TM_begin_100 : decode prog_1_method_5_code 100 = .ok (.new 61, 3) := by decide +kernel
theorem d_TM_begin_103 : decode prog_1_method_5_code 103 = .ok (.dup, 1) := by decide +kernel
theorem d_TM_begin_104 : decode prog_1_method_5_code 104 = .ok (.ldc 86, 2) := by decide +kernel
theorem d_TM_begin_106 : decode prog_1_method_5_code 106 = .ok (.invokespecial 65, 3) := by decide +kernel
theorem d_TM_begin_109 : decode prog_1_method_5_code 109 = .ok (.athrow, 1) := by decide +kernel
theorem d_TM_begin_110 : decode prog_1_method_5_code 110 = .ok (.aload_n 0, 1) := by decide +kernel
theorem d_TM_begin_111 : decode prog_1_method_5_code 111 = .ok (.getfield 35, 3) := by decide +kernel
theorem d_TM_begin_114 : decode prog_1_method_5_code 114 = .ok (.aload_n 0, 1) := by decide +kernel
theorem d_TM_begin_115 : decode prog_1_method_5_code 115 = .ok (.getfield 19, 3) := by decide +kernel
theorem d_TM_begin_118 : decode prog_1_method_5_code 118 = .ok (.iload_n 3, 1) := by decide +kernel
theorem d_TM_begin_119 : decode prog_1_method_5_code 119 = .ok (.iload_n 2, 1) := by decide +kernel
theorem d_TM_begin_120 : decode prog_1_method_5_code 120 = .ok (.invokevirtual 99, 3) := by decide +kernel
theorem d_TM_begin_123 : decode prog_1_method_5_code 123 = .ok (.iload_n 1, 1) := by decide +kernel
theorem d_TM_begin_124 : decode prog_1_method_5_code 124 = .ok (.iload_n 3, 1) := by decide +kernel
theorem d_TM_begin_125 : decode prog_1_method_5_code 125 = .ok (.invokevirtual 107, 3) := by decide +kernel
theorem d_TM_begin_128 : decode prog_1_method_5_code 128 = .ok (.return_, 1) := by decide +kernel
theorem d_TM_code_0 : decode prog_1_method_2_code 0 = .ok (.aload_n 0, 1) := by decide +kernel
theorem d_TM_code_1 : decode prog_1_method_2_code 1 = .ok (.getfield 12, 3) := by decide +kernel
theorem d_TM_code_4 : decode prog_1_method_2_code 4 = .ok (.iload_n 1, 1) := by decide +kernel
theorem d_TM_code_5 : decode prog_1_method_2_code 5 = .ok (.iload_n 2, 1) := by decide +kernel
theorem d_TM_code_6 : decode prog_1_method_2_code 6 = .ok (.invokevirtual 39, 3) := by decide +kernel
theorem d_TM_code_9 : decode prog_1_method_2_code 9 = .ok (.ireturn, 1) := by decide +kernel
theorem d_TM_collect_0 : decode prog_1_method_8_code 0 = .ok (.aload_n 0, 1) := by decide +kernel
theorem d_TM_collect_1 : decode prog_1_method_8_code 1 = .ok (.getfield 19, 3) := by decide +kernel
theorem d_TM_collect_4 : decode prog_1_method_8_code 4 = .ok (.invokevirtual 124, 3) := by decide +kernel
theorem d_TM_collect_7 : decode prog_1_method_8_code 7 = .ok (.aload_n 0, 1) := by decide +kernel
theorem d_TM_collect_8 : decode prog_1_method_8_code 8 = .ok (.getfield 35, 3) := by decide +kernel
theorem d_TM_collect_11 : decode prog_1_method_8_code 11 = .ok (.invokevirtual 127, 3) := by decide +kernel
theorem d_TM_collect_14 : decode prog_1_method_8_code 14 = .ok (.aload_n 0, 1) := by decide +kernel
theorem d_TM_collect_15 : decode prog_1_method_8_code 15 = .ok (.getfield 19, 3) := by decide +kernel
theorem d_TM_collect_18 : decode prog_1_method_8_code 18 = .ok (.invokevirtual 130, 3) := by decide +kernel
theorem d_TM_collect_21 : decode prog_1_method_8_code 21 = .ok (.ireturn, 1) := by decide +kernel
theorem d_TM_has_0 : decode prog_1_method_12_code 0 = .ok (.aload_n 0, 1) := by decide +kernel
theorem d_TM_has_1 : decode prog_1_method_12_code 1 = .ok (.getfield 19, 3) := by decide +kernel
theorem d_TM_has_4 : decode prog_1_method_12_code 4 = .ok (.iload_n 1, 1) := by decide +kernel
theorem d_TM_has_5 : decode prog_1_method_12_code 5 = .ok (.invokevirtual 73, 3) := by decide +kernel
theorem d_TM_has_8 : decode prog_1_method_12_code 8 = .ok (.ifCond .eq 22, 3) := by decide +kernel
theorem d_TM_has_11 : decode prog_1_method_12_code 11 = .ok (.iload_n 2, 1) := by decide +kernel
theorem d_TM_has_12 : decode prog_1_method_12_code 12 = .ok (.invokestatic 81, 3) := by decide +kernel
theorem d_TM_has_15 : decode prog_1_method_12_code 15 = .ok (.ifCond .eq 15, 3) := by decide +kernel
theorem d_TM_has_18 : decode prog_1_method_12_code 18 = .ok (.aload_n 0, 1) := by decide +kernel
theorem d_TM_has_19 : decode prog_1_method_12_code 19 = .ok (.getfield 19, 3) := by decide +kernel
theorem d_TM_has_22 : decode prog_1_method_12_code 22 = .ok (.iload_n 1, 1) := by decide +kernel
theorem d_TM_has_23 : decode prog_1_method_12_code 23 = .ok (.iload_n 2, 1) := by decide +kernel
theorem d_TM_has_24 : decode prog_1_method_12_code 24 = .ok (.invokevirtual 92, 3) := by decide +kernel
theorem d_TM_has_27 : decode prog_1_method_12_code 27 = .ok (.goto 4, 3) := by decide +kernel
theorem d_TM_has_30 : decode prog_1_method_12_code 30 = .ok (.iconst (-1), 1) := by decide +kernel
theorem d_TM_has_31 : decode prog_1_method_12_code 31 = .ok (.istore 4, 2) := by decide +kernel
theorem d_TM_has_33 : decode prog_1_method_12_code 33 = .ok (.iload 4, 2) := by decide +kernel
theorem d_TM_has_35 : decode prog_1_method_12_code 35 = .ok (.iconst (-1), 1) := by decide +kernel
theorem d_TM_has_36 : decode prog_1_method_12_code 36 = .ok (.if_icmp .eq 12, 3) := by decide +kernel
theorem d_TM_has_39 : decode prog_1_method_12_code 39 = .ok (.iload_n 3, 1) := by decide +kernel
theorem d_TM_has_40 : decode prog_1_method_12_code 40 = .ok (.ifCond .lt 8, 3) := by decide +kernel
theorem d_TM_has_43 : decode prog_1_method_12_code 43 = .ok (.iload_n 3, 1) := by decide +kernel
theorem d_TM_has_44 : decode prog_1_method_12_code 44 = .ok (.iconst 2, 1) := by decide +kernel
theorem d_TM_has_45 : decode prog_1_method_12_code 45 = .ok (.if_icmp .le 13, 3) := by decide +kernel
theorem d_TM_has_48 : decode prog_1_method_12_code 48 = .ok (.new 76, 3) := by decide +kernel
theorem d_TM_has_51 : decode prog_1_method_12_code 51 = .ok (.dup, 1) := by decide +kernel
theorem d_TM_has_52 : decode prog_1_method_12_code 52 = .ok (.ldc 177, 2) := by decide +kernel
theorem d_TM_has_54 : decode prog_1_method_12_code 54 = .ok (.invokespecial 80, 3) := by decide +kernel
theorem d_TM_has_57 : decode prog_1_method_12_code 57 = .ok (.athrow, 1) := by decide +kernel
theorem d_TM_has_58 : decode prog_1_method_12_code 58 = .ok (.iload_n 3, 1) := by decide +kernel
theorem d_TM_has_59 : decode prog_1_method_12_code 59 = .ok (.ifCond .ne 16, 3) := by decide +kernel
theorem d_TM_has_62 : decode prog_1_method_12_code 62 = .ok (.aload_n 0, 1) := by decide +kernel
theorem d_TM_has_63 : decode prog_1_method_12_code 63 = .ok (.getfield 19, 3) := by decide +kernel
theorem d_TM_has_66 : decode prog_1_method_12_code 66 = .ok (.iload 4, 2) := by decide +kernel
theorem d_TM_has_68 : decode prog_1_method_12_code 68 = .ok (.iload_n 2, 1) := by decide +kernel
theorem d_TM_has_69 : decode prog_1_method_12_code 69 = .ok (.invokevirtual 96, 3) := by decide +kernel
theorem d_TM_has_72 : decode prog_1_method_12_code 72 = .ok (.goto 23, 3) := by decide +kernel
theorem d_TM_has_75 : decode prog_1_method_12_code 75 = .ok (.iload_n 3, 1) := by decide +kernel
theorem d_TM_has_76 : decode prog_1_method_12_code 76 = .ok (.iconst 1, 1) := by decide +kernel
theorem d_TM_has_77 : decode prog_1_method_12_code 77 = .ok (.if_icmp .ne 16, 3) := by decide +kernel
theorem d_TM_has_80 : decode prog_1_method_12_code 80 = .ok (.aload_n 0, 1) := by decide +kernel
theorem d_TM_has_81 : decode prog_1_method_12_code 81 = .ok (.getfield 19, 3) := by decide +kernel
theorem d_TM_has_84 : decode prog_1_method_12_code 84 = .ok (.iload 4, 2) := by decide +kernel
theorem d_TM_has_86 : decode prog_1_method_12_code 86 = .ok (.iload_n 2, 1) := by decide +kernel
theorem d_TM_has_87 : decode prog_1_method_12_code 87 = .ok (.invokevirtual 99, 3) := by decide +kernel
theorem d_TM_has_90 : decode prog_1_method_12_code 90 = .ok (.goto 5, 3) := by decide +kernel
theorem d_TM_has_93 : decode prog_1_method_12_code 93 = .ok (.iload 4, 2) := by decide +kernel
theorem d_TM_has_95 : decode prog_1_method_12_code 95 = .ok (.ireturn, 1) := by decide +kernel
theorem d_TM_isOf_0 : decode prog_1_method_13_code 0 = .ok (.aload_n 0, 1) := by decide +kernel
theorem d_TM_isOf_1 : decode prog_1_method_13_code 1 = .ok (.getfield 19, 3) := by decide +kernel
theorem d_TM_isOf_4 : decode prog_1_method_13_code 4 = .ok (.iload_n 1, 1) := by decide +kernel
theorem d_TM_isOf_5 : decode prog_1_method_13_code 5 = .ok (.iload_n 2, 1) := by decide +kernel
theorem d_TM_isOf_6 : decode prog_1_method_13_code 6 = .ok (.invokevirtual 179, 3) := by decide +kernel
theorem d_TM_isOf_9 : decode prog_1_method_13_code 9 = .ok (.ireturn, 1) := by decide +kernel
theorem d_TM_isProperty_0 : decode prog_1_method_14_code 0 = .ok (.iload_n 0, 1) := by decide +kernel
theorem d_TM_isProperty_1 : decode prog_1_method_14_code 1 = .ok (.ifCond .lt 13, 3) := by decide +kernel
theorem d_TM_isProperty_4 : decode prog_1_method_14_code 4 = .ok (.iload_n 0, 1) := by decide +kernel
theorem d_TM_isProperty_5 : decode prog_1_method_14_code 5 = .ok (.bipush 8, 2) := by decide +kernel
theorem d_TM_isProperty_7 : decode prog_1_method_14_code 7 = .ok (.if_icmp .ge 7, 3) := by decide +kernel
theorem d_TM_isProperty_10 : decode prog_1_method_14_code 10 = .ok (.iconst 1, 1) := by decide +kernel
theorem d_TM_isProperty_11 : decode prog_1_method_14_code 11 = .ok (.goto 4, 3) := by decide +kernel
theorem d_TM_isProperty_14 : decode prog_1_method_14_code 14 = .ok (.iconst 0, 1) := by decide +kernel
theorem d_TM_isProperty_15 : decode prog_1_method_14_code 15 = .ok (.ireturn, 1) := by decide +kernel
theorem d_TM_object_0 : decode prog_1_method_3_code 0 = .ok (.iload_n 1, 1) := by decide +kernel
theorem d_TM_object_1 : decode prog_1_method_3_code 1 = .ok (.iconst (-1), 1) := by decide +kernel
theorem d_TM_object_2 : decode prog_1_method_3_code 2 = .ok (.if_icmp .ne 7, 3) := by decide +kernel
theorem d_TM_object_5 : decode prog_1_method_3_code 5 = .ok (.iconst 0, 1) := by decide +kernel
theorem d_TM_object_6 : decode prog_1_method_3_code 6 = .ok (.goto 22, 3) := by decide +kernel
theorem d_TM_object_9 : decode prog_1_method_3_code 9 = .ok (.iload_n 2, 1) := by decide +kernel
theorem d_TM_object_10 : decode prog_1_method_3_code 10 = .ok (.iconst (-1), 1) := by decide +kernel
theorem d_TM_object_11 : decode prog_1_method_3_code 11 = .ok (.if_icmp .ne 7, 3) := by decide +kernel
theorem d_TM_object_14 : decode prog_1_method_3_code 14 = .ok (.iconst 1, 1) := by decide +kernel
theorem d_TM_object_15 : decode prog_1_method_3_code 15 = .ok (.goto 13, 3) := by decide +kernel
theorem d_TM_object_18 : decode prog_1_method_3_code 18 = .ok (.iload_n 3, 1) := by decide +kernel
theorem d_TM_object_19 : decode prog_1_method_3_code 19 = .ok (.iconst (-1), 1) := by decide +kernel
theorem d_TM_object_20 : decode prog_1_method_3_code 20 = .ok (.if_icmp .ne 7, 3) := by decide +kernel
theorem d_TM_object_23 : decode prog_1_method_3_code 23 = .ok (.iconst 2, 1) := by decide +kernel
theorem d_TM_object_24 : decode prog_1_method_3_code 24 = .ok (.goto 4, 3) := by decide +kernel
theorem d_TM_object_27 : decode prog_1_method_3_code 27 = .ok (.iconst 3, 1) := by decide +kernel
theorem d_TM_object_28 : decode prog_1_method_3_code 28 = .ok (.istore 4, 2) := by decide +kernel
theorem d_TM_object_30 : decode prog_1_method_3_code 30 = .ok (.iload 4, 2) := by decide +kernel
theorem d_TM_object_32 : decode prog_1_method_3_code 32 = .ok (.ifCond .le 14, 3) := by decide +kernel
theorem d_TM_object_35 : decode prog_1_method_3_code 35 = .ok (.aload_n 0, 1) := by decide +kernel
theorem d_TM_object_36 : decode prog_1_method_3_code 36 = .ok (.getfield 19, 3) := by decide +kernel
theorem d_TM_object_39 : decode prog_1_method_3_code 39 = .ok (.iload_n 1, 1) := by decide +kernel
theorem d_TM_object_40 : decode prog_1_method_3_code 40 = .ok (.invokevirtual 43, 3) := by decide +kernel
theorem d_TM_object_43 : decode prog_1_method_3_code 43 = .ok (.ifCond .eq 37, 3) := by decide +kernel
theorem d_TM_object_46 : decode prog_1_method_3_code 46 = .ok (.iload 4, 2) := by decide +kernel
theorem d_TM_object_48 : decode prog_1_method_3_code 48 = .ok (.iconst 1, 1) := by decide +kernel
theorem d_TM_object_49 : decode prog_1_method_3_code 49 = .ok (.if_icmp .le 14, 3) := by decide +kernel
theorem d_TM_object_52 : decode prog_1_method_3_code 52 = .ok (.aload_n 0, 1) := by decide +kernel
theorem d_TM_object_53 : decode prog_1_method_3_code 53 = .ok (.getfield 19, 3) := by decide +kernel
theorem d_TM_object_56 : decode prog_1_method_3_code 56 = .ok (.iload_n 2, 1) := by decide +kernel
theorem d_TM_object_57 : decode prog_1_method_3_code 57 = .ok (.invokevirtual 43, 3) := by decide +kernel
theorem d_TM_object_60 : decode prog_1_method_3_code 60 = .ok (.ifCond .eq 20, 3) := by decide +kernel
theorem d_TM_object_63 : decode prog_1_method_3_code 63 = .ok (.iload 4, 2) := by decide +kernel
theorem d_TM_object_65 : decode prog_1_method_3_code 65 = .ok (.iconst 2, 1) := by decide +kernel
theorem d_TM_object_66 : decode prog_1_method_3_code 66 = .ok (.if_icmp .le 24, 3) := by decide +kernel
theorem d_TM_object_69 : decode prog_1_method_3_code 69 = .ok (.aload_n 0, 1) := by decide +kernel
theorem d_TM_object_70 : decode prog_1_method_3_code 70 = .ok (.getfield 19, 3) := by decide +kernel
theorem d_TM_object_73 : decode prog_1_method_3_code 73 = .ok (.iload_n 3, 1) := by decide +kernel
theorem d_TM_object_74 : decode prog_1_method_3_code 74 = .ok (.invokevirtual 43, 3) := by decide +kernel
theorem d_TM_object_77 : decode prog_1_method_3_code 77 = .ok (.ifCond .ne 13, 3) := by decide +kernel
theorem d_TM_object_80 : decode prog_1_method_3_code 80 = .ok (.new 47, 3) := by decide +kernel
theorem d_TM_object_83 : decode prog_1_method_3_code 83 = .ok (.dup, 1) := by decide +kernel
theorem d_TM_object_84 : decode prog_1_method_3_code 84 = .ok (.ldc 49, 2) := by decide +kernel
theorem d_TM_object_86 : decode prog_1_method_3_code 86 = .ok (.invokespecial 51, 3) := by decide +kernel
theorem d_TM_object_89 : decode prog_1_method_3_code 89 = .ok (.athrow, 1) := by decide +kernel
theorem d_TM_object_90 : decode prog_1_method_3_code 90 = .ok (.aload_n 0, 1) := by decide +kernel
theorem d_TM_object_91 : decode prog_1_method_3_code 91 = .ok (.getfield 19, 3) := by decide +kernel
theorem d_TM_object_94 : decode prog_1_method_3_code 94 = .ok (.getfield 54, 3) := by decide +kernel
theorem d_TM_object_97 : decode prog_1_method_3_code 97 = .ok (.bipush 16, 2) := by decide +kernel
theorem d_TM_object_99 : decode prog_1_method_3_code 99 = .ok (.if_icmp .eq 13, 3) := by decide +kernel
theorem d_TM_object_102 : decode prog_1_method_3_code 102 = .ok (.aload_n 0, 1) := by decide +kernel
theorem d_TM_object_103 : decode prog_1_method_3_code 103 = .ok (.getfield 35, 3) := by decide +kernel
theorem d_TM_object_106 : decode prog_1_method_3_code 106 = .ok (.getfield 58, 3) := by decide +kernel
theorem d_TM_object_109 : decode prog_1_method_3_code 109 = .ok (.ifCond .ne 13, 3) := by decide +kernel
theorem d_TM_object_112 : decode prog_1_method_3_code 112 = .ok (.new 61, 3) := by decide +kernel
theorem d_TM_object_115 : decode prog_1_method_3_code 115 = .ok (.dup, 1) := by decide +kernel
theorem d_TM_object_116 : decode prog_1_method_3_code 116 = .ok (.ldc 63, 2) := by decide +kernel
theorem d_TM_object_118 : decode prog_1_method_3_code 118 = .ok (.invokespecial 65, 3) := by decide +kernel
theorem d_TM_object_121 : decode prog_1_method_3_code 121 = .ok (.athrow, 1) := by decide +kernel
theorem d_TM_object_122 : decode prog_1_method_3_code 122 = .ok (.aload_n 0, 1) := by decide +kernel
theorem d_TM_object_123 : decode prog_1_method_3_code 123 = .ok (.getfield 26, 3) := by decide +kernel
theorem d_TM_object_126 : decode prog_1_method_3_code 126 = .ok (.invokevirtual 66, 3) := by decide +kernel
theorem d_TM_object_129 : decode prog_1_method_3_code 129 = .ok (.aload_n 0, 1) := by decide +kernel
theorem d_TM_object_130 : decode prog_1_method_3_code 130 = .ok (.getfield 19, 3) := by decide +kernel
theorem d_TM_object_133 : decode prog_1_method_3_code 133 = .ok (.iload 4, 2) := by decide +kernel
theorem d_TM_object_135 : decode prog_1_method_3_code 135 = .ok (.iload_n 1, 1) := by decide +kernel
theorem d_TM_object_136 : decode prog_1_method_3_code 136 = .ok (.iload_n 2, 1) := by decide +kernel
theorem d_TM_object_137 : decode prog_1_method_3_code 137 = .ok (.iload_n 3, 1) := by decide +kernel
theorem d_TM_object_138 : decode prog_1_method_3_code 138 = .ok (.invokevirtual 69, 3) := by decide +kernel
theorem d_TM_object_141 : decode prog_1_method_3_code 141 = .ok (.ireturn, 1) := by decide +kernel
theorem d_TM_part_0 : decode prog_1_method_15_code 0 = .ok (.iload_n 1, 1) := by decide +kernel
theorem d_TM_part_1 : decode prog_1_method_15_code 1 = .ok (.ifCond .lt 20, 3) := by decide +kernel
theorem d_TM_part_4 : decode prog_1_method_15_code 4 = .ok (.iload_n 1, 1) := by decide +kernel
theorem d_TM_part_5 : decode prog_1_method_15_code 5 = .ok (.aload_n 0, 1) := by decide +kernel
theorem d_TM_part_6 : decode prog_1_method_15_code 6 = .ok (.getfield 168, 3) := by decide +kernel
theorem d_TM_part_9 : decode prog_1_method_15_code 9 = .ok (.if_icmp .ge 12, 3) := by decide +kernel
theorem d_TM_part_12 : decode prog_1_method_15_code 12 = .ok (.iload_n 2, 1) := by decide +kernel
theorem d_TM_part_13 : decode prog_1_method_15_code 13 = .ok (.ifCond .lt 8, 3) := by decide +kernel
theorem d_TM_part_16 : decode prog_1_method_15_code 16 = .ok (.iload_n 2, 1) := by decide +kernel
theorem d_TM_part_17 : decode prog_1_method_15_code 17 = .ok (.iconst 1, 1) := by decide +kernel
theorem d_TM_part_18 : decode prog_1_method_15_code 18 = .ok (.if_icmp .le 13, 3) := by decide +kernel
theorem d_TM_part_21 : decode prog_1_method_15_code 21 = .ok (.new 76, 3) := by decide +kernel
theorem d_TM_part_24 : decode prog_1_method_15_code 24 = .ok (.dup, 1) := by decide +kernel
theorem d_TM_part_25 : decode prog_1_method_15_code 25 = .ok (.ldc 182, 2) := by decide +kernel
theorem d_TM_part_27 : decode prog_1_method_15_code 27 = .ok (.invokespecial 80, 3) := by decide +kernel
theorem d_TM_part_30 : decode prog_1_method_15_code 30 = .ok (.athrow, 1) := by decide +kernel
theorem d_TM_part_31 : decode prog_1_method_15_code 31 = .ok (.iload_n 2, 1) := by decide +kernel
theorem d_TM_part_32 : decode prog_1_method_15_code 32 = .ok (.ifCond .ne 12, 3) := by decide +kernel
theorem d_TM_part_35 : decode prog_1_method_15_code 35 = .ok (.aload_n 0, 1) := by decide +kernel
theorem d_TM_part_36 : decode prog_1_method_15_code 36 = .ok (.getfield 184, 3) := by decide +kernel
theorem d_TM_part_39 : decode prog_1_method_15_code 39 = .ok (.iload_n 1, 1) := by decide +kernel
theorem d_TM_part_40 : decode prog_1_method_15_code 40 = .ok (.iaload, 1) := by decide +kernel
theorem d_TM_part_41 : decode prog_1_method_15_code 41 = .ok (.goto 9, 3) := by decide +kernel
theorem d_TM_part_44 : decode prog_1_method_15_code 44 = .ok (.aload_n 0, 1) := by decide +kernel
theorem d_TM_part_45 : decode prog_1_method_15_code 45 = .ok (.getfield 188, 3) := by decide +kernel
theorem d_TM_part_48 : decode prog_1_method_15_code 48 = .ok (.iload_n 1, 1) := by decide +kernel
theorem d_TM_part_49 : decode prog_1_method_15_code 49 = .ok (.iaload, 1) := by decide +kernel
theorem d_TM_part_50 : decode prog_1_method_15_code 50 = .ok (.ireturn, 1) := by decide +kernel
theorem d_TM_property_0 : decode prog_1_method_4_code 0 = .ok (.aload_n 0, 1) := by decide +kernel
theorem d_TM_property_1 : decode prog_1_method_4_code 1 = .ok (.getfield 19, 3) := by decide +kernel
theorem d_TM_property_4 : decode prog_1_method_4_code 4 = .ok (.iload_n 1, 1) := by decide +kernel
theorem d_TM_property_5 : decode prog_1_method_4_code 5 = .ok (.invokevirtual 73, 3) := by decide +kernel
theorem d_TM_property_8 : decode prog_1_method_4_code 8 = .ok (.ifCond .ne 13, 3) := by decide +kernel
theorem d_TM_property_11 : decode prog_1_method_4_code 11 = .ok (.new 76, 3) := by decide +kernel
theorem d_TM_property_14 : decode prog_1_method_4_code 14 = .ok (.dup, 1) := by decide +kernel
theorem d_TM_property_15 : decode prog_1_method_4_code 15 = .ok (.ldc 78, 2) := by decide +kernel
theorem d_TM_property_17 : decode prog_1_method_4_code 17 = .ok (.invokespecial 80, 3) := by decide +kernel
theorem d_TM_property_20 : decode prog_1_method_4_code 20 = .ok (.athrow, 1) := by decide +kernel
theorem d_TM_property_21 : decode prog_1_method_4_code 21 = .ok (.iload_n 2, 1) := by decide +kernel
theorem d_TM_property_22 : decode prog_1_method_4_code 22 = .ok (.invokestatic 81, 3) := by decide +kernel
theorem d_TM_property_25 : decode prog_1_method_4_code 25 = .ok (.ifCond .eq 48, 3) := by decide +kernel
theorem d_TM_property_28 : decode prog_1_method_4_code 28 = .ok (.iload_n 3, 1) := by decide +kernel
theorem d_TM_property_29 : decode prog_1_method_4_code 29 = .ok (.iconst (-1), 1) := by decide +kernel
theorem d_TM_property_30 : decode prog_1_method_4_code 30 = .ok (.if_icmp .lt 43, 3) := by decide +kernel
theorem d_TM_property_33 : decode prog_1_method_4_code 33 = .ok (.iload_n 3, 1) := by decide +kernel
theorem d_TM_property_34 : decode prog_1_method_4_code 34 = .ok (.iconst 4, 1) := by decide +kernel
theorem d_TM_property_35 : decode prog_1_method_4_code 35 = .ok (.if_icmp .gt 38, 3) := by decide +kernel
theorem d_TM_property_38 : decode prog_1_method_4_code 38 = .ok (.iload_n 3, 1) := by decide +kernel
theorem d_TM_property_39 : decode prog_1_method_4_code 39 = .ok (.iconst 3, 1) := by decide +kernel
theorem d_TM_property_40 : decode prog_1_method_4_code 40 = .ok (.if_icmp .ne 15, 3) := by decide +kernel
theorem d_TM_property_43 : decode prog_1_method_4_code 43 = .ok (.aload_n 0, 1) := by decide +kernel
theorem d_TM_property_44 : decode prog_1_method_4_code 44 = .ok (.getfield 19, 3) := by decide +kernel
theorem d_TM_property_47 : decode prog_1_method_4_code 47 = .ok (.iload 4, 2) := by decide +kernel
theorem d_TM_property_49 : decode prog_1_method_4_code 49 = .ok (.invokevirtual 73, 3) := by decide +kernel
theorem d_TM_property_52 : decode prog_1_method_4_code 52 = .ok (.ifCond .eq 21, 3) := by decide +kernel
theorem d_TM_property_55 : decode prog_1_method_4_code 55 = .ok (.iload_n 3, 1) := by decide +kernel
theorem d_TM_property_56 : decode prog_1_method_4_code 56 = .ok (.iconst 4, 1) := by decide +kernel
theorem d_TM_property_57 : decode prog_1_method_4_code 57 = .ok (.if_icmp .ne 26, 3) := by decide +kernel
theorem d_TM_property_60 : decode prog_1_method_4_code 60 = .ok (.iload 4, 2) := by decide +kernel
theorem d_TM_property_62 : decode prog_1_method_4_code 62 = .ok (.ifCond .lt 11, 3) := by decide +kernel
theorem d_TM_property_65 : decode prog_1_method_4_code 65 = .ok (.iload 4, 2) := by decide +kernel
theorem d_TM_property_67 : decode prog_1_method_4_code 67 = .ok (.sipush 300, 3) := by decide +kernel
theorem d_TM_property_70 : decode prog_1_method_4_code 70 = .ok (.if_icmp .lt 13, 3) := by decide +kernel
theorem d_TM_property_73 : decode prog_1_method_4_code 73 = .ok (.new 47, 3) := by decide +kernel
theorem d_TM_property_76 : decode prog_1_method_4_code 76 = .ok (.dup, 1) := by decide +kernel
theorem d_TM_property_77 : decode prog_1_method_4_code 77 = .ok (.ldc 84, 2) := by decide +kernel
theorem d_TM_property_79 : decode prog_1_method_4_code 79 = .ok (.invokespecial 51, 3) := by decide +kernel
theorem d_TM_property_82 : decode prog_1_method_4_code 82 = .ok (.athrow, 1) := by decide +kernel
theorem d_TM_property_83 : decode prog_1_method_4_code 83 = .ok (.aload_n 0, 1) := by decide +kernel
theorem d_TM_property_84 : decode prog_1_method_4_code 84 = .ok (.getfield 35, 3) := by decide +kernel
theorem d_TM_property_87 : decode prog_1_method_4_code 87 = .ok (.getfield 58, 3) := by decide +kernel
theorem d_TM_property_90 : decode prog_1_method_4_code 90 = .ok (.ifCond .ne 13, 3) := by decide +kernel
theorem d_TM_property_93 : decode prog_1_method_4_code 93 = .ok (.new 61, 3) := by decide +kernel
theorem d_TM_property_96 : decode prog_1_method_4_code 96 = .ok (.dup, 1) := by decide +kernel
theorem d_TM_property_97 : decode prog_1_method_4_code 97 = .ok (.ldc 86, 2) := by decide +kernel
theorem d_TM_property_99 : decode prog_1_method_4_code 99 = .ok (.invokespecial 65, 3) := by decide +kernel
theorem d_TM_property_102 : decode prog_1_method_4_code 102 = .ok (.athrow, 1) := by decide +kernel
theorem d_TM_property_103 : decode prog_1_method_4_code 103 = .ok (.aload_n 0, 1) := by decide +kernel
theorem d_TM_property_104 : decode prog_1_method_4_code 104 = .ok (.getfield 19, 3) := by decide +kernel
theorem d_TM_property_107 : decode prog_1_method_4_code 107 = .ok (.iload_n 1, 1) := by decide +kernel
theorem d_TM_property_108 : decode prog_1_method_4_code 108 = .ok (.iload_n 2, 1) := by decide +kernel
theorem d_TM_property_109 : decode prog_1_method_4_code 109 = .ok (.iload_n 3, 1) := by decide +kernel
theorem d_TM_property_110 : decode prog_1_method_4_code 110 = .ok (.iload_n 3, 1) := by decide +kernel
theorem d_TM_property_111 : decode prog_1_method_4_code 111 = .ok (.ifCond .ne 7, 3) := by decide +kernel
theorem d_TM_property_114 : decode prog_1_method_4_code 114 = .ok (.iconst 0, 1) := by decide +kernel
theorem d_TM_property_115 : decode prog_1_method_4_code 115 = .ok (.goto 14, 3) := by decide +kernel
theorem d_TM_property_118 : decode prog_1_method_4_code 118 = .ok (.iload_n 3, 1) := by decide +kernel
theorem d_TM_property_119 : decode prog_1_method_4_code 119 = .ok (.iconst 1, 1) := by decide +kernel
theorem d_TM_property_120 : decode prog_1_method_4_code 120 = .ok (.if_icmp .ne 7, 3) := by decide +kernel
theorem d_TM_property_123 : decode prog_1_method_4_code 123 = .ok (.iconst 1, 1) := by decide +kernel
theorem d_TM_property_124 : decode prog_1_method_4_code 124 = .ok (.goto 5, 3) := by decide +kernel
