theorem dX10_step_25 : decode cX10_step 25 = .ok (.if_icmp .lt 5, 3) := by decide +kernel
theorem dX10_step_28 : decode cX10_step 28 = .ok (.iconst (-1), 1) := by decide +kernel
theorem dX10_step_29 : decode cX10_step 29 = .ok (.ireturn, 1) := by decide +kernel
theorem dX10_step_30 : decode cX10_step 30 = .ok (.aload_n 0, 1) := by decide +kernel
theorem dX10_step_31 : decode cX10_step 31 = .ok (.getfield 54, 3) := by decide +kernel
theorem dX10_step_34 : decode cX10_step 34 = .ok (.iload_n 1, 1) := by decide +kernel
theorem dX10_step_35 : decode cX10_step 35 = .ok (.iload_n 2, 1) := by decide +kernel
theorem dX10_step_36 : decode cX10_step 36 = .ok (.invokevirtual 240, 3) := by decide +kernel
theorem dX10_step_39 : decode cX10_step 39 = .ok (.ifCond .eq 15, 3) := by decide +kernel
theorem dX10_step_42 : decode cX10_step 42 = .ok (.aload_n 0, 1) := by decide +kernel
theorem dX10_step_43 : decode cX10_step 43 = .ok (.getfield 54, 3) := by decide +kernel
theorem dX10_step_46 : decode cX10_step 46 = .ok (.getfield 239, 3) := by decide +kernel
theorem dX10_step_49 : decode cX10_step 49 = .ok (.iconst 1, 1) := by decide +kernel
theorem dX10_step_50 : decode cX10_step 50 = .ok (.isub, 1) := by decide +kernel
theorem dX10_step_51 : decode cX10_step 51 = .ok (.goto 5, 3) := by decide +kernel
theorem dX10_step_54 : decode cX10_step 54 = .ok (.bipush (-2), 2) := by decide +kernel
theorem dX10_step_56 : decode cX10_step 56 = .ok (.ireturn, 1) := by decide +kernel
theorem dX10_setups_0 : decode cX10_setups 0 = .ok (.aload_n 0, 1) := by decide +kernel
theorem dX10_setups_1 : decode cX10_setups 1 = .ok (.getfield 54, 3) := by decide +kernel
theorem dX10_setups_4 : decode cX10_setups 4 = .ok (.invokevirtual 242, 3) := by decide +kernel
theorem dX10_setups_7 : decode cX10_setups 7 = .ok (.aload_n 0, 1) := by decide +kernel
theorem dX10_setups_8 : decode cX10_setups 8 = .ok (.getfield 54, 3) := by decide +kernel
theorem dX10_setups_11 : decode cX10_setups 11 = .ok (.getfield 245, 3) := by decide +kernel
theorem dX10_setups_14 : decode cX10_setups 14 = .ok (.ireturn, 1) := by decide +kernel
theorem dX10_setup_0 : decode cX10_setup 0 = .ok (.iload_n 1, 1) := by decide +kernel
theorem dX10_setup_1 : decode cX10_setup 1 = .ok (.ifCond .lt 12, 3) := by decide +kernel
theorem dX10_setup_4 : decode cX10_setup 4 = .ok (.iload_n 2, 1) := by decide +kernel
theorem dX10_setup_5 : decode cX10_setup 5 = .ok (.ifCond .lt 8, 3) := by decide +kernel
theorem dX10_setup_8 : decode cX10_setup 8 = .ok (.iload_n 2, 1) := by decide +kernel
theorem dX10_setup_9 : decode cX10_setup 9 = .ok (.iconst 1, 1) := by decide +kernel
theorem dX10_setup_10 : decode cX10_setup 10 = .ok (.if_icmp .le 5, 3) := by decide +kernel
theorem dX10_setup_13 : decode cX10_setup 13 = .ok (.iconst (-1), 1) := by decide +kernel
theorem dX10_setup_14 : decode cX10_setup 14 = .ok (.ireturn, 1) := by decide +kernel
theorem dX10_setup_15 : decode cX10_setup 15 = .ok (.aload_n 0, 1) := by decide +kernel
theorem dX10_setup_16 : decode cX10_setup 16 = .ok (.getfield 54, 3) := by decide +kernel
theorem dX10_setup_19 : decode cX10_setup 19 = .ok (.invokevirtual 242, 3) := by decide +kernel
theorem dX10_setup_22 : decode cX10_setup 22 = .ok (.iload_n 1, 1) := by decide +kernel
theorem dX10_setup_23 : decode cX10_setup 23 = .ok (.aload_n 0, 1) := by decide +kernel
theorem dX10_setup_24 : decode cX10_setup 24 = .ok (.getfield 54, 3) := by decide +kernel
theorem dX10_setup_27 : decode cX10_setup 27 = .ok (.getfield 245, 3) := by decide +kernel
theorem dX10_setup_30 : decode cX10_setup 30 = .ok (.if_icmp .ge 9, 3) := by decide +kernel
theorem dX10_setup_33 : decode cX10_setup 33 = .ok (.iload_n 1, 1) := by decide +kernel
theorem dX10_setup_34 : decode cX10_setup 34 = .ok (.bipush 12, 2) := by decide +kernel
theorem dX10_setup_36 : decode cX10_setup 36 = .ok (.if_icmp .lt 6, 3) := by decide +kernel
theorem dX10_setup_39 : decode cX10_setup 39 = .ok (.bipush (-3), 2) := by decide +kernel
theorem dX10_setup_41 : decode cX10_setup 41 = .ok (.ireturn, 1) := by decide +kernel
theorem dX10_setup_42 : decode cX10_setup 42 = .ok (.iload_n 2, 1) := by decide +kernel
theorem dX10_setup_43 : decode cX10_setup 43 = .ok (.ifCond .ne 15, 3) := by decide +kernel
theorem dX10_setup_46 : decode cX10_setup 46 = .ok (.aload_n 0, 1) := by decide +kernel
theorem dX10_setup_47 : decode cX10_setup 47 = .ok (.getfield 54, 3) := by decide +kernel
theorem dX10_setup_50 : decode cX10_setup 50 = .ok (.getfield 248, 3) := by decide +kernel
theorem dX10_setup_53 : decode cX10_setup 53 = .ok (.iload_n 1, 1) := by decide +kernel
theorem dX10_setup_54 : decode cX10_setup 54 = .ok (.iaload, 1) := by decide +kernel
theorem dX10_setup_55 : decode cX10_setup 55 = .ok (.goto 12, 3) := by decide +kernel
theorem dX10_setup_58 : decode cX10_setup 58 = .ok (.aload_n 0, 1) := by decide +kernel
theorem dX10_setup_59 : decode cX10_setup 59 = .ok (.getfield 54, 3) := by decide +kernel
theorem dX10_setup_62 : decode cX10_setup 62 = .ok (.getfield 251, 3) := by decide +kernel
theorem dX10_setup_65 : decode cX10_setup 65 = .ok (.iload_n 1, 1) := by decide +kernel
theorem dX10_setup_66 : decode cX10_setup 66 = .ok (.iaload, 1) := by decide +kernel
theorem dX10_setup_67 : decode cX10_setup 67 = .ok (.ireturn, 1) := by decide +kernel
theorem dX10_told_0 : decode cX10_told 0 = .ok (.iload_n 1, 1) := by decide +kernel
theorem dX10_told_1 : decode cX10_told 1 = .ok (.ifCond .lt 14, 3) := by decide +kernel
theorem dX10_told_4 : decode cX10_told 4 = .ok (.iload_n 2, 1) := by decide +kernel
theorem dX10_told_5 : decode cX10_told 5 = .ok (.iconst 1, 1) := by decide +kernel
theorem dX10_told_6 : decode cX10_told 6 = .ok (.if_icmp .lt 9, 3) := by decide +kernel
theorem dX10_told_9 : decode cX10_told 9 = .ok (.iload_n 2, 1) := by decide +kernel
theorem dX10_told_10 : decode cX10_told 10 = .ok (.bipush 10, 2) := by decide +kernel
theorem dX10_told_12 : decode cX10_told 12 = .ok (.if_icmp .le 5, 3) := by decide +kernel
theorem dX10_told_15 : decode cX10_told 15 = .ok (.iconst (-1), 1) := by decide +kernel
theorem dX10_told_16 : decode cX10_told 16 = .ok (.ireturn, 1) := by decide +kernel
theorem dX10_told_17 : decode cX10_told 17 = .ok (.iload_n 1, 1) := by decide +kernel
theorem dX10_told_18 : decode cX10_told 18 = .ok (.istore_n 3, 1) := by decide +kernel
theorem dX10_told_19 : decode cX10_told 19 = .ok (.iconst 0, 1) := by decide +kernel
theorem dX10_told_20 : decode cX10_told 20 = .ok (.istore 4, 2) := by decide +kernel
theorem dX10_told_22 : decode cX10_told 22 = .ok (.iload 4, 2) := by decide +kernel
theorem dX10_told_24 : decode cX10_told 24 = .ok (.iload_n 2, 1) := by decide +kernel
theorem dX10_told_25 : decode cX10_told 25 = .ok (.if_icmp .ge 14, 3) := by decide +kernel
theorem dX10_told_28 : decode cX10_told 28 = .ok (.iload_n 3, 1) := by decide +kernel
theorem dX10_told_29 : decode cX10_told 29 = .ok (.bipush 6, 2) := by decide +kernel
theorem dX10_told_31 : decode cX10_told 31 = .ok (.idiv, 1) := by decide +kernel
theorem dX10_told_32 : decode cX10_told 32 = .ok (.istore_n 3, 1) := by decide +kernel
theorem dX10_told_33 : decode cX10_told 33 = .ok (.iinc 4 1, 3) := by decide +kernel
theorem dX10_told_36 : decode cX10_told 36 = .ok (.goto (-14), 3) := by decide +kernel
theorem dX10_told_39 : decode cX10_told 39 = .ok (.iload_n 3, 1) := by decide +kernel
theorem dX10_told_40 : decode cX10_told 40 = .ok (.ifCond .eq 5, 3) := by decide +kernel
theorem dX10_told_43 : decode cX10_told 43 = .ok (.iconst (-1), 1) := by decide +kernel
theorem dX10_told_44 : decode cX10_told 44 = .ok (.ireturn, 1) := by decide +kernel
theorem dX10_told_45 : decode cX10_told 45 = .ok (.aload_n 0, 1) := by decide +kernel
theorem dX10_told_46 : decode cX10_told 46 = .ok (.getfield 54, 3) := by decide +kernel
theorem dX10_told_49 : decode cX10_told 49 = .ok (.iload_n 1, 1) := by decide +kernel
theorem dX10_told_50 : decode cX10_told 50 = .ok (.iload_n 2, 1) := by decide +kernel
theorem dX10_told_51 : decode cX10_told 51 = .ok (.invokevirtual 254, 3) := by decide +kernel
theorem dX10_told_54 : decode cX10_told 54 = .ok (.istore 4, 2) := by decide +kernel
theorem dX10_told_56 : decode cX10_told 56 = .ok (.iload 4, 2) := by decide +kernel
theorem dX10_told_58 : decode cX10_told 58 = .ok (.ifCond .ge 8, 3) := by decide +kernel
theorem dX10_told_61 : decode cX10_told 61 = .ok (.bipush (-4), 2) := by decide +kernel
theorem dX10_told_63 : decode cX10_told 63 = .ok (.goto 5, 3) := by decide +kernel
theorem dX10_told_66 : decode cX10_told 66 = .ok (.iload 4, 2) := by decide +kernel
theorem dX10_told_68 : decode cX10_told 68 = .ok (.ireturn, 1) := by decide +kernel
theorem dX10_point_0 : decode cX10_point 0 = .ok (.iload_n 1, 1) := by decide +kernel
theorem dX10_point_1 : decode cX10_point 1 = .ok (.sipush 200, 3) := by decide +kernel
theorem dX10_point_4 : decode cX10_point 4 = .ok (.invokestatic 258, 3) := by decide +kernel
theorem dX10_point_7 : decode cX10_point 7 = .ok (.ifCond .eq 13, 3) := by decide +kernel
theorem dX10_point_10 : decode cX10_point 10 = .ok (.iload_n 2, 1) := by decide +kernel
theorem dX10_point_11 : decode cX10_point 11 = .ok (.sipush 200, 3) := by decide +kernel
theorem dX10_point_14 : decode cX10_point 14 = .ok (.invokestatic 258, 3) := by decide +kernel
theorem dX10_point_17 : decode cX10_point 17 = .ok (.ifCond .ne 5, 3) := by decide +kernel
theorem dX10_point_20 : decode cX10_point 20 = .ok (.iconst (-1), 1) := by decide +kernel
theorem dX10_point_21 : decode cX10_point 21 = .ok (.ireturn, 1) := by decide +kernel
theorem dX10_point_22 : decode cX10_point 22 = .ok (.aload_n 0, 1) := by decide +kernel
theorem dX10_point_23 : decode cX10_point 23 = .ok (.getfield 61, 3) := by decide +kernel
theorem dX10_point_26 : decode cX10_point 26 = .ok (.iload_n 1, 1) := by decide +kernel
theorem dX10_point_27 : decode cX10_point 27 = .ok (.iload_n 2, 1) := by decide +kernel
theorem dX10_point_28 : decode cX10_point 28 = .ok (.invokevirtual 261, 3) := by decide +kernel
theorem dX10_point_31 : decode cX10_point 31 = .ok (.ifCond .eq 13, 3) := by decide +kernel
theorem dX10_point_34 : decode cX10_point 34 = .ok (.aload_n 0, 1) := by decide +kernel
theorem dX10_point_35 : decode cX10_point 35 = .ok (.getfield 61, 3) := by decide +kernel
theorem dX10_point_38 : decode cX10_point 38 = .ok (.getfield 262, 3) := by decide +kernel
theorem dX10_point_41 : decode cX10_point 41 = .ok (.goto 5, 3) := by decide +kernel
theorem dX10_point_44 : decode cX10_point 44 = .ok (.bipush (-2), 2) := by decide +kernel
theorem dX10_point_46 : decode cX10_point 46 = .ok (.ireturn, 1) := by decide +kernel
theorem dX10_tool_0 : decode cX10_tool 0 = .ok (.iload_n 1, 1) := by decide +kernel
theorem dX10_tool_1 : decode cX10_tool 1 = .ok (.ifCond .lt 9, 3) := by decide +kernel
theorem dX10_tool_4 : decode cX10_tool 4 = .ok (.iload_n 1, 1) := by decide +kernel
theorem dX10_tool_5 : decode cX10_tool 5 = .ok (.bipush 20, 2) := by decide +kernel
theorem dX10_tool_7 : decode cX10_tool 7 = .ok (.if_icmp .le 5, 3) := by decide +kernel
theorem dX10_tool_10 : decode cX10_tool 10 = .ok (.iconst (-1), 1) := by decide +kernel
theorem dX10_tool_11 : decode cX10_tool 11 = .ok (.ireturn, 1) := by decide +kernel
theorem dX10_tool_12 : decode cX10_tool 12 = .ok (.aload_n 0, 1) := by decide +kernel
theorem dX10_tool_13 : decode cX10_tool 13 = .ok (.getfield 61, 3) := by decide +kernel
theorem dX10_tool_16 : decode cX10_tool 16 = .ok (.getfield 262, 3) := by decide +kernel
theorem dX10_tool_19 : decode cX10_tool 19 = .ok (.istore_n 2, 1) := by decide +kernel
theorem dX10_tool_20 : decode cX10_tool 20 = .ok (.aload_n 0, 1) := by decide +kernel
theorem dX10_tool_21 : decode cX10_tool 21 = .ok (.getfield 61, 3) := by decide +kernel
theorem dX10_tool_24 : decode cX10_tool 24 = .ok (.iconst 0, 1) := by decide +kernel
theorem dX10_tool_25 : decode cX10_tool 25 = .ok (.putfield 262, 3) := by decide +kernel
theorem dX10_tool_28 : decode cX10_tool 28 = .ok (.aload_n 0, 1) := by decide +kernel
theorem dX10_tool_29 : decode cX10_tool 29 = .ok (.getfield 61, 3) := by decide +kernel
theorem dX10_tool_32 : decode cX10_tool 32 = .ok (.iload_n 1, 1) := by decide +kernel
theorem dX10_tool_33 : decode cX10_tool 33 = .ok (.putfield 263, 3) := by decide +kernel
theorem dX10_tool_36 : decode cX10_tool 36 = .ok (.iload_n 2, 1) := by decide +kernel
theorem dX10_tool_37 : decode cX10_tool 37 = .ok (.ireturn, 1) := by decide +kernel
theorem dX10_meets_0 : decode cX10_meets 0 = .ok (.aload_n 0, 1) := by decide +kernel
theorem dX10_meets_1 : decode cX10_meets 1 = .ok (.iload_n 1, 1) := by decide +kernel
theorem dX10_meets_2 : decode cX10_meets 2 = .ok (.invokevirtual 90, 3) := by decide +kernel
theorem dX10_meets_5 : decode cX10_meets 5 = .ok (.astore_n 2, 1) := by decide +kernel
theorem dX10_meets_6 : decode cX10_meets 6 = .ok (.aload_n 2, 1) := by decide +kernel
theorem dX10_meets_7 : decode cX10_meets 7 = .ok (.ifnonnull 5, 3) := by decide +kernel
theorem dX10_meets_10 : decode cX10_meets 10 = .ok (.iconst (-1), 1) := by decide +kernel
theorem dX10_meets_11 : decode cX10_meets 11 = .ok (.ireturn, 1) := by decide +kernel
theorem dX10_meets_12 : decode cX10_meets 12 = .ok (.aload_n 0, 1) := by decide +kernel
theorem dX10_meets_13 : decode cX10_meets 13 = .ok (.getfield 61, 3) := by decide +kernel
theorem dX10_meets_16 : decode cX10_meets 16 = .ok (.getfield 262, 3) := by decide +kernel
theorem dX10_meets_19 : decode cX10_meets 19 = .ok (.ifCond .ne 6, 3) := by decide +kernel
theorem dX10_meets_22 : decode cX10_meets 22 = .ok (.bipush (-3), 2) := by decide +kernel
theorem dX10_meets_24 : decode cX10_meets 24 = .ok (.ireturn, 1) := by decide +kernel
theorem dX10_meets_25 : decode cX10_meets 25 = .ok (.aload_n 0, 1) := by decide +kernel
theorem dX10_meets_26 : decode cX10_meets 26 = .ok (.getfield 61, 3) := by decide +kernel
theorem dX10_meets_29 : decode cX10_meets 29 = .ok (.aload_n 2, 1) := by decide +kernel
theorem dX10_meets_30 : decode cX10_meets 30 = .ok (.invokevirtual 266, 3) := by decide +kernel
theorem dX10_meets_33 : decode cX10_meets 33 = .ok (.istore_n 3, 1) := by decide +kernel
theorem dX10_meets_34 : decode cX10_meets 34 = .ok (.iload_n 3, 1) := by decide +kernel
theorem dX10_meets_35 : decode cX10_meets 35 = .ok (.ifCond .ge 8, 3) := by decide +kernel
theorem dX10_meets_38 : decode cX10_meets 38 = .ok (.bipush (-2), 2) := by decide +kernel
theorem dX10_meets_40 : decode cX10_meets 40 = .ok (.goto 4, 3) := by decide +kernel
theorem dX10_meets_43 : decode cX10_meets 43 = .ok (.iload_n 3, 1) := by decide +kernel
theorem dX10_meets_44 : decode cX10_meets 44 = .ok (.ireturn, 1) := by decide +kernel
theorem dX10_met_0 : decode cX10_met 0 = .ok (.aload_n 0, 1) := by decide +kernel
theorem dX10_met_1 : decode cX10_met 1 = .ok (.getfield 61, 3) := by decide +kernel
theorem dX10_met_4 : decode cX10_met 4 = .ok (.getfield 262, 3) := by decide +kernel
theorem dX10_met_7 : decode cX10_met 7 = .ok (.ifCond .ne 6, 3) := by decide +kernel
theorem dX10_met_10 : decode cX10_met 10 = .ok (.bipush (-3), 2) := by decide +kernel
theorem dX10_met_12 : decode cX10_met 12 = .ok (.ireturn, 1) := by decide +kernel
theorem dX10_met_13 : decode cX10_met 13 = .ok (.iconst 0, 1) := by decide +kernel
theorem dX10_met_14 : decode cX10_met 14 = .ok (.istore_n 1, 1) := by decide +kernel
theorem dX10_met_15 : decode cX10_met 15 = .ok (.iconst 0, 1) := by decide +kernel
theorem dX10_met_16 : decode cX10_met 16 = .ok (.istore_n 2, 1) := by decide +kernel
theorem dX10_met_17 : decode cX10_met 17 = .ok (.iload_n 2, 1) := by decide +kernel
theorem dX10_met_18 : decode cX10_met 18 = .ok (.aload_n 0, 1) := by decide +kernel
theorem dX10_met_19 : decode cX10_met 19 = .ok (.getfield 15, 3) := by decide +kernel
theorem dX10_met_22 : decode cX10_met 22 = .ok (.if_icmp .ge 36, 3) := by decide +kernel
theorem dX10_met_25 : decode cX10_met 25 = .ok (.aload_n 0, 1) := by decide +kernel
theorem dX10_met_26 : decode cX10_met 26 = .ok (.iload_n 2, 1) := by decide +kernel
theorem dX10_met_27 : decode cX10_met 27 = .ok (.invokevirtual 90, 3) := by decide +kernel
theorem dX10_met_30 : decode cX10_met 30 = .ok (.astore_n 3, 1) := by decide +kernel
theorem dX10_met_31 : decode cX10_met 31 = .ok (.aload_n 3, 1) := by decide +kernel
theorem dX10_met_32 : decode cX10_met 32 = .ok (.ifnull 20, 3) := by decide +kernel
theorem dX10_met_35 : decode cX10_met 35 = .ok (.aload_n 0, 1) := by decide +kernel
theorem dX10_met_36 : decode cX10_met 36 = .ok (.getfield 61, 3) := by decide +kernel
theorem dX10_met_39 : decode cX10_met 39 = .ok (.aload_n 3, 1) := by decide +kernel
theorem dX10_met_40 : decode cX10_met 40 = .ok (.invokevirtual 266, 3) := by decide +kernel
theorem dX10_met_43 : decode cX10_met 43 = .ok (.ifCond .lt 9, 3) := by decide +kernel
theorem dX10_met_46 : decode cX10_met 46 = .ok (.iload_n 1, 1) := by decide +kernel
theorem dX10_met_47 : decode cX10_met 47 = .ok (.iconst 1, 1) := by decide +kernel
theorem dX10_met_48 : decode cX10_met 48 = .ok (.iload_n 2, 1) := by decide +kernel
theorem dX10_met_49 : decode cX10_met 49 = .ok (.ishl, 1) := by decide +kernel
theorem dX10_met_50 : decode cX10_met 50 = .ok (.ior, 1) := by decide +kernel
theorem dX10_met_51 : decode cX10_met 51 = .ok (.istore_n 1, 1) := by decide +kernel
theorem dX10_met_52 : decode cX10_met 52 = .ok (.iinc 2 1, 3) := by decide +kernel
theorem dX10_met_55 : decode cX10_met 55 = .ok (.goto (-38), 3) := by decide +kernel
theorem dX10_met_58 : decode cX10_met 58 = .ok (.iload_n 1, 1) := by decide +kernel
theorem dX10_met_59 : decode cX10_met 59 = .ok (.ireturn, 1) := by decide +kernel
theorem dX10_count_0 : decode cX10_count 0 = .ok (.iload_n 1, 1) := by decide +kernel
theorem dX10_count_1 : decode cX10_count 1 = .ok (.tableswitch 72 0 4 #[35, 40, 48, 56, 64], 35) := by decide +kernel
theorem dX10_count_36 : decode cX10_count 36 = .ok (.aload_n 0, 1) := by decide +kernel
theorem dX10_count_37 : decode cX10_count 37 = .ok (.getfield 15, 3) := by decide +kernel
theorem dX10_count_40 : decode cX10_count 40 = .ok (.ireturn, 1) := by decide +kernel
theorem dX10_count_41 : decode cX10_count 41 = .ok (.aload_n 0, 1) := by decide +kernel
theorem dX10_count_42 : decode cX10_count 42 = .ok (.getfield 40, 3) := by decide +kernel
theorem dX10_count_45 : decode cX10_count 45 = .ok (.getfield 186, 3) := by decide +kernel
theorem dX10_count_48 : decode cX10_count 48 = .ok (.ireturn, 1) := by decide +kernel
theorem dX10_count_49 : decode cX10_count 49 = .ok (.aload_n 0, 1) := by decide +kernel
theorem dX10_count_50 : decode cX10_count 50 = .ok (.getfield 54, 3) := by decide +kernel
theorem dX10_count_53 : decode cX10_count 53 = .ok (.getfield 239, 3) := by decide +kernel
theorem dX10_count_56 : decode cX10_count 56 = .ok (.ireturn, 1) := by decide +kernel
theorem dX10_count_57 : decode cX10_count 57 = .ok (.aload_n 0, 1) := by decide +kernel
theorem dX10_count_58 : decode cX10_count 58 = .ok (.getfield 61, 3) := by decide +kernel
theorem dX10_count_61 : decode cX10_count 61 = .ok (.getfield 262, 3) := by decide +kernel
theorem dX10_count_64 : decode cX10_count 64 = .ok (.ireturn, 1) := by decide +kernel
theorem dX10_count_65 : decode cX10_count 65 = .ok (.aload_n 0, 1) := by decide +kernel
theorem dX10_count_66 : decode cX10_count 66 = .ok (.getfield 61, 3) := by decide +kernel
theorem dX10_count_69 : decode cX10_count 69 = .ok (.getfield 263, 3) := by decide +kernel
theorem dX10_count_72 : decode cX10_count 72 = .ok (.ireturn, 1) := by decide +kernel
theorem dX10_count_73 : decode cX10_count 73 = .ok (.iconst (-1), 1) := by decide +kernel
theorem dX10_count_74 : decode cX10_count 74 = .ok (.ireturn, 1) := by decide +kernel
theorem dX10_keep_0 : decode cX10_keep 0 = .ok (.aload_n 0, 1) := by decide +kernel
theorem dX10_keep_1 : decode cX10_keep 1 = .ok (.iload_n 1, 1) := by decide +kernel
theorem dX10_keep_2 : decode cX10_keep 2 = .ok (.invokevirtual 270, 3) := by decide +kernel
theorem dX10_keep_5 : decode cX10_keep 5 = .ok (.astore 4, 2) := by decide +kernel
theorem dX10_keep_7 : decode cX10_keep 7 = .ok (.aload 4, 2) := by decide +kernel
theorem dX10_keep_9 : decode cX10_keep 9 = .ok (.ifnonnull 5, 3) := by decide +kernel
theorem dX10_keep_12 : decode cX10_keep 12 = .ok (.iconst (-1), 1) := by decide +kernel
theorem dX10_keep_13 : decode cX10_keep 13 = .ok (.ireturn, 1) := by decide +kernel
theorem dX10_keep_14 : decode cX10_keep 14 = .ok (.iload_n 2, 1) := by decide +kernel
theorem dX10_keep_15 : decode cX10_keep 15 = .ok (.tableswitch 98 0 4 #[33, 40, 98, 66, 77], 33) := by decide +kernel
theorem dX10_keep_48 : decode cX10_keep 48 = .ok (.aload 4, 2) := by decide +kernel
theorem dX10_keep_50 : decode cX10_keep 50 = .ok (.invokevirtual 274, 3) := by decide +kernel
theorem dX10_keep_53 : decode cX10_keep 53 = .ok (.iconst 0, 1) := by decide +kernel
theorem dX10_keep_54 : decode cX10_keep 54 = .ok (.ireturn, 1) := by decide +kernel
theorem dX10_keep_55 : decode cX10_keep 55 = .ok (.aload_n 0, 1) := by decide +kernel
theorem dX10_keep_56 : decode cX10_keep 56 = .ok (.iload_n 3, 1) := by decide +kernel
theorem dX10_keep_57 : decode cX10_keep 57 = .ok (.invokevirtual 90, 3) := by decide +kernel
theorem dX10_keep_60 : decode cX10_keep 60 = .ok (.astore 5, 2) := by decide +kernel
theorem dX10_keep_62 : decode cX10_keep 62 = .ok (.aload 5, 2) := by decide +kernel
theorem dX10_keep_64 : decode cX10_keep 64 = .ok (.ifnonnull 5, 3) := by decide +kernel
theorem dX10_keep_67 : decode cX10_keep 67 = .ok (.iconst (-1), 1) := by decide +kernel
theorem dX10_keep_68 : decode cX10_keep 68 = .ok (.ireturn, 1) := by decide +kernel
theorem dX10_keep_69 : decode cX10_keep 69 = .ok (.aload 4, 2) := by decide +kernel
theorem dX10_keep_71 : decode cX10_keep 71 = .ok (.aload 5, 2) := by decide +kernel
theorem dX10_keep_73 : decode cX10_keep 73 = .ok (.invokestatic 277, 3) := by decide +kernel
theorem dX10_keep_76 : decode cX10_keep 76 = .ok (.invokevirtual 281, 3) := by decide +kernel
theorem dX10_keep_79 : decode cX10_keep 79 = .ok (.iconst 0, 1) := by decide +kernel
theorem dX10_keep_80 : decode cX10_keep 80 = .ok (.ireturn, 1) := by decide +kernel
theorem dX10_keep_81 : decode cX10_keep 81 = .ok (.aload 4, 2) := by decide +kernel
theorem dX10_keep_83 : decode cX10_keep 83 = .ok (.aload_n 0, 1) := by decide +kernel
theorem dX10_keep_84 : decode cX10_keep 84 = .ok (.invokevirtual 285, 3) := by decide +kernel
theorem dX10_keep_87 : decode cX10_keep 87 = .ok (.invokevirtual 289, 3) := by decide +kernel
theorem dX10_keep_90 : decode cX10_keep 90 = .ok (.iconst 0, 1) := by decide +kernel
theorem dX10_keep_91 : decode cX10_keep 91 = .ok (.ireturn, 1) := by decide +kernel
theorem dX10_keep_92 : decode cX10_keep 92 = .ok (.aload_n 0, 1) := by decide +kernel
theorem dX10_keep_93 : decode cX10_keep 93 = .ok (.getfield 54, 3) := by decide +kernel
theorem dX10_keep_96 : decode cX10_keep 96 = .ok (.invokevirtual 242, 3) := by decide +kernel
theorem dX10_keep_99 : decode cX10_keep 99 = .ok (.aload 4, 2) := by decide +kernel
theorem dX10_keep_101 : decode cX10_keep 101 = .ok (.aload_n 0, 1) := by decide +kernel
theorem dX10_keep_102 : decode cX10_keep 102 = .ok (.getfield 54, 3) := by decide +kernel
theorem dX10_keep_105 : decode cX10_keep 105 = .ok (.invokevirtual 293, 3) := by decide +kernel
theorem dX10_keep_108 : decode cX10_keep 108 = .ok (.invokevirtual 297, 3) := by decide +kernel
theorem dX10_keep_111 : decode cX10_keep 111 = .ok (.iconst 0, 1) := by decide +kernel
theorem dX10_keep_112 : decode cX10_keep 112 = .ok (.ireturn, 1) := by decide +kernel
theorem dX10_keep_113 : decode cX10_keep 113 = .ok (.iconst (-1), 1) := by decide +kernel
theorem dX10_keep_114 : decode cX10_keep 114 = .ok (.ireturn, 1) := by decide +kernel
theorem dX10_make_0 : decode cX10_make 0 = .ok (.aload_n 0, 1) := by decide +kernel
theorem dX10_make_1 : decode cX10_make 1 = .ok (.iload_n 1, 1) := by decide +kernel
theorem dX10_make_2 : decode cX10_make 2 = .ok (.invokevirtual 270, 3) := by decide +kernel
theorem dX10_make_5 : decode cX10_make 5 = .ok (.astore 4, 2) := by decide +kernel
theorem dX10_make_7 : decode cX10_make 7 = .ok (.aload 4, 2) := by decide +kernel
theorem dX10_make_9 : decode cX10_make 9 = .ok (.ifnull 19, 3) := by decide +kernel
theorem dX10_make_12 : decode cX10_make 12 = .ok (.iload_n 2, 1) := by decide +kernel
theorem dX10_make_13 : decode cX10_make 13 = .ok (.iconst 3, 1) := by decide +kernel
theorem dX10_make_14 : decode cX10_make 14 = .ok (.if_icmp .eq 8, 3) := by decide +kernel
theorem dX10_make_17 : decode cX10_make 17 = .ok (.iload_n 2, 1) := by decide +kernel
theorem dX10_make_18 : decode cX10_make 18 = .ok (.iconst 4, 1) := by decide +kernel
theorem dX10_make_19 : decode cX10_make 19 = .ok (.if_icmp .ne 9, 3) := by decide +kernel
theorem dX10_make_22 : decode cX10_make 22 = .ok (.iload_n 3, 1) := by decide +kernel
theorem dX10_make_23 : decode cX10_make 23 = .ok (.bipush 60, 2) := by decide +kernel
theorem dX10_make_25 : decode cX10_make 25 = .ok (.if_icmp .le 5, 3) := by decide +kernel
theorem dX10_make_28 : decode cX10_make 28 = .ok (.iconst (-1), 1) := by decide +kernel
theorem dX10_make_29 : decode cX10_make 29 = .ok (.ireturn, 1) := by decide +kernel
theorem dX10_make_30 : decode cX10_make 30 = .ok (.iload_n 3, 1) := by decide +kernel
theorem dX10_make_31 : decode cX10_make 31 = .ok (.ifCond .ge 6, 3) := by decide +kernel
theorem dX10_make_34 : decode cX10_make 34 = .ok (.bipush (-14), 2) := by decide +kernel
theorem dX10_make_36 : decode cX10_make 36 = .ok (.ireturn, 1) := by decide +kernel
theorem dX10_make_37 : decode cX10_make 37 = .ok (.iload_n 2, 1) := by decide +kernel
theorem dX10_make_38 : decode cX10_make 38 = .ok (.iconst 3, 1) := by decide +kernel
theorem dX10_make_39 : decode cX10_make 39 = .ok (.if_icmp .ne 14, 3) := by decide +kernel
theorem dX10_make_42 : decode cX10_make 42 = .ok (.aload 4, 2) := by decide +kernel
theorem dX10_make_44 : decode cX10_make 44 = .ok (.iload_n 3, 1) := by decide +kernel
theorem dX10_make_45 : decode cX10_make 45 = .ok (.newarray .int, 2) := by decide +kernel
theorem dX10_make_47 : decode cX10_make 47 = .ok (.invokevirtual 289, 3) := by decide +kernel
theorem dX10_make_50 : decode cX10_make 50 = .ok (.goto 11, 3) := by decide +kernel
theorem dX10_make_53 : decode cX10_make 53 = .ok (.aload 4, 2) := by decide +kernel
theorem dX10_make_55 : decode cX10_make 55 = .ok (.iload_n 3, 1) := by decide +kernel
theorem dX10_make_56 : decode cX10_make 56 = .ok (.newarray .byte, 2) := by decide +kernel
theorem dX10_make_58 : decode cX10_make 58 = .ok (.invokevirtual 297, 3) := by decide +kernel
theorem dX10_make_61 : decode cX10_make 61 = .ok (.iconst 0, 1) := by decide +kernel
theorem dX10_make_62 : decode cX10_make 62 = .ok (.ireturn, 1) := by decide +kernel
theorem dX10_element_0 : decode cX10_element 0 = .ok (.aload_n 0, 1) := by decide +kernel
theorem dX10_element_1 : decode cX10_element 1 = .ok (.iload_n 1, 1) := by decide +kernel
theorem dX10_element_2 : decode cX10_element 2 = .ok (.invokevirtual 270, 3) := by decide +kernel
theorem dX10_element_5 : decode cX10_element 5 = .ok (.astore_n 3, 1) := by decide +kernel
theorem dX10_element_6 : decode cX10_element 6 = .ok (.aload_n 3, 1) := by decide +kernel
theorem dX10_element_7 : decode cX10_element 7 = .ok (.ifnonnull 14, 3) := by decide +kernel
theorem dX10_element_10 : decode cX10_element 10 = .ok (.new 123, 3) := by decide +kernel
theorem dX10_element_13 : decode cX10_element 13 = .ok (.dup, 1) := by decide +kernel
theorem dX10_element_14 : decode cX10_element 14 = .ok (.ldc_w 301, 3) := by decide +kernel
theorem dX10_element_17 : decode cX10_element 17 = .ok (.invokespecial 127, 3) := by decide +kernel
theorem dX10_element_20 : decode cX10_element 20 = .ok (.athrow, 1) := by decide +kernel
theorem dX10_element_21 : decode cX10_element 21 = .ok (.aload_n 3, 1) := by decide +kernel
theorem dX10_element_22 : decode cX10_element 22 = .ok (.iload_n 2, 1) := by decide +kernel
theorem dX10_element_23 : decode cX10_element 23 = .ok (.iconst 1, 1) := by decide +kernel
theorem dX10_element_24 : decode cX10_element 24 = .ok (.invokevirtual 303, 3) := by decide +kernel
theorem dX10_element_27 : decode cX10_element 27 = .ok (.ifCond .ne 14, 3) := by decide +kernel
theorem dX10_element_30 : decode cX10_element 30 = .ok (.new 148, 3) := by decide +kernel
theorem dX10_element_33 : decode cX10_element 33 = .ok (.dup, 1) := by decide +kernel
theorem dX10_element_34 : decode cX10_element 34 = .ok (.ldc_w 306, 3) := by decide +kernel
theorem dX10_element_37 : decode cX10_element 37 = .ok (.invokespecial 152, 3) := by decide +kernel
theorem dX10_element_40 : decode cX10_element 40 = .ok (.athrow, 1) := by decide +kernel
theorem dX10_element_41 : decode cX10_element 41 = .ok (.aload_n 3, 1) := by decide +kernel
theorem dX10_element_42 : decode cX10_element 42 = .ok (.iload_n 2, 1) := by decide +kernel
theorem dX10_element_43 : decode cX10_element 43 = .ok (.invokevirtual 308, 3) := by decide +kernel
theorem dX10_element_46 : decode cX10_element 46 = .ok (.lreturn, 1) := by decide +kernel
theorem dX10_copy_0 : decode cX10_copy 0 = .ok (.aload_n 0, 1) := by decide +kernel
theorem dX10_copy_1 : decode cX10_copy 1 = .ok (.iload_n 1, 1) := by decide +kernel
theorem dX10_copy_2 : decode cX10_copy 2 = .ok (.invokevirtual 270, 3) := by decide +kernel
theorem dX10_copy_5 : decode cX10_copy 5 = .ok (.astore 6, 2) := by decide +kernel
theorem dX10_copy_7 : decode cX10_copy 7 = .ok (.aload_n 0, 1) := by decide +kernel
theorem dX10_copy_8 : decode cX10_copy 8 = .ok (.iload_n 3, 1) := by decide +kernel
theorem dX10_copy_9 : decode cX10_copy 9 = .ok (.invokevirtual 270, 3) := by decide +kernel
theorem dX10_copy_12 : decode cX10_copy 12 = .ok (.astore 7, 2) := by decide +kernel
theorem dX10_copy_14 : decode cX10_copy 14 = .ok (.aload 6, 2) := by decide +kernel
theorem dX10_copy_16 : decode cX10_copy 16 = .ok (.ifnull 8, 3) := by decide +kernel
theorem dX10_copy_19 : decode cX10_copy 19 = .ok (.aload 7, 2) := by decide +kernel
theorem dX10_copy_21 : decode cX10_copy 21 = .ok (.ifnonnull 5, 3) := by decide +kernel
theorem dX10_copy_24 : decode cX10_copy 24 = .ok (.iconst (-1), 1) := by decide +kernel
theorem dX10_copy_25 : decode cX10_copy 25 = .ok (.ireturn, 1) := by decide +kernel
theorem dX10_copy_26 : decode cX10_copy 26 = .ok (.aload 6, 2) := by decide +kernel
theorem dX10_copy_28 : decode cX10_copy 28 = .ok (.invokevirtual 312, 3) := by decide +kernel
theorem dX10_copy_31 : decode cX10_copy 31 = .ok (.ifCond .ne 11, 3) := by decide +kernel
theorem dX10_copy_34 : decode cX10_copy 34 = .ok (.aload 7, 2) := by decide +kernel
theorem dX10_copy_36 : decode cX10_copy 36 = .ok (.invokevirtual 312, 3) := by decide +kernel
theorem dX10_copy_39 : decode cX10_copy 39 = .ok (.ifCond .eq 6, 3) := by decide +kernel
theorem dX10_copy_42 : decode cX10_copy 42 = .ok (.bipush (-11), 2) := by decide +kernel
theorem dX10_copy_44 : decode cX10_copy 44 = .ok (.ireturn, 1) := by decide +kernel
theorem dX10_copy_45 : decode cX10_copy 45 = .ok (.aload 6, 2) := by decide +kernel
theorem dX10_copy_47 : decode cX10_copy 47 = .ok (.aload 7, 2) := by decide +kernel
theorem dX10_copy_49 : decode cX10_copy 49 = .ok (.invokevirtual 315, 3) := by decide +kernel
theorem dX10_copy_52 : decode cX10_copy 52 = .ok (.ifCond .ne 6, 3) := by decide +kernel
theorem dX10_copy_55 : decode cX10_copy 55 = .ok (.bipush (-12), 2) := by decide +kernel
theorem dX10_copy_57 : decode cX10_copy 57 = .ok (.ireturn, 1) := by decide +kernel
theorem dX10_copy_58 : decode cX10_copy 58 = .ok (.aload 6, 2) := by decide +kernel
theorem dX10_copy_60 : decode cX10_copy 60 = .ok (.iload_n 2, 1) := by decide +kernel
theorem dX10_copy_61 : decode cX10_copy 61 = .ok (.iload 5, 2) := by decide +kernel
theorem dX10_copy_63 : decode cX10_copy 63 = .ok (.invokevirtual 303, 3) := by decide +kernel
theorem dX10_copy_66 : decode cX10_copy 66 = .ok (.ifCond .eq 15, 3) := by decide +kernel
theorem dX10_copy_69 : decode cX10_copy 69 = .ok (.aload 7, 2) := by decide +kernel
theorem dX10_copy_71 : decode cX10_copy 71 = .ok (.iload 4, 2) := by decide +kernel
theorem dX10_copy_73 : decode cX10_copy 73 = .ok (.iload 5, 2) := by decide +kernel
theorem dX10_copy_75 : decode cX10_copy 75 = .ok (.invokevirtual 303, 3) := by decide +kernel
theorem dX10_copy_78 : decode cX10_copy 78 = .ok (.ifCond .ne 6, 3) := by decide +kernel
theorem dX10_copy_81 : decode cX10_copy 81 = .ok (.bipush (-13), 2) := by decide +kernel
theorem dX10_copy_83 : decode cX10_copy 83 = .ok (.ireturn, 1) := by decide +kernel
theorem dX10_copy_84 : decode cX10_copy 84 = .ok (.aload 6, 2) := by decide +kernel
theorem dX10_copy_86 : decode cX10_copy 86 = .ok (.iload_n 2, 1) := by decide +kernel
theorem dX10_copy_87 : decode cX10_copy 87 = .ok (.aload 7, 2) := by decide +kernel
theorem dX10_copy_89 : decode cX10_copy 89 = .ok (.iload 4, 2) := by decide +kernel
theorem dX10_copy_91 : decode cX10_copy 91 = .ok (.iload 5, 2) := by decide +kernel
theorem dX10_copy_93 : decode cX10_copy 93 = .ok (.invokevirtual 319, 3) := by decide +kernel
theorem dX10_copy_96 : decode cX10_copy 96 = .ok (.iload 5, 2) := by decide +kernel
theorem dX10_copy_98 : decode cX10_copy 98 = .ok (.ireturn, 1) := by decide +kernel
theorem dX10_weight_0 : decode cX10_weight 0 = .ok (.aload_n 0, 1) := by decide +kernel
theorem dX10_weight_1 : decode cX10_weight 1 = .ok (.iload_n 1, 1) := by decide +kernel
theorem dX10_weight_2 : decode cX10_weight 2 = .ok (.invokevirtual 270, 3) := by decide +kernel
theorem dX10_weight_5 : decode cX10_weight 5 = .ok (.astore_n 2, 1) := by decide +kernel
theorem dX10_weight_6 : decode cX10_weight 6 = .ok (.aload_n 2, 1) := by decide +kernel
theorem dX10_weight_7 : decode cX10_weight 7 = .ok (.ifnonnull 5, 3) := by decide +kernel
theorem dX10_weight_10 : decode cX10_weight 10 = .ok (.iconst (-1), 1) := by decide +kernel
theorem dX10_weight_11 : decode cX10_weight 11 = .ok (.ireturn, 1) := by decide +kernel
theorem dX10_weight_12 : decode cX10_weight 12 = .ok (.aload_n 2, 1) := by decide +kernel
theorem dX10_weight_13 : decode cX10_weight 13 = .ok (.invokevirtual 312, 3) := by decide +kernel
theorem dX10_weight_16 : decode cX10_weight 16 = .ok (.ifCond .eq 6, 3) := by decide +kernel
theorem dX10_weight_19 : decode cX10_weight 19 = .ok (.bipush (-11), 2) := by decide +kernel
theorem dX10_weight_21 : decode cX10_weight 21 = .ok (.ireturn, 1) := by decide +kernel
theorem dX10_weight_22 : decode cX10_weight 22 = .ok (.aload_n 2, 1) := by decide +kernel
theorem dX10_weight_23 : decode cX10_weight 23 = .ok (.getfield 323, 3) := by decide +kernel
theorem dX10_weight_26 : decode cX10_weight 26 = .ok (.astore_n 3, 1) := by decide +kernel
theorem dX10_weight_27 : decode cX10_weight 27 = .ok (.aload_n 3, 1) := by decide +kernel
theorem dX10_weight_28 : decode cX10_weight 28 = .ok (.ifnonnull 8, 3) := by decide +kernel
theorem dX10_weight_31 : decode cX10_weight 31 = .ok (.bipush (-12), 2) := by decide +kernel
theorem dX10_weight_33 : decode cX10_weight 33 = .ok (.goto 7, 3) := by decide +kernel
theorem dX10_weight_36 : decode cX10_weight 36 = .ok (.aload_n 3, 1) := by decide +kernel
theorem dX10_weight_37 : decode cX10_weight 37 = .ok (.invokevirtual 327, 3) := by decide +kernel
theorem dX10_weight_40 : decode cX10_weight 40 = .ok (.ireturn, 1) := by decide +kernel
theorem dX10_toss_0 : decode cX10_toss 0 = .ok (.aload_n 0, 1) := by decide +kernel
theorem dX10_toss_1 : decode cX10_toss 1 = .ok (.iload_n 1, 1) := by decide +kernel
theorem dX10_toss_2 : decode cX10_toss 2 = .ok (.invokevirtual 270, 3) := by decide +kernel
theorem dX10_toss_5 : decode cX10_toss 5 = .ok (.astore_n 2, 1) := by decide +kernel
theorem dX10_toss_6 : decode cX10_toss 6 = .ok (.aload_n 2, 1) := by decide +kernel
theorem dX10_toss_7 : decode cX10_toss 7 = .ok (.ifnonnull 5, 3) := by decide +kernel
theorem dX10_toss_10 : decode cX10_toss 10 = .ok (.iconst (-1), 1) := by decide +kernel
theorem dX10_toss_11 : decode cX10_toss 11 = .ok (.ireturn, 1) := by decide +kernel
theorem dX10_toss_12 : decode cX10_toss 12 = .ok (.aload_n 2, 1) := by decide +kernel
theorem dX10_toss_13 : decode cX10_toss 13 = .ok (.invokevirtual 312, 3) := by decide +kernel
theorem dX10_toss_16 : decode cX10_toss 16 = .ok (.ifCond .eq 6, 3) := by decide +kernel
theorem dX10_toss_19 : decode cX10_toss 19 = .ok (.bipush (-11), 2) := by decide +kernel
theorem dX10_toss_21 : decode cX10_toss 21 = .ok (.ireturn, 1) := by decide +kernel
theorem dX10_toss_22 : decode cX10_toss 22 = .ok (.aload_n 2, 1) := by decide +kernel
theorem dX10_toss_23 : decode cX10_toss 23 = .ok (.getfield 323, 3) := by decide +kernel
theorem dX10_toss_26 : decode cX10_toss 26 = .ok (.astore_n 3, 1) := by decide +kernel
theorem dX10_toss_27 : decode cX10_toss 27 = .ok (.aload_n 3, 1) := by decide +kernel
theorem dX10_toss_28 : decode cX10_toss 28 = .ok (.ifnonnull 8, 3) := by decide +kernel
theorem dX10_toss_31 : decode cX10_toss 31 = .ok (.bipush (-12), 2) := by decide +kernel
theorem dX10_toss_33 : decode cX10_toss 33 = .ok (.goto 7, 3) := by decide +kernel
theorem dX10_toss_36 : decode cX10_toss 36 = .ok (.aload_n 3, 1) := by decide +kernel
theorem dX10_toss_37 : decode cX10_toss 37 = .ok (.invokestatic 330, 3) := by decide +kernel
theorem dX10_toss_40 : decode cX10_toss 40 = .ok (.ireturn, 1) := by decide +kernel
theorem dX10_isWithin_0 : decode cX10_isWithin 0 = .ok (.iload_n 0, 1) := by decide +kernel
theorem dX10_isWithin_1 : decode cX10_isWithin 1 = .ok (.iload_n 1, 1) := by decide +kernel
theorem dX10_isWithin_2 : decode cX10_isWithin 2 = .ok (.ineg, 1) := by decide +kernel
theorem dX10_isWithin_3 : decode cX10_isWithin 3 = .ok (.if_icmp .lt 12, 3) := by decide +kernel
theorem dX10_isWithin_6 : decode cX10_isWithin 6 = .ok (.iload_n 0, 1) := by decide +kernel
theorem dX10_isWithin_7 : decode cX10_isWithin 7 = .ok (.iload_n 1, 1) := by decide +kernel
theorem dX10_isWithin_8 : decode cX10_isWithin 8 = .ok (.if_icmp .gt 7, 3) := by decide +kernel
theorem dX10_isWithin_11 : decode cX10_isWithin 11 = .ok (.iconst 1, 1) := by decide +kernel
theorem dX10_isWithin_12 : decode cX10_isWithin 12 = .ok (.goto 4, 3) := by decide +kernel
theorem dX10_isWithin_15 : decode cX10_isWithin 15 = .ok (.iconst 0, 1) := by decide +kernel
theorem dX10_isWithin_16 : decode cX10_isWithin 16 = .ok (.ireturn, 1) := by decide +kernel
theorem dX10_isPlace_0 : decode cX10_isPlace 0 = .ok (.iload_n 0, 1) := by decide +kernel
theorem dX10_isPlace_1 : decode cX10_isPlace 1 = .ok (.bipush 100, 2) := by decide +kernel
theorem dX10_isPlace_3 : decode cX10_isPlace 3 = .ok (.invokestatic 258, 3) := by decide +kernel
theorem dX10_isPlace_6 : decode cX10_isPlace 6 = .ok (.ifCond .eq 16, 3) := by decide +kernel
theorem dX10_isPlace_9 : decode cX10_isPlace 9 = .ok (.iload_n 1, 1) := by decide +kernel
theorem dX10_isPlace_10 : decode cX10_isPlace 10 = .ok (.bipush 100, 2) := by decide +kernel
theorem dX10_isPlace_12 : decode cX10_isPlace 12 = .ok (.invokestatic 258, 3) := by decide +kernel
theorem dX10_isPlace_15 : decode cX10_isPlace 15 = .ok (.ifCond .eq 7, 3) := by decide +kernel
theorem dX10_isPlace_18 : decode cX10_isPlace 18 = .ok (.iconst 1, 1) := by decide +kernel
theorem dX10_isPlace_19 : decode cX10_isPlace 19 = .ok (.goto 4, 3) := by decide +kernel
theorem dX10_isPlace_22 : decode cX10_isPlace 22 = .ok (.iconst 0, 1) := by decide +kernel
theorem dX10_isPlace_23 : decode cX10_isPlace 23 = .ok (.ireturn, 1) := by decide +kernel
theorem dX10_isDirection_0 : decode cX10_isDirection 0 = .ok (.iload_n 0, 1) := by decide +kernel
theorem dX10_isDirection_1 : decode cX10_isDirection 1 = .ok (.ifCond .lt 23, 3) := by decide +kernel
theorem dX10_isDirection_4 : decode cX10_isDirection 4 = .ok (.iload_n 0, 1) := by decide +kernel
theorem dX10_isDirection_5 : decode cX10_isDirection 5 = .ok (.getstatic 333, 3) := by decide +kernel
theorem dX10_isDirection_8 : decode cX10_isDirection 8 = .ok (.arraylength, 1) := by decide +kernel
theorem dX10_isDirection_9 : decode cX10_isDirection 9 = .ok (.if_icmp .ge 15, 3) := by decide +kernel
theorem dX10_isDirection_12 : decode cX10_isDirection 12 = .ok (.iload_n 0, 1) := by decide +kernel
theorem dX10_isDirection_13 : decode cX10_isDirection 13 = .ok (.getstatic 336, 3) := by decide +kernel
theorem dX10_isDirection_16 : decode cX10_isDirection 16 = .ok (.arraylength, 1) := by decide +kernel
theorem dX10_isDirection_17 : decode cX10_isDirection 17 = .ok (.if_icmp .ge 7, 3) := by decide +kernel
theorem dX10_isDirection_20 : decode cX10_isDirection 20 = .ok (.iconst 1, 1) := by decide +kernel
theorem dX10_isDirection_21 : decode cX10_isDirection 21 = .ok (.goto 4, 3) := by decide +kernel
theorem dX10_isDirection_24 : decode cX10_isDirection 24 = .ok (.iconst 0, 1) := by decide +kernel
theorem dX10_isDirection_25 : decode cX10_isDirection 25 = .ok (.ireturn, 1) := by decide +kernel
theorem dX10_isGrip_0 : decode cX10_isGrip 0 = .ok (.iload_n 0, 1) := by decide +kernel
theorem dX10_isGrip_1 : decode cX10_isGrip 1 = .ok (.iconst 1, 1) := by decide +kernel
theorem dX10_isGrip_2 : decode cX10_isGrip 2 = .ok (.if_icmp .eq 8, 3) := by decide +kernel
theorem dX10_isGrip_5 : decode cX10_isGrip 5 = .ok (.iload_n 0, 1) := by decide +kernel
theorem dX10_isGrip_6 : decode cX10_isGrip 6 = .ok (.iconst 3, 1) := by decide +kernel
theorem dX10_isGrip_7 : decode cX10_isGrip 7 = .ok (.if_icmp .ne 7, 3) := by decide +kernel
theorem dX10_isGrip_10 : decode cX10_isGrip 10 = .ok (.iconst 1, 1) := by decide +kernel
theorem dX10_isGrip_11 : decode cX10_isGrip 11 = .ok (.goto 4, 3) := by decide +kernel
theorem dX10_isGrip_14 : decode cX10_isGrip 14 = .ok (.iconst 0, 1) := by decide +kernel
theorem dX10_isGrip_15 : decode cX10_isGrip 15 = .ok (.istore_n 2, 1) := by decide +kernel
theorem dX10_isGrip_16 : decode cX10_isGrip 16 = .ok (.iload_n 1, 1) := by decide +kernel
theorem dX10_isGrip_17 : decode cX10_isGrip 17 = .ok (.iload_n 2, 1) := by decide +kernel
theorem dX10_isGrip_18 : decode cX10_isGrip 18 = .ok (.if_icmp .lt 13, 3) := by decide +kernel
theorem dX10_isGrip_21 : decode cX10_isGrip 21 = .ok (.iload_n 1, 1) := by decide +kernel
theorem dX10_isGrip_22 : decode cX10_isGrip 22 = .ok (.bipush 20, 2) := by decide +kernel
theorem dX10_isGrip_24 : decode cX10_isGrip 24 = .ok (.if_icmp .gt 7, 3) := by decide +kernel
theorem dX10_isGrip_27 : decode cX10_isGrip 27 = .ok (.iconst 1, 1) := by decide +kernel
theorem dX10_isGrip_28 : decode cX10_isGrip 28 = .ok (.goto 4, 3) := by decide +kernel
theorem dX10_isGrip_31 : decode cX10_isGrip 31 = .ok (.iconst 0, 1) := by decide +kernel
theorem dX10_isGrip_32 : decode cX10_isGrip 32 = .ok (.ireturn, 1) := by decide +kernel
theorem dX10_isLoad_0 : decode cX10_isLoad 0 = .ok (.iload_n 0, 1) := by decide +kernel
theorem dX10_isLoad_1 : decode cX10_isLoad 1 = .ok (.sipush 1000, 3) := by decide +kernel
theorem dX10_isLoad_4 : decode cX10_isLoad 4 = .ok (.invokestatic 258, 3) := by decide +kernel
theorem dX10_isLoad_7 : decode cX10_isLoad 7 = .ok (.ifCond .eq 27, 3) := by decide +kernel
theorem dX10_isLoad_10 : decode cX10_isLoad 10 = .ok (.iload_n 1, 1) := by decide +kernel
theorem dX10_isLoad_11 : decode cX10_isLoad 11 = .ok (.sipush 1000, 3) := by decide +kernel
theorem dX10_isLoad_14 : decode cX10_isLoad 14 = .ok (.invokestatic 258, 3) := by decide +kernel
theorem dX10_isLoad_17 : decode cX10_isLoad 17 = .ok (.ifCond .eq 17, 3) := by decide +kernel
theorem dX10_isLoad_20 : decode cX10_isLoad 20 = .ok (.iload_n 2, 1) := by decide +kernel
theorem dX10_isLoad_21 : decode cX10_isLoad 21 = .ok (.sipush 1000, 3) := by decide +kernel
theorem dX10_isLoad_24 : decode cX10_isLoad 24 = .ok (.invokestatic 258, 3) := by decide +kernel
theorem dX10_isLoad_27 : decode cX10_isLoad 27 = .ok (.ifCond .eq 7, 3) := by decide +kernel
theorem dX10_isLoad_30 : decode cX10_isLoad 30 = .ok (.iconst 1, 1) := by decide +kernel
theorem dX10_isLoad_31 : decode cX10_isLoad 31 = .ok (.goto 4, 3) := by decide +kernel
theorem dX10_isLoad_34 : decode cX10_isLoad 34 = .ok (.iconst 0, 1) := by decide +kernel
theorem dX10_isLoad_35 : decode cX10_isLoad 35 = .ok (.ireturn, 1) := by decide +kernel
theorem dX10_isPull_0 : decode cX10_isPull 0 = .ok (.iload_n 0, 1) := by decide +kernel
theorem dX10_isPull_1 : decode cX10_isPull 1 = .ok (.ifCond .lt 14, 3) := by decide +kernel
theorem dX10_isPull_4 : decode cX10_isPull 4 = .ok (.iload_n 0, 1) := by decide +kernel
theorem dX10_isPull_5 : decode cX10_isPull 5 = .ok (.sipush 200, 3) := by decide +kernel
theorem dX10_isPull_8 : decode cX10_isPull 8 = .ok (.if_icmp .gt 7, 3) := by decide +kernel
theorem dX10_isPull_11 : decode cX10_isPull 11 = .ok (.iconst 1, 1) := by decide +kernel
theorem dX10_isPull_12 : decode cX10_isPull 12 = .ok (.goto 4, 3) := by decide +kernel
theorem dX10_isPull_15 : decode cX10_isPull 15 = .ok (.iconst 0, 1) := by decide +kernel
theorem dX10_isPull_16 : decode cX10_isPull 16 = .ok (.ireturn, 1) := by decide +kernel
theorem dX10_contactAt_0 : decode cX10_contactAt 0 = .ok (.iload_n 1, 1) := by decide +kernel
theorem dX10_contactAt_1 : decode cX10_contactAt 1 = .ok (.ifCond .lt 29, 3) := by decide +kernel
theorem dX10_contactAt_4 : decode cX10_contactAt 4 = .ok (.iload_n 1, 1) := by decide +kernel
theorem dX10_contactAt_5 : decode cX10_contactAt 5 = .ok (.aload_n 0, 1) := by decide +kernel
theorem dX10_contactAt_6 : decode cX10_contactAt 6 = .ok (.getfield 15, 3) := by decide +kernel
theorem dX10_contactAt_9 : decode cX10_contactAt 9 = .ok (.if_icmp .ge 21, 3) := by decide +kernel
theorem dX10_contactAt_12 : decode cX10_contactAt 12 = .ok (.iload_n 1, 1) := by decide +kernel
theorem dX10_contactAt_13 : decode cX10_contactAt 13 = .ok (.aload_n 0, 1) := by decide +kernel
theorem dX10_contactAt_14 : decode cX10_contactAt 14 = .ok (.getfield 11, 3) := by decide +kernel
theorem dX10_contactAt_17 : decode cX10_contactAt 17 = .ok (.arraylength, 1) := by decide +kernel
theorem dX10_contactAt_18 : decode cX10_contactAt 18 = .ok (.if_icmp .ge 12, 3) := by decide +kernel
theorem dX10_contactAt_21 : decode cX10_contactAt 21 = .ok (.aload_n 0, 1) := by decide +kernel
theorem dX10_contactAt_22 : decode cX10_contactAt 22 = .ok (.getfield 11, 3) := by decide +kernel
theorem dX10_contactAt_25 : decode cX10_contactAt 25 = .ok (.iload_n 1, 1) := by decide +kernel
theorem dX10_contactAt_26 : decode cX10_contactAt 26 = .ok (.aaload, 1) := by decide +kernel
theorem dX10_contactAt_27 : decode cX10_contactAt 27 = .ok (.goto 4, 3) := by decide +kernel
theorem dX10_contactAt_30 : decode cX10_contactAt 30 = .ok (.aconst_null, 1) := by decide +kernel
theorem dX10_contactAt_31 : decode cX10_contactAt 31 = .ok (.areturn, 1) := by decide +kernel
theorem dX10_placerAt_0 : decode cX10_placerAt 0 = .ok (.aload_n 0, 1) := by decide +kernel
theorem dX10_placerAt_1 : decode cX10_placerAt 1 = .ok (.iload_n 1, 1) := by decide +kernel
theorem dX10_placerAt_2 : decode cX10_placerAt 2 = .ok (.invokevirtual 90, 3) := by decide +kernel
theorem dX10_placerAt_5 : decode cX10_placerAt 5 = .ok (.astore_n 2, 1) := by decide +kernel
theorem dX10_placerAt_6 : decode cX10_placerAt 6 = .ok (.aload_n 2, 1) := by decide +kernel
theorem dX10_placerAt_7 : decode cX10_placerAt 7 = .ok (.ifnull 14, 3) := by decide +kernel
theorem dX10_placerAt_10 : decode cX10_placerAt 10 = .ok (.aload_n 2, 1) := by decide +kernel
theorem dX10_placerAt_11 : decode cX10_placerAt 11 = .ok (.invokevirtual 100, 3) := by decide +kernel
theorem dX10_placerAt_14 : decode cX10_placerAt 14 = .ok (.ifCond .eq 7, 3) := by decide +kernel
theorem dX10_placerAt_17 : decode cX10_placerAt 17 = .ok (.aload_n 2, 1) := by decide +kernel
theorem dX10_placerAt_18 : decode cX10_placerAt 18 = .ok (.goto 4, 3) := by decide +kernel
theorem dX10_placerAt_21 : decode cX10_placerAt 21 = .ok (.aconst_null, 1) := by decide +kernel
theorem dX10_placerAt_22 : decode cX10_placerAt 22 = .ok (.areturn, 1) := by decide +kernel
theorem dX10_shelfAt_0 : decode cX10_shelfAt 0 = .ok (.iload_n 1, 1) := by decide +kernel
theorem dX10_shelfAt_1 : decode cX10_shelfAt 1 = .ok (.ifCond .lt 21, 3) := by decide +kernel
theorem dX10_shelfAt_4 : decode cX10_shelfAt 4 = .ok (.iload_n 1, 1) := by decide +kernel
theorem dX10_shelfAt_5 : decode cX10_shelfAt 5 = .ok (.aload_n 0, 1) := by decide +kernel
theorem dX10_shelfAt_6 : decode cX10_shelfAt 6 = .ok (.getfield 67, 3) := by decide +kernel
theorem dX10_shelfAt_9 : decode cX10_shelfAt 9 = .ok (.arraylength, 1) := by decide +kernel
theorem dX10_shelfAt_10 : decode cX10_shelfAt 10 = .ok (.if_icmp .ge 12, 3) := by decide +kernel
theorem dX10_shelfAt_13 : decode cX10_shelfAt 13 = .ok (.aload_n 0, 1) := by decide +kernel
theorem dX10_shelfAt_14 : decode cX10_shelfAt 14 = .ok (.getfield 67, 3) := by decide +kernel
theorem dX10_shelfAt_17 : decode cX10_shelfAt 17 = .ok (.iload_n 1, 1) := by decide +kernel
theorem dX10_shelfAt_18 : decode cX10_shelfAt 18 = .ok (.aaload, 1) := by decide +kernel
theorem dX10_shelfAt_19 : decode cX10_shelfAt 19 = .ok (.goto 4, 3) := by decide +kernel
theorem dX10_shelfAt_22 : decode cX10_shelfAt 22 = .ok (.aconst_null, 1) := by decide +kernel
theorem dX10_shelfAt_23 : decode cX10_shelfAt 23 = .ok (.areturn, 1) := by decide +kernel
theorem dX10_made_0 : decode cX10_made 0 = .ok (.iload_n 0, 1) := by decide +kernel
theorem dX10_made_1 : decode cX10_made 1 = .ok (.tableswitch 70 1 3 #[27, 42, 55], 27) := by decide +kernel
theorem dX10_made_28 : decode cX10_made 28 = .ok (.new 339, 3) := by decide +kernel
theorem dX10_made_31 : decode cX10_made 31 = .ok (.dup, 1) := by decide +kernel
theorem dX10_made_32 : decode cX10_made 32 = .ok (.iload_n 1, 1) := by decide +kernel
theorem dX10_made_33 : decode cX10_made 33 = .ok (.iload_n 2, 1) := by decide +kernel
theorem dX10_made_34 : decode cX10_made 34 = .ok (.iload_n 3, 1) := by decide +kernel
theorem dX10_made_35 : decode cX10_made 35 = .ok (.iload 4, 2) := by decide +kernel
theorem dX10_made_37 : decode cX10_made 37 = .ok (.iload 5, 2) := by decide +kernel
theorem dX10_made_39 : decode cX10_made 39 = .ok (.invokespecial 341, 3) := by decide +kernel
theorem dX10_made_42 : decode cX10_made 42 = .ok (.areturn, 1) := by decide +kernel
theorem dX10_made_43 : decode cX10_made 43 = .ok (.new 344, 3) := by decide +kernel
theorem dX10_made_46 : decode cX10_made 46 = .ok (.dup, 1) := by decide +kernel
theorem dX10_made_47 : decode cX10_made 47 = .ok (.iload_n 1, 1) := by decide +kernel
theorem dX10_made_48 : decode cX10_made 48 = .ok (.iload_n 2, 1) := by decide +kernel
theorem dX10_made_49 : decode cX10_made 49 = .ok (.iload_n 3, 1) := by decide +kernel
theorem dX10_made_50 : decode cX10_made 50 = .ok (.iload 5, 2) := by decide +kernel
theorem dX10_made_52 : decode cX10_made 52 = .ok (.invokespecial 346, 3) := by decide +kernel
theorem dX10_made_55 : decode cX10_made 55 = .ok (.areturn, 1) := by decide +kernel
theorem dX10_made_56 : decode cX10_made 56 = .ok (.new 349, 3) := by decide +kernel
theorem dX10_made_59 : decode cX10_made 59 = .ok (.dup, 1) := by decide +kernel
theorem dX10_made_60 : decode cX10_made 60 = .ok (.iload_n 1, 1) := by decide +kernel
theorem dX10_made_61 : decode cX10_made 61 = .ok (.iload_n 2, 1) := by decide +kernel
theorem dX10_made_62 : decode cX10_made 62 = .ok (.iload_n 3, 1) := by decide +kernel
theorem dX10_made_63 : decode cX10_made 63 = .ok (.iload 4, 2) := by decide +kernel
theorem dX10_made_65 : decode cX10_made 65 = .ok (.iload 5, 2) := by decide +kernel
theorem dX10_made_67 : decode cX10_made 67 = .ok (.invokespecial 351, 3) := by decide +kernel
theorem dX10_made_70 : decode cX10_made 70 = .ok (.areturn, 1) := by decide +kernel
theorem dX10_made_71 : decode cX10_made 71 = .ok (.new 9, 3) := by decide +kernel
theorem dX10_made_74 : decode cX10_made 74 = .ok (.dup, 1) := by decide +kernel
theorem dX10_made_75 : decode cX10_made 75 = .ok (.iload_n 1, 1) := by decide +kernel
theorem dX10_made_76 : decode cX10_made 76 = .ok (.iload_n 2, 1) := by decide +kernel
theorem dX10_made_77 : decode cX10_made 77 = .ok (.iload_n 3, 1) := by decide +kernel
theorem dX10_made_78 : decode cX10_made 78 = .ok (.iload 5, 2) := by decide +kernel
theorem dX10_made_80 : decode cX10_made 80 = .ok (.invokespecial 352, 3) := by decide +kernel
theorem dX10_made_83 : decode cX10_made 83 = .ok (.areturn, 1) := by decide +kernel
theorem dX10_twinOf_0 : decode cX10_twinOf 0 = .ok (.aload_n 0, 1) := by decide +kernel
theorem dX10_twinOf_1 : decode cX10_twinOf 1 = .ok (.invokevirtual 107, 3) := by decide +kernel
theorem dX10_twinOf_4 : decode cX10_twinOf 4 = .ok (.aload_n 0, 1) := by decide +kernel
theorem dX10_twinOf_5 : decode cX10_twinOf 5 = .ok (.getfield 111, 3) := by decide +kernel
theorem dX10_twinOf_8 : decode cX10_twinOf 8 = .ok (.aload_n 0, 1) := by decide +kernel
theorem dX10_twinOf_9 : decode cX10_twinOf 9 = .ok (.getfield 94, 3) := by decide +kernel
theorem dX10_twinOf_12 : decode cX10_twinOf 12 = .ok (.aload_n 0, 1) := by decide +kernel
theorem dX10_twinOf_13 : decode cX10_twinOf 13 = .ok (.getfield 97, 3) := by decide +kernel
theorem dX10_twinOf_16 : decode cX10_twinOf 16 = .ok (.aload_n 0, 1) := by decide +kernel
theorem dX10_twinOf_17 : decode cX10_twinOf 17 = .ok (.invokevirtual 114, 3) := by decide +kernel
theorem dX10_twinOf_20 : decode cX10_twinOf 20 = .ok (.aload_n 0, 1) := by decide +kernel
theorem dX10_twinOf_21 : decode cX10_twinOf 21 = .ok (.getfield 117, 3) := by decide +kernel
theorem dX10_twinOf_24 : decode cX10_twinOf 24 = .ok (.invokestatic 83, 3) := by decide +kernel
theorem dX10_twinOf_27 : decode cX10_twinOf 27 = .ok (.astore_n 1, 1) := by decide +kernel
theorem dX10_twinOf_28 : decode cX10_twinOf 28 = .ok (.aload_n 1, 1) := by decide +kernel
theorem dX10_twinOf_29 : decode cX10_twinOf 29 = .ok (.aload_n 0, 1) := by decide +kernel
theorem dX10_twinOf_30 : decode cX10_twinOf 30 = .ok (.getfield 87, 3) := by decide +kernel
theorem dX10_twinOf_33 : decode cX10_twinOf 33 = .ok (.putfield 87, 3) := by decide +kernel
theorem dX10_twinOf_36 : decode cX10_twinOf 36 = .ok (.aload_n 1, 1) := by decide +kernel
theorem dX10_twinOf_37 : decode cX10_twinOf 37 = .ok (.aload_n 0, 1) := by decide +kernel
theorem dX10_twinOf_38 : decode cX10_twinOf 38 = .ok (.getfield 104, 3) := by decide +kernel
theorem dX10_twinOf_41 : decode cX10_twinOf 41 = .ok (.putfield 104, 3) := by decide +kernel
theorem dX10_twinOf_44 : decode cX10_twinOf 44 = .ok (.aload_n 1, 1) := by decide +kernel
theorem dX10_twinOf_45 : decode cX10_twinOf 45 = .ok (.areturn, 1) := by decide +kernel
theorem dX10_failureOf_0 : decode cX10_failureOf 0 = .ok (.aload_n 0, 1) := by decide +kernel
theorem dX10_failureOf_1 : decode cX10_failureOf 1 = .ok (.invokevirtual 353, 3) := by decide +kernel
theorem dX10_failureOf_4 : decode cX10_failureOf 4 = .ok (.goto 9, 3) := by decide +kernel
theorem dX10_failureOf_7 : decode cX10_failureOf 7 = .ok (.astore_n 1, 1) := by decide +kernel
theorem dX10_failureOf_8 : decode cX10_failureOf 8 = .ok (.aload_n 0, 1) := by decide +kernel
theorem dX10_failureOf_9 : decode cX10_failureOf 9 = .ok (.getfield 87, 3) := by decide +kernel
theorem dX10_failureOf_12 : decode cX10_failureOf 12 = .ok (.ireturn, 1) := by decide +kernel
theorem dX10_failureOf_13 : decode cX10_failureOf 13 = .ok (.bipush (-15), 2) := by decide +kernel
theorem dX10_failureOf_15 : decode cX10_failureOf 15 = .ok (.ireturn, 1) := by decide +kernel
theorem dX10_wrenchRow_0 : decode cX10_wrenchRow 0 = .ok (.iconst 3, 1) := by decide +kernel
theorem dX10_wrenchRow_1 : decode cX10_wrenchRow 1 = .ok (.aload_n 0, 1) := by decide +kernel
theorem dX10_wrenchRow_2 : decode cX10_wrenchRow 2 = .ok (.getfield 15, 3) := by decide +kernel
theorem dX10_wrenchRow_5 : decode cX10_wrenchRow 5 = .ok (.imul, 1) := by decide +kernel
theorem dX10_wrenchRow_6 : decode cX10_wrenchRow 6 = .ok (.newarray .int, 2) := by decide +kernel
theorem dX10_wrenchRow_8 : decode cX10_wrenchRow 8 = .ok (.astore_n 1, 1) := by decide +kernel
theorem dX10_wrenchRow_9 : decode cX10_wrenchRow 9 = .ok (.iconst 0, 1) := by decide +kernel
theorem dX10_wrenchRow_10 : decode cX10_wrenchRow 10 = .ok (.istore_n 2, 1) := by decide +kernel
theorem dX10_wrenchRow_11 : decode cX10_wrenchRow 11 = .ok (.iload_n 2, 1) := by decide +kernel
theorem dX10_wrenchRow_12 : decode cX10_wrenchRow 12 = .ok (.aload_n 0, 1) := by decide +kernel
theorem dX10_wrenchRow_13 : decode cX10_wrenchRow 13 = .ok (.getfield 15, 3) := by decide +kernel
theorem dX10_wrenchRow_16 : decode cX10_wrenchRow 16 = .ok (.if_icmp .ge 64, 3) := by decide +kernel
theorem dX10_wrenchRow_19 : decode cX10_wrenchRow 19 = .ok (.aload_n 0, 1) := by decide +kernel
theorem dX10_wrenchRow_20 : decode cX10_wrenchRow 20 = .ok (.iload_n 2, 1) := by decide +kernel
theorem dX10_wrenchRow_21 : decode cX10_wrenchRow 21 = .ok (.invokevirtual 90, 3) := by decide +kernel
theorem dX10_wrenchRow_24 : decode cX10_wrenchRow 24 = .ok (.astore_n 3, 1) := by decide +kernel
theorem dX10_wrenchRow_25 : decode cX10_wrenchRow 25 = .ok (.iconst 3, 1) := by decide +kernel
theorem dX10_wrenchRow_26 : decode cX10_wrenchRow 26 = .ok (.iload_n 2, 1) := by decide +kernel
theorem dX10_wrenchRow_27 : decode cX10_wrenchRow 27 = .ok (.imul, 1) := by decide +kernel
theorem dX10_wrenchRow_28 : decode cX10_wrenchRow 28 = .ok (.istore 4, 2) := by decide +kernel
theorem dX10_wrenchRow_30 : decode cX10_wrenchRow 30 = .ok (.aload_n 3, 1) := by decide +kernel
theorem dX10_wrenchRow_31 : decode cX10_wrenchRow 31 = .ok (.ifnull 43, 3) := by decide +kernel
theorem dX10_wrenchRow_34 : decode cX10_wrenchRow 34 = .ok (.iload 4, 2) := by decide +kernel
theorem dX10_wrenchRow_36 : decode cX10_wrenchRow 36 = .ok (.iconst 2, 1) := by decide +kernel
theorem dX10_wrenchRow_37 : decode cX10_wrenchRow 37 = .ok (.iadd, 1) := by decide +kernel
theorem dX10_wrenchRow_38 : decode cX10_wrenchRow 38 = .ok (.aload_n 1, 1) := by decide +kernel
theorem dX10_wrenchRow_39 : decode cX10_wrenchRow 39 = .ok (.arraylength, 1) := by decide +kernel
theorem dX10_wrenchRow_40 : decode cX10_wrenchRow 40 = .ok (.if_icmp .ge 34, 3) := by decide +kernel
theorem dX10_wrenchRow_43 : decode cX10_wrenchRow 43 = .ok (.aload_n 1, 1) := by decide +kernel
theorem dX10_wrenchRow_44 : decode cX10_wrenchRow 44 = .ok (.iload 4, 2) := by decide +kernel
theorem dX10_wrenchRow_46 : decode cX10_wrenchRow 46 = .ok (.aload_n 3, 1) := by decide +kernel
theorem dX10_wrenchRow_47 : decode cX10_wrenchRow 47 = .ok (.iconst (-1), 1) := by decide +kernel
theorem dX10_wrenchRow_48 : decode cX10_wrenchRow 48 = .ok (.invokevirtual 130, 3) := by decide +kernel
theorem dX10_wrenchRow_51 : decode cX10_wrenchRow 51 = .ok (.iastore, 1) := by decide +kernel
theorem dX10_wrenchRow_52 : decode cX10_wrenchRow 52 = .ok (.aload_n 1, 1) := by decide +kernel
theorem dX10_wrenchRow_53 : decode cX10_wrenchRow 53 = .ok (.iload 4, 2) := by decide +kernel
theorem dX10_wrenchRow_55 : decode cX10_wrenchRow 55 = .ok (.iconst 1, 1) := by decide +kernel
theorem dX10_wrenchRow_56 : decode cX10_wrenchRow 56 = .ok (.iadd, 1) := by decide +kernel
theorem dX10_wrenchRow_57 : decode cX10_wrenchRow 57 = .ok (.aload_n 3, 1) := by decide +kernel
theorem dX10_wrenchRow_58 : decode cX10_wrenchRow 58 = .ok (.iconst (-1), 1) := by decide +kernel
theorem dX10_wrenchRow_59 : decode cX10_wrenchRow 59 = .ok (.invokevirtual 134, 3) := by decide +kernel
theorem dX10_wrenchRow_62 : decode cX10_wrenchRow 62 = .ok (.iastore, 1) := by decide +kernel
theorem dX10_wrenchRow_63 : decode cX10_wrenchRow 63 = .ok (.aload_n 1, 1) := by decide +kernel
theorem dX10_wrenchRow_64 : decode cX10_wrenchRow 64 = .ok (.iload 4, 2) := by decide +kernel
theorem dX10_wrenchRow_66 : decode cX10_wrenchRow 66 = .ok (.iconst 2, 1) := by decide +kernel
theorem dX10_wrenchRow_67 : decode cX10_wrenchRow 67 = .ok (.iadd, 1) := by decide +kernel
theorem dX10_wrenchRow_68 : decode cX10_wrenchRow 68 = .ok (.aload_n 3, 1) := by decide +kernel
theorem dX10_wrenchRow_69 : decode cX10_wrenchRow 69 = .ok (.iconst (-1), 1) := by decide +kernel
theorem dX10_wrenchRow_70 : decode cX10_wrenchRow 70 = .ok (.invokevirtual 137, 3) := by decide +kernel
theorem dX10_wrenchRow_73 : decode cX10_wrenchRow 73 = .ok (.iastore, 1) := by decide +kernel
theorem dX10_wrenchRow_74 : decode cX10_wrenchRow 74 = .ok (.iinc 2 1, 3) := by decide +kernel
theorem dX10_wrenchRow_77 : decode cX10_wrenchRow 77 = .ok (.goto (-66), 3) := by decide +kernel
theorem dX10_wrenchRow_80 : decode cX10_wrenchRow 80 = .ok (.aload_n 1, 1) := by decide +kernel
theorem dX10_wrenchRow_81 : decode cX10_wrenchRow 81 = .ok (.areturn, 1) := by decide +kernel
theorem dX10_takePlacing_0 : decode cX10_takePlacing 0 = .ok (.aload_n 0, 1) := by decide +kernel
theorem dX10_takePlacing_1 : decode cX10_takePlacing 1 = .ok (.getfield 22, 3) := by decide +kernel
theorem dX10_takePlacing_4 : decode cX10_takePlacing 4 = .ok (.invokevirtual 356, 3) := by decide +kernel
theorem dX10_takePlacing_7 : decode cX10_takePlacing 7 = .ok (.iconst 0, 1) := by decide +kernel
theorem dX10_takePlacing_8 : decode cX10_takePlacing 8 = .ok (.istore_n 1, 1) := by decide +kernel
theorem dX10_takePlacing_9 : decode cX10_takePlacing 9 = .ok (.iload_n 1, 1) := by decide +kernel
theorem dX10_takePlacing_10 : decode cX10_takePlacing 10 = .ok (.aload_n 0, 1) := by decide +kernel
theorem dX10_takePlacing_11 : decode cX10_takePlacing 11 = .ok (.getfield 15, 3) := by decide +kernel
theorem dX10_takePlacing_14 : decode cX10_takePlacing 14 = .ok (.if_icmp .ge 28, 3) := by decide +kernel
theorem dX10_takePlacing_17 : decode cX10_takePlacing 17 = .ok (.aload_n 0, 1) := by decide +kernel
theorem dX10_takePlacing_18 : decode cX10_takePlacing 18 = .ok (.iload_n 1, 1) := by decide +kernel
theorem dX10_takePlacing_19 : decode cX10_takePlacing 19 = .ok (.invokevirtual 205, 3) := by decide +kernel
theorem dX10_takePlacing_22 : decode cX10_takePlacing 22 = .ok (.astore_n 2, 1) := by decide +kernel
theorem dX10_takePlacing_23 : decode cX10_takePlacing 23 = .ok (.aload_n 2, 1) := by decide +kernel
theorem dX10_takePlacing_24 : decode cX10_takePlacing 24 = .ok (.ifnull 12, 3) := by decide +kernel
theorem dX10_takePlacing_27 : decode cX10_takePlacing 27 = .ok (.aload_n 0, 1) := by decide +kernel
theorem dX10_takePlacing_28 : decode cX10_takePlacing 28 = .ok (.getfield 22, 3) := by decide +kernel
theorem dX10_takePlacing_31 : decode cX10_takePlacing 31 = .ok (.aload_n 2, 1) := by decide +kernel
theorem dX10_takePlacing_32 : decode cX10_takePlacing 32 = .ok (.iconst (-1), 1) := by decide +kernel
theorem dX10_takePlacing_33 : decode cX10_takePlacing 33 = .ok (.invokevirtual 357, 3) := by decide +kernel
theorem dX10_takePlacing_36 : decode cX10_takePlacing 36 = .ok (.iinc 1 1, 3) := by decide +kernel
theorem dX10_takePlacing_39 : decode cX10_takePlacing 39 = .ok (.goto (-30), 3) := by decide +kernel
theorem dX10_takePlacing_42 : decode cX10_takePlacing 42 = .ok (.return_, 1) := by decide +kernel
theorem dX10_isFormHeld_0 : decode cX10_isFormHeld 0 = .ok (.aload_n 0, 1) := by decide +kernel
theorem dX10_isFormHeld_1 : decode cX10_isFormHeld 1 = .ok (.getfield 22, 3) := by decide +kernel
theorem dX10_isFormHeld_4 : decode cX10_isFormHeld 4 = .ok (.invokevirtual 356, 3) := by decide +kernel
theorem dX10_isFormHeld_7 : decode cX10_isFormHeld 7 = .ok (.iconst 0, 1) := by decide +kernel
theorem dX10_isFormHeld_8 : decode cX10_isFormHeld 8 = .ok (.istore_n 2, 1) := by decide +kernel
theorem dX10_isFormHeld_9 : decode cX10_isFormHeld 9 = .ok (.iload_n 2, 1) := by decide +kernel
theorem dX10_isFormHeld_10 : decode cX10_isFormHeld 10 = .ok (.aload_n 0, 1) := by decide +kernel
theorem dX10_isFormHeld_11 : decode cX10_isFormHeld 11 = .ok (.getfield 15, 3) := by decide +kernel
theorem dX10_isFormHeld_14 : decode cX10_isFormHeld 14 = .ok (.if_icmp .ge 33, 3) := by decide +kernel
theorem dX10_isFormHeld_17 : decode cX10_isFormHeld 17 = .ok (.aload_n 0, 1) := by decide +kernel
theorem dX10_isFormHeld_18 : decode cX10_isFormHeld 18 = .ok (.iload_n 2, 1) := by decide +kernel
theorem dX10_isFormHeld_19 : decode cX10_isFormHeld 19 = .ok (.invokevirtual 90, 3) := by decide +kernel
theorem dX10_isFormHeld_22 : decode cX10_isFormHeld 22 = .ok (.astore_n 3, 1) := by decide +kernel
theorem dX10_isFormHeld_23 : decode cX10_isFormHeld 23 = .ok (.aload_n 3, 1) := by decide +kernel
theorem dX10_isFormHeld_24 : decode cX10_isFormHeld 24 = .ok (.ifnull 17, 3) := by decide +kernel
theorem dX10_isFormHeld_27 : decode cX10_isFormHeld 27 = .ok (.iload_n 2, 1) := by decide +kernel
theorem dX10_isFormHeld_28 : decode cX10_isFormHeld 28 = .ok (.iload_n 1, 1) := by decide +kernel
theorem dX10_isFormHeld_29 : decode cX10_isFormHeld 29 = .ok (.if_icmp .eq 12, 3) := by decide +kernel
theorem dX10_isFormHeld_32 : decode cX10_isFormHeld 32 = .ok (.aload_n 0, 1) := by decide +kernel
theorem dX10_isFormHeld_33 : decode cX10_isFormHeld 33 = .ok (.getfield 22, 3) := by decide +kernel
theorem dX10_isFormHeld_36 : decode cX10_isFormHeld 36 = .ok (.aload_n 3, 1) := by decide +kernel
theorem dX10_isFormHeld_37 : decode cX10_isFormHeld 37 = .ok (.iconst (-1), 1) := by decide +kernel
theorem dX10_isFormHeld_38 : decode cX10_isFormHeld 38 = .ok (.invokevirtual 357, 3) := by decide +kernel
theorem dX10_isFormHeld_41 : decode cX10_isFormHeld 41 = .ok (.iinc 2 1, 3) := by decide +kernel
theorem dX10_isFormHeld_44 : decode cX10_isFormHeld 44 = .ok (.goto (-35), 3) := by decide +kernel
theorem dX10_isFormHeld_47 : decode cX10_isFormHeld 47 = .ok (.aload_n 0, 1) := by decide +kernel
theorem dX10_isFormHeld_48 : decode cX10_isFormHeld 48 = .ok (.getfield 22, 3) := by decide +kernel
theorem dX10_isFormHeld_51 : decode cX10_isFormHeld 51 = .ok (.invokevirtual 361, 3) := by decide +kernel
theorem dX10_isFormHeld_54 : decode cX10_isFormHeld 54 = .ok (.aload_n 0, 1) := by decide +kernel
theorem dX10_isFormHeld_55 : decode cX10_isFormHeld 55 = .ok (.getfield 22, 3) := by decide +kernel
theorem dX10_isFormHeld_58 : decode cX10_isFormHeld 58 = .ok (.getfield 364, 3) := by decide +kernel
theorem dX10_isFormHeld_61 : decode cX10_isFormHeld 61 = .ok (.ifCond .ne 7, 3) := by decide +kernel
theorem dX10_isFormHeld_64 : decode cX10_isFormHeld 64 = .ok (.iconst 1, 1) := by decide +kernel
theorem dX10_isFormHeld_65 : decode cX10_isFormHeld 65 = .ok (.goto 4, 3) := by decide +kernel
theorem dX10_isFormHeld_68 : decode cX10_isFormHeld 68 = .ok (.iconst 0, 1) := by decide +kernel
theorem dX10_isFormHeld_69 : decode cX10_isFormHeld 69 = .ok (.ireturn, 1) := by decide +kernel
theorem dX10_refreshPushes_0 : decode cX10_refreshPushes 0 = .ok (.aload_n 0, 1) := by decide +kernel
theorem dX10_refreshPushes_1 : decode cX10_refreshPushes 1 = .ok (.getfield 33, 3) := by decide +kernel
theorem dX10_refreshPushes_4 : decode cX10_refreshPushes 4 = .ok (.ifCond .ne 4, 3) := by decide +kernel
theorem dX10_refreshPushes_7 : decode cX10_refreshPushes 7 = .ok (.return_, 1) := by decide +kernel
theorem dX10_refreshPushes_8 : decode cX10_refreshPushes 8 = .ok (.aload_n 0, 1) := by decide +kernel
theorem dX10_refreshPushes_9 : decode cX10_refreshPushes 9 = .ok (.getfield 26, 3) := by decide +kernel
theorem dX10_refreshPushes_12 : decode cX10_refreshPushes 12 = .ok (.invokevirtual 356, 3) := by decide +kernel
theorem dX10_refreshPushes_15 : decode cX10_refreshPushes 15 = .ok (.aload_n 0, 1) := by decide +kernel
theorem dX10_refreshPushes_16 : decode cX10_refreshPushes 16 = .ok (.getfield 29, 3) := by decide +kernel
theorem dX10_refreshPushes_19 : decode cX10_refreshPushes 19 = .ok (.iconst 0, 1) := by decide +kernel
theorem dX10_refreshPushes_20 : decode cX10_refreshPushes 20 = .ok (.lconst 0, 1) := by decide +kernel
theorem dX10_refreshPushes_21 : decode cX10_refreshPushes 21 = .ok (.lastore, 1) := by decide +kernel
theorem dX10_refreshPushes_22 : decode cX10_refreshPushes 22 = .ok (.aload_n 0, 1) := by decide +kernel
theorem dX10_refreshPushes_23 : decode cX10_refreshPushes 23 = .ok (.getfield 29, 3) := by decide +kernel
theorem dX10_refreshPushes_26 : decode cX10_refreshPushes 26 = .ok (.iconst 1, 1) := by decide +kernel
theorem dX10_refreshPushes_27 : decode cX10_refreshPushes 27 = .ok (.lconst 0, 1) := by decide +kernel
theorem dX10_refreshPushes_28 : decode cX10_refreshPushes 28 = .ok (.lastore, 1) := by decide +kernel
theorem dX10_refreshPushes_29 : decode cX10_refreshPushes 29 = .ok (.aload_n 0, 1) := by decide +kernel
theorem dX10_refreshPushes_30 : decode cX10_refreshPushes 30 = .ok (.getfield 29, 3) := by decide +kernel
theorem dX10_refreshPushes_33 : decode cX10_refreshPushes 33 = .ok (.iconst 2, 1) := by decide +kernel
theorem dX10_refreshPushes_34 : decode cX10_refreshPushes 34 = .ok (.lconst 0, 1) := by decide +kernel
theorem dX10_refreshPushes_35 : decode cX10_refreshPushes 35 = .ok (.lastore, 1) := by decide +kernel
theorem dX10_refreshPushes_36 : decode cX10_refreshPushes 36 = .ok (.iconst 0, 1) := by decide +kernel
theorem dX10_refreshPushes_37 : decode cX10_refreshPushes 37 = .ok (.istore_n 1, 1) := by decide +kernel
theorem dX10_refreshPushes_38 : decode cX10_refreshPushes 38 = .ok (.iload_n 1, 1) := by decide +kernel
theorem dX10_refreshPushes_39 : decode cX10_refreshPushes 39 = .ok (.aload_n 0, 1) := by decide +kernel
theorem dX10_refreshPushes_40 : decode cX10_refreshPushes 40 = .ok (.getfield 15, 3) := by decide +kernel
theorem dX10_refreshPushes_43 : decode cX10_refreshPushes 43 = .ok (.if_icmp .ge 83, 3) := by decide +kernel
theorem dX10_refreshPushes_46 : decode cX10_refreshPushes 46 = .ok (.aload_n 0, 1) := by decide +kernel
theorem dX10_refreshPushes_47 : decode cX10_refreshPushes 47 = .ok (.iload_n 1, 1) := by decide +kernel
theorem dX10_refreshPushes_48 : decode cX10_refreshPushes 48 = .ok (.invokevirtual 90, 3) := by decide +kernel
theorem dX10_refreshPushes_51 : decode cX10_refreshPushes 51 = .ok (.astore_n 2, 1) := by decide +kernel
theorem dX10_refreshPushes_52 : decode cX10_refreshPushes 52 = .ok (.aload_n 2, 1) := by decide +kernel
theorem dX10_refreshPushes_53 : decode cX10_refreshPushes 53 = .ok (.ifnull 18, 3) := by decide +kernel
theorem dX10_refreshPushes_56 : decode cX10_refreshPushes 56 = .ok (.aload_n 2, 1) := by decide +kernel
theorem dX10_refreshPushes_57 : decode cX10_refreshPushes 57 = .ok (.invokevirtual 100, 3) := by decide +kernel
theorem dX10_refreshPushes_60 : decode cX10_refreshPushes 60 = .ok (.ifCond .eq 11, 3) := by decide +kernel
theorem dX10_refreshPushes_63 : decode cX10_refreshPushes 63 = .ok (.aload_n 0, 1) := by decide +kernel
theorem dX10_refreshPushes_64 : decode cX10_refreshPushes 64 = .ok (.aload_n 2, 1) := by decide +kernel
theorem dX10_refreshPushes_65 : decode cX10_refreshPushes 65 = .ok (.invokevirtual 367, 3) := by decide +kernel
theorem dX10_refreshPushes_68 : decode cX10_refreshPushes 68 = .ok (.goto 52, 3) := by decide +kernel
theorem dX10_refreshPushes_71 : decode cX10_refreshPushes 71 = .ok (.aload_n 2, 1) := by decide +kernel
theorem dX10_refreshPushes_72 : decode cX10_refreshPushes 72 = .ok (.ifnull 48, 3) := by decide +kernel
theorem dX10_refreshPushes_75 : decode cX10_refreshPushes 75 = .ok (.aload_n 0, 1) := by decide +kernel
theorem dX10_refreshPushes_76 : decode cX10_refreshPushes 76 = .ok (.getfield 29, 3) := by decide +kernel
theorem dX10_refreshPushes_79 : decode cX10_refreshPushes 79 = .ok (.iconst 0, 1) := by decide +kernel
theorem dX10_refreshPushes_80 : decode cX10_refreshPushes 80 = .ok (.dup2, 1) := by decide +kernel
theorem dX10_refreshPushes_81 : decode cX10_refreshPushes 81 = .ok (.laload, 1) := by decide +kernel
theorem dX10_refreshPushes_82 : decode cX10_refreshPushes 82 = .ok (.aload_n 2, 1) := by decide +kernel
theorem dX10_refreshPushes_83 : decode cX10_refreshPushes 83 = .ok (.iconst (-1), 1) := by decide +kernel
theorem dX10_refreshPushes_84 : decode cX10_refreshPushes 84 = .ok (.invokevirtual 130, 3) := by decide +kernel
theorem dX10_refreshPushes_87 : decode cX10_refreshPushes 87 = .ok (.i2l, 1) := by decide +kernel
theorem dX10_refreshPushes_88 : decode cX10_refreshPushes 88 = .ok (.ladd, 1) := by decide +kernel
theorem dX10_refreshPushes_89 : decode cX10_refreshPushes 89 = .ok (.lastore, 1) := by decide +kernel
theorem dX10_refreshPushes_90 : decode cX10_refreshPushes 90 = .ok (.aload_n 0, 1) := by decide +kernel
theorem dX10_refreshPushes_91 : decode cX10_refreshPushes 91 = .ok (.getfield 29, 3) := by decide +kernel
theorem dX10_refreshPushes_94 : decode cX10_refreshPushes 94 = .ok (.iconst 1, 1) := by decide +kernel
theorem dX10_refreshPushes_95 : decode cX10_refreshPushes 95 = .ok (.dup2, 1) := by decide +kernel
theorem dX10_refreshPushes_96 : decode cX10_refreshPushes 96 = .ok (.laload, 1) := by decide +kernel
theorem dX10_refreshPushes_97 : decode cX10_refreshPushes 97 = .ok (.aload_n 2, 1) := by decide +kernel
theorem dX10_refreshPushes_98 : decode cX10_refreshPushes 98 = .ok (.iconst (-1), 1) := by decide +kernel
theorem dX10_refreshPushes_99 : decode cX10_refreshPushes 99 = .ok (.invokevirtual 134, 3) := by decide +kernel
theorem dX10_refreshPushes_102 : decode cX10_refreshPushes 102 = .ok (.i2l, 1) := by decide +kernel
theorem dX10_refreshPushes_103 : decode cX10_refreshPushes 103 = .ok (.ladd, 1) := by decide +kernel
theorem dX10_refreshPushes_104 : decode cX10_refreshPushes 104 = .ok (.lastore, 1) := by decide +kernel
theorem dX10_refreshPushes_105 : decode cX10_refreshPushes 105 = .ok (.aload_n 0, 1) := by decide +kernel
theorem dX10_refreshPushes_106 : decode cX10_refreshPushes 106 = .ok (.getfield 29, 3) := by decide +kernel
theorem dX10_refreshPushes_109 : decode cX10_refreshPushes 109 = .ok (.iconst 2, 1) := by decide +kernel
theorem dX10_refreshPushes_110 : decode cX10_refreshPushes 110 = .ok (.dup2, 1) := by decide +kernel
theorem dX10_refreshPushes_111 : decode cX10_refreshPushes 111 = .ok (.laload, 1) := by decide +kernel
theorem dX10_refreshPushes_112 : decode cX10_refreshPushes 112 = .ok (.aload_n 2, 1) := by decide +kernel
theorem dX10_refreshPushes_113 : decode cX10_refreshPushes 113 = .ok (.iconst (-1), 1) := by decide +kernel
theorem dX10_refreshPushes_114 : decode cX10_refreshPushes 114 = .ok (.invokevirtual 137, 3) := by decide +kernel
theorem dX10_refreshPushes_117 : decode cX10_refreshPushes 117 = .ok (.i2l, 1) := by decide +kernel
theorem dX10_refreshPushes_118 : decode cX10_refreshPushes 118 = .ok (.ladd, 1) := by decide +kernel
theorem dX10_refreshPushes_119 : decode cX10_refreshPushes 119 = .ok (.lastore, 1) := by decide +kernel
theorem dX10_refreshPushes_120 : decode cX10_refreshPushes 120 = .ok (.iinc 1 1, 3) := by decide +kernel
theorem dX10_refreshPushes_123 : decode cX10_refreshPushes 123 = .ok (.goto (-85), 3) := by decide +kernel
theorem dX10_refreshPushes_126 : decode cX10_refreshPushes 126 = .ok (.aload_n 0, 1) := by decide +kernel
theorem dX10_refreshPushes_127 : decode cX10_refreshPushes 127 = .ok (.getfield 26, 3) := by decide +kernel
theorem dX10_refreshPushes_130 : decode cX10_refreshPushes 130 = .ok (.invokevirtual 361, 3) := by decide +kernel
theorem dX10_refreshPushes_133 : decode cX10_refreshPushes 133 = .ok (.aload_n 0, 1) := by decide +kernel
theorem dX10_refreshPushes_134 : decode cX10_refreshPushes 134 = .ok (.iconst 0, 1) := by decide +kernel
theorem dX10_refreshPushes_135 : decode cX10_refreshPushes 135 = .ok (.putfield 33, 3) := by decide +kernel
theorem dX10_refreshPushes_138 : decode cX10_refreshPushes 138 = .ok (.return_, 1) := by decide +kernel
theorem dX10_addPushes_0 : decode cX10_addPushes 0 = .ok (.iconst 0, 1) := by decide +kernel
theorem dX10_addPushes_1 : decode cX10_addPushes 1 = .ok (.istore_n 2, 1) := by decide +kernel
theorem dX10_addPushes_2 : decode cX10_addPushes 2 = .ok (.iload_n 2, 1) := by decide +kernel
theorem dX10_addPushes_3 : decode cX10_addPushes 3 = .ok (.aload_n 1, 1) := by decide +kernel
theorem dX10_addPushes_4 : decode cX10_addPushes 4 = .ok (.invokevirtual 120, 3) := by decide +kernel
theorem dX10_addPushes_7 : decode cX10_addPushes 7 = .ok (.if_icmp .ge 18, 3) := by decide +kernel
theorem dX10_addPushes_10 : decode cX10_addPushes 10 = .ok (.aload_n 0, 1) := by decide +kernel
theorem dX10_addPushes_11 : decode cX10_addPushes 11 = .ok (.getfield 26, 3) := by decide +kernel
theorem dX10_addPushes_14 : decode cX10_addPushes 14 = .ok (.aload_n 1, 1) := by decide +kernel
theorem dX10_addPushes_15 : decode cX10_addPushes 15 = .ok (.iload_n 2, 1) := by decide +kernel
theorem dX10_addPushes_16 : decode cX10_addPushes 16 = .ok (.invokevirtual 357, 3) := by decide +kernel
theorem dX10_addPushes_19 : decode cX10_addPushes 19 = .ok (.iinc 2 1, 3) := by decide +kernel
theorem dX10_addPushes_22 : decode cX10_addPushes 22 = .ok (.goto (-20), 3) := by decide +kernel
theorem dX10_addPushes_25 : decode cX10_addPushes 25 = .ok (.return_, 1) := by decide +kernel
theorem dX10_isHeld_0 : decode cX10_isHeld 0 = .ok (.aload_n 0, 1) := by decide +kernel
theorem dX10_isHeld_1 : decode cX10_isHeld 1 = .ok (.getfield 26, 3) := by decide +kernel
theorem dX10_isHeld_4 : decode cX10_isHeld 4 = .ok (.lload_n 1, 1) := by decide +kernel
theorem dX10_isHeld_5 : decode cX10_isHeld 5 = .ok (.lneg, 1) := by decide +kernel
theorem dX10_isHeld_6 : decode cX10_isHeld 6 = .ok (.lload 7, 2) := by decide +kernel
theorem dX10_isHeld_8 : decode cX10_isHeld 8 = .ok (.aload_n 0, 1) := by decide +kernel
theorem dX10_isHeld_9 : decode cX10_isHeld 9 = .ok (.getfield 29, 3) := by decide +kernel
theorem dX10_isHeld_12 : decode cX10_isHeld 12 = .ok (.iconst 0, 1) := by decide +kernel
theorem dX10_isHeld_13 : decode cX10_isHeld 13 = .ok (.laload, 1) := by decide +kernel
theorem dX10_isHeld_14 : decode cX10_isHeld 14 = .ok (.lmul, 1) := by decide +kernel
theorem dX10_isHeld_15 : decode cX10_isHeld 15 = .ok (.lsub, 1) := by decide +kernel
theorem dX10_isHeld_16 : decode cX10_isHeld 16 = .ok (.lload_n 3, 1) := by decide +kernel
theorem dX10_isHeld_17 : decode cX10_isHeld 17 = .ok (.lneg, 1) := by decide +kernel
theorem dX10_isHeld_18 : decode cX10_isHeld 18 = .ok (.lload 7, 2) := by decide +kernel
theorem dX10_isHeld_20 : decode cX10_isHeld 20 = .ok (.aload_n 0, 1) := by decide +kernel
theorem dX10_isHeld_21 : decode cX10_isHeld 21 = .ok (.getfield 29, 3) := by decide +kernel
theorem dX10_isHeld_24 : decode cX10_isHeld 24 = .ok (.iconst 1, 1) := by decide +kernel
theorem dX10_isHeld_25 : decode cX10_isHeld 25 = .ok (.laload, 1) := by decide +kernel
theorem dX10_isHeld_26 : decode cX10_isHeld 26 = .ok (.lmul, 1) := by decide +kernel
theorem dX10_isHeld_27 : decode cX10_isHeld 27 = .ok (.lsub, 1) := by decide +kernel
theorem dX10_isHeld_28 : decode cX10_isHeld 28 = .ok (.lload 5, 2) := by decide +kernel
theorem dX10_isHeld_30 : decode cX10_isHeld 30 = .ok (.lneg, 1) := by decide +kernel
theorem dX10_isHeld_31 : decode cX10_isHeld 31 = .ok (.lload 7, 2) := by decide +kernel
theorem dX10_isHeld_33 : decode cX10_isHeld 33 = .ok (.aload_n 0, 1) := by decide +kernel
theorem dX10_isHeld_34 : decode cX10_isHeld 34 = .ok (.getfield 29, 3) := by decide +kernel
theorem dX10_isHeld_37 : decode cX10_isHeld 37 = .ok (.iconst 2, 1) := by decide +kernel
theorem dX10_isHeld_38 : decode cX10_isHeld 38 = .ok (.laload, 1) := by decide +kernel
theorem dX10_isHeld_39 : decode cX10_isHeld 39 = .ok (.lmul, 1) := by decide +kernel
theorem dX10_isHeld_40 : decode cX10_isHeld 40 = .ok (.lsub, 1) := by decide +kernel
theorem dX10_isHeld_41 : decode cX10_isHeld 41 = .ok (.invokevirtual 370, 3) := by decide +kernel
theorem dX10_isHeld_44 : decode cX10_isHeld 44 = .ok (.ireturn, 1) := by decide +kernel
theorem dX10_tryThree_0 : decode cX10_tryThree 0 = .ok (.aload_n 0, 1) := by decide +kernel
theorem dX10_tryThree_1 : decode cX10_tryThree 1 = .ok (.iload_n 1, 1) := by decide +kernel
theorem dX10_tryThree_2 : decode cX10_tryThree 2 = .ok (.invokevirtual 205, 3) := by decide +kernel
theorem dX10_tryThree_5 : decode cX10_tryThree 5 = .ok (.astore 4, 2) := by decide +kernel
theorem dX10_tryThree_7 : decode cX10_tryThree 7 = .ok (.aload_n 0, 1) := by decide +kernel
theorem dX10_tryThree_8 : decode cX10_tryThree 8 = .ok (.iload_n 2, 1) := by decide +kernel
theorem dX10_tryThree_9 : decode cX10_tryThree 9 = .ok (.invokevirtual 205, 3) := by decide +kernel
theorem dX10_tryThree_12 : decode cX10_tryThree 12 = .ok (.astore 5, 2) := by decide +kernel
theorem dX10_tryThree_14 : decode cX10_tryThree 14 = .ok (.aload_n 0, 1) := by decide +kernel
theorem dX10_tryThree_15 : decode cX10_tryThree 15 = .ok (.iload_n 3, 1) := by decide +kernel
theorem dX10_tryThree_16 : decode cX10_tryThree 16 = .ok (.invokevirtual 205, 3) := by decide +kernel
theorem dX10_tryThree_19 : decode cX10_tryThree 19 = .ok (.astore 6, 2) := by decide +kernel
theorem dX10_tryThree_21 : decode cX10_tryThree 21 = .ok (.aload 4, 2) := by decide +kernel
theorem dX10_tryThree_23 : decode cX10_tryThree 23 = .ok (.ifnull 13, 3) := by decide +kernel
theorem dX10_tryThree_26 : decode cX10_tryThree 26 = .ok (.aload 5, 2) := by decide +kernel
theorem dX10_tryThree_28 : decode cX10_tryThree 28 = .ok (.ifnull 8, 3) := by decide +kernel
theorem dX10_tryThree_31 : decode cX10_tryThree 31 = .ok (.aload 6, 2) := by decide +kernel
theorem dX10_tryThree_33 : decode cX10_tryThree 33 = .ok (.ifnonnull 4, 3) := by decide +kernel
theorem dX10_tryThree_36 : decode cX10_tryThree 36 = .ok (.return_, 1) := by decide +kernel
theorem dX10_tryThree_37 : decode cX10_tryThree 37 = .ok (.aload_n 0, 1) := by decide +kernel
theorem dX10_tryThree_38 : decode cX10_tryThree 38 = .ok (.getfield 47, 3) := by decide +kernel
theorem dX10_tryThree_41 : decode cX10_tryThree 41 = .ok (.aload 4, 2) := by decide +kernel
theorem dX10_tryThree_43 : decode cX10_tryThree 43 = .ok (.aload 5, 2) := by decide +kernel
theorem dX10_tryThree_45 : decode cX10_tryThree 45 = .ok (.aload 6, 2) := by decide +kernel
theorem dX10_tryThree_47 : decode cX10_tryThree 47 = .ok (.invokevirtual 214, 3) := by decide +kernel
theorem dX10_tryThree_50 : decode cX10_tryThree 50 = .ok (.ifCond .eq 21, 3) := by decide +kernel
theorem dX10_tryThree_53 : decode cX10_tryThree 53 = .ok (.aload_n 0, 1) := by decide +kernel
theorem dX10_tryThree_54 : decode cX10_tryThree 54 = .ok (.getfield 47, 3) := by decide +kernel
theorem dX10_tryThree_57 : decode cX10_tryThree 57 = .ok (.iload_n 1, 1) := by decide +kernel
theorem dX10_tryThree_58 : decode cX10_tryThree 58 = .ok (.bipush 10, 2) := by decide +kernel
theorem dX10_tryThree_60 : decode cX10_tryThree 60 = .ok (.iload_n 2, 1) := by decide +kernel
theorem dX10_tryThree_61 : decode cX10_tryThree 61 = .ok (.imul, 1) := by decide +kernel
theorem dX10_tryThree_62 : decode cX10_tryThree 62 = .ok (.iadd, 1) := by decide +kernel
theorem dX10_tryThree_63 : decode cX10_tryThree 63 = .ok (.bipush 100, 2) := by decide +kernel
theorem dX10_tryThree_65 : decode cX10_tryThree 65 = .ok (.iload_n 3, 1) := by decide +kernel
theorem dX10_tryThree_66 : decode cX10_tryThree 66 = .ok (.imul, 1) := by decide +kernel
theorem dX10_tryThree_67 : decode cX10_tryThree 67 = .ok (.iadd, 1) := by decide +kernel
theorem dX10_tryThree_68 : decode cX10_tryThree 68 = .ok (.invokevirtual 374, 3) := by decide +kernel
theorem dX10_tryThree_71 : decode cX10_tryThree 71 = .ok (.return_, 1) := by decide +kernel
theorem dX10_commonDivisor_0 : decode cX10_commonDivisor 0 = .ok (.lload_n 0, 1) := by decide +kernel
theorem dX10_commonDivisor_1 : decode cX10_commonDivisor 1 = .ok (.invokestatic 378, 3) := by decide +kernel
theorem dX10_commonDivisor_4 : decode cX10_commonDivisor 4 = .ok (.lstore 4, 2) := by decide +kernel
theorem dX10_commonDivisor_6 : decode cX10_commonDivisor 6 = .ok (.lload_n 2, 1) := by decide +kernel
theorem dX10_commonDivisor_7 : decode cX10_commonDivisor 7 = .ok (.invokestatic 378, 3) := by decide +kernel
theorem dX10_commonDivisor_10 : decode cX10_commonDivisor 10 = .ok (.lstore 6, 2) := by decide +kernel
theorem dX10_commonDivisor_12 : decode cX10_commonDivisor 12 = .ok (.iconst 0, 1) := by decide +kernel
theorem dX10_commonDivisor_13 : decode cX10_commonDivisor 13 = .ok (.istore 8, 2) := by decide +kernel
theorem dX10_commonDivisor_15 : decode cX10_commonDivisor 15 = .ok (.iload 8, 2) := by decide +kernel
theorem dX10_commonDivisor_17 : decode cX10_commonDivisor 17 = .ok (.bipush 100, 2) := by decide +kernel
theorem dX10_commonDivisor_19 : decode cX10_commonDivisor 19 = .ok (.if_icmp .ge 31, 3) := by decide +kernel
theorem dX10_commonDivisor_22 : decode cX10_commonDivisor 22 = .ok (.lload 6, 2) := by decide +kernel
theorem dX10_commonDivisor_24 : decode cX10_commonDivisor 24 = .ok (.lconst 0, 1) := by decide +kernel
theorem dX10_commonDivisor_25 : decode cX10_commonDivisor 25 = .ok (.lcmp, 1) := by decide +kernel
theorem dX10_commonDivisor_26 : decode cX10_commonDivisor 26 = .ok (.ifCond .eq 24, 3) := by decide +kernel
theorem dX10_commonDivisor_29 : decode cX10_commonDivisor 29 = .ok (.lload 4, 2) := by decide +kernel
theorem dX10_commonDivisor_31 : decode cX10_commonDivisor 31 = .ok (.lload 6, 2) := by decide +kernel
theorem dX10_commonDivisor_33 : decode cX10_commonDivisor 33 = .ok (.lrem, 1) := by decide +kernel
theorem dX10_commonDivisor_34 : decode cX10_commonDivisor 34 = .ok (.lstore 9, 2) := by decide +kernel
theorem dX10_commonDivisor_36 : decode cX10_commonDivisor 36 = .ok (.lload 6, 2) := by decide +kernel
theorem dX10_commonDivisor_38 : decode cX10_commonDivisor 38 = .ok (.lstore 4, 2) := by decide +kernel
theorem dX10_commonDivisor_40 : decode cX10_commonDivisor 40 = .ok (.lload 9, 2) := by decide +kernel
theorem dX10_commonDivisor_42 : decode cX10_commonDivisor 42 = .ok (.lstore 6, 2) := by decide +kernel
theorem dX10_commonDivisor_44 : decode cX10_commonDivisor 44 = .ok (.iinc 8 1, 3) := by decide +kernel
theorem dX10_commonDivisor_47 : decode cX10_commonDivisor 47 = .ok (.goto (-32), 3) := by decide +kernel
theorem dX10_commonDivisor_50 : decode cX10_commonDivisor 50 = .ok (.lload 4, 2) := by decide +kernel
theorem dX10_commonDivisor_52 : decode cX10_commonDivisor 52 = .ok (.lreturn, 1) := by decide +kernel
theorem dX11_init_0 : decode cX11_init 0 = .ok (.aload_n 0, 1) := by decide +kernel
theorem dX11_init_1 : decode cX11_init 1 = .ok (.invokespecial 1, 3) := by decide +kernel
theorem dX11_init_4 : decode cX11_init 4 = .ok (.aload_n 0, 1) := by decide +kernel
theorem dX11_init_5 : decode cX11_init 5 = .ok (.iconst 0, 1) := by decide +kernel
theorem dX11_init_6 : decode cX11_init 6 = .ok (.putfield 7, 3) := by decide +kernel
theorem dX11_init_9 : decode cX11_init 9 = .ok (.aload_n 0, 1) := by decide +kernel
theorem dX11_init_10 : decode cX11_init 10 = .ok (.iconst 0, 1) := by decide +kernel
theorem dX11_init_11 : decode cX11_init 11 = .ok (.putfield 13, 3) := by decide +kernel
theorem dX11_init_14 : decode cX11_init 14 = .ok (.aload_n 0, 1) := by decide +kernel
theorem dX11_init_15 : decode cX11_init 15 = .ok (.bipush 10, 2) := by decide +kernel
theorem dX11_init_17 : decode cX11_init 17 = .ok (.newarray .int, 2) := by decide +kernel
theorem dX11_init_19 : decode cX11_init 19 = .ok (.putfield 16, 3) := by decide +kernel
theorem dX11_init_22 : decode cX11_init 22 = .ok (.aload_n 0, 1) := by decide +kernel
theorem dX11_init_23 : decode cX11_init 23 = .ok (.bipush 10, 2) := by decide +kernel
theorem dX11_init_25 : decode cX11_init 25 = .ok (.newarray .int, 2) := by decide +kernel
theorem dX11_init_27 : decode cX11_init 27 = .ok (.putfield 20, 3) := by decide +kernel
theorem dX11_init_30 : decode cX11_init 30 = .ok (.aload_n 0, 1) := by decide +kernel
theorem dX11_init_31 : decode cX11_init 31 = .ok (.bipush 10, 2) := by decide +kernel
theorem dX11_init_33 : decode cX11_init 33 = .ok (.newarray .int, 2) := by decide +kernel
theorem dX11_init_35 : decode cX11_init 35 = .ok (.putfield 23, 3) := by decide +kernel
theorem dX11_init_38 : decode cX11_init 38 = .ok (.aload_n 0, 1) := by decide +kernel
theorem dX11_init_39 : decode cX11_init 39 = .ok (.bipush 10, 2) := by decide +kernel
theorem dX11_init_41 : decode cX11_init 41 = .ok (.newarray .int, 2) := by decide +kernel
theorem dX11_init_43 : decode cX11_init 43 = .ok (.putfield 26, 3) := by decide +kernel
theorem dX11_init_46 : decode cX11_init 46 = .ok (.aload_n 0, 1) := by decide +kernel
theorem dX11_init_47 : decode cX11_init 47 = .ok (.bipush 10, 2) := by decide +kernel
theorem dX11_init_49 : decode cX11_init 49 = .ok (.newarray .int, 2) := by decide +kernel
theorem dX11_init_51 : decode cX11_init 51 = .ok (.putfield 29, 3) := by decide +kernel
theorem dX11_init_54 : decode cX11_init 54 = .ok (.aload_n 0, 1) := by decide +kernel
theorem dX11_init_55 : decode cX11_init 55 = .ok (.bipush 10, 2) := by decide +kernel
theorem dX11_init_57 : decode cX11_init 57 = .ok (.newarray .int, 2) := by decide +kernel
theorem dX11_init_59 : decode cX11_init 59 = .ok (.putfield 32, 3) := by decide +kernel
theorem dX11_init_62 : decode cX11_init 62 = .ok (.aload_n 0, 1) := by decide +kernel
theorem dX11_init_63 : decode cX11_init 63 = .ok (.bipush 10, 2) := by decide +kernel
theorem dX11_init_65 : decode cX11_init 65 = .ok (.newarray .int, 2) := by decide +kernel
theorem dX11_init_67 : decode cX11_init 67 = .ok (.putfield 35, 3) := by decide +kernel
theorem dX11_init_70 : decode cX11_init 70 = .ok (.aload_n 0, 1) := by decide +kernel
theorem dX11_init_71 : decode cX11_init 71 = .ok (.iconst 0, 1) := by decide +kernel
theorem dX11_init_72 : decode cX11_init 72 = .ok (.putfield 38, 3) := by decide +kernel
theorem dX11_init_75 : decode cX11_init 75 = .ok (.aload_n 0, 1) := by decide +kernel
theorem dX11_init_76 : decode cX11_init 76 = .ok (.bipush 90, 2) := by decide +kernel
theorem dX11_init_78 : decode cX11_init 78 = .ok (.newarray .long, 2) := by decide +kernel
theorem dX11_init_80 : decode cX11_init 80 = .ok (.putfield 41, 3) := by decide +kernel
theorem dX11_init_83 : decode cX11_init 83 = .ok (.aload_n 0, 1) := by decide +kernel
theorem dX11_init_84 : decode cX11_init 84 = .ok (.iconst 3, 1) := by decide +kernel
theorem dX11_init_85 : decode cX11_init 85 = .ok (.newarray .long, 2) := by decide +kernel
theorem dX11_init_87 : decode cX11_init 87 = .ok (.putfield 45, 3) := by decide +kernel
theorem dX11_init_90 : decode cX11_init 90 = .ok (.aload_n 0, 1) := by decide +kernel
theorem dX11_init_91 : decode cX11_init 91 = .ok (.iconst 0, 1) := by decide +kernel
theorem dX11_init_92 : decode cX11_init 92 = .ok (.putfield 48, 3) := by decide +kernel
theorem dX11_init_95 : decode cX11_init 95 = .ok (.aload_n 0, 1) := by decide +kernel
theorem dX11_init_96 : decode cX11_init 96 = .ok (.iconst 0, 1) := by decide +kernel
theorem dX11_init_97 : decode cX11_init 97 = .ok (.putfield 51, 3) := by decide +kernel
theorem dX11_init_100 : decode cX11_init 100 = .ok (.aload_n 0, 1) := by decide +kernel
theorem dX11_init_101 : decode cX11_init 101 = .ok (.sipush 2700, 3) := by decide +kernel
theorem dX11_init_104 : decode cX11_init 104 = .ok (.newarray .long, 2) := by decide +kernel
theorem dX11_init_106 : decode cX11_init 106 = .ok (.putfield 54, 3) := by decide +kernel
theorem dX11_init_109 : decode cX11_init 109 = .ok (.aload_n 0, 1) := by decide +kernel
theorem dX11_init_110 : decode cX11_init 110 = .ok (.iconst 3, 1) := by decide +kernel
theorem dX11_init_111 : decode cX11_init 111 = .ok (.newarray .long, 2) := by decide +kernel
theorem dX11_init_113 : decode cX11_init 113 = .ok (.putfield 57, 3) := by decide +kernel
theorem dX11_init_116 : decode cX11_init 116 = .ok (.aload_n 0, 1) := by decide +kernel
theorem dX11_init_117 : decode cX11_init 117 = .ok (.iconst 3, 1) := by decide +kernel
theorem dX11_init_118 : decode cX11_init 118 = .ok (.newarray .long, 2) := by decide +kernel
theorem dX11_init_120 : decode cX11_init 120 = .ok (.putfield 60, 3) := by decide +kernel
theorem dX11_init_123 : decode cX11_init 123 = .ok (.aload_n 0, 1) := by decide +kernel
theorem dX11_init_124 : decode cX11_init 124 = .ok (.iconst 0, 1) := by decide +kernel
theorem dX11_init_125 : decode cX11_init 125 = .ok (.putfield 63, 3) := by decide +kernel
theorem dX11_init_128 : decode cX11_init 128 = .ok (.aload_n 0, 1) := by decide +kernel
theorem dX11_init_129 : decode cX11_init 129 = .ok (.bipush 48, 2) := by decide +kernel
theorem dX11_init_131 : decode cX11_init 131 = .ok (.newarray .int, 2) := by decide +kernel
theorem dX11_init_133 : decode cX11_init 133 = .ok (.putfield 66, 3) := by decide +kernel
theorem dX11_init_136 : decode cX11_init 136 = .ok (.aload_n 0, 1) := by decide +kernel
theorem dX11_init_137 : decode cX11_init 137 = .ok (.bipush 9, 2) := by decide +kernel
theorem dX11_init_139 : decode cX11_init 139 = .ok (.newarray .long, 2) := by decide +kernel
theorem dX11_init_141 : decode cX11_init 141 = .ok (.putfield 69, 3) := by decide +kernel
theorem dX11_init_144 : decode cX11_init 144 = .ok (.aload_n 0, 1) := by decide +kernel
theorem dX11_init_145 : decode cX11_init 145 = .ok (.iconst 3, 1) := by decide +kernel
theorem dX11_init_146 : decode cX11_init 146 = .ok (.newarray .long, 2) := by decide +kernel
theorem dX11_init_148 : decode cX11_init 148 = .ok (.putfield 72, 3) := by decide +kernel
theorem dX11_init_151 : decode cX11_init 151 = .ok (.aload_n 0, 1) := by decide +kernel
theorem dX11_init_152 : decode cX11_init 152 = .ok (.lconst 0, 1) := by decide +kernel
theorem dX11_init_153 : decode cX11_init 153 = .ok (.putfield 75, 3) := by decide +kernel
theorem dX11_init_156 : decode cX11_init 156 = .ok (.aload_n 0, 1) := by decide +kernel
theorem dX11_init_157 : decode cX11_init 157 = .ok (.lconst 1, 1) := by decide +kernel
theorem dX11_init_158 : decode cX11_init 158 = .ok (.putfield 79, 3) := by decide +kernel
theorem dX11_init_161 : decode cX11_init 161 = .ok (.aload_n 0, 1) := by decide +kernel
theorem dX11_init_162 : decode cX11_init 162 = .ok (.iconst 0, 1) := by decide +kernel
theorem dX11_init_163 : decode cX11_init 163 = .ok (.putfield 82, 3) := by decide +kernel
theorem dX11_init_166 : decode cX11_init 166 = .ok (.aload_n 0, 1) := by decide +kernel
theorem dX11_init_167 : decode cX11_init 167 = .ok (.bipush 12, 2) := by decide +kernel
theorem dX11_init_169 : decode cX11_init 169 = .ok (.newarray .int, 2) := by decide +kernel
theorem dX11_init_171 : decode cX11_init 171 = .ok (.putfield 85, 3) := by decide +kernel
theorem dX11_init_174 : decode cX11_init 174 = .ok (.aload_n 0, 1) := by decide +kernel
theorem dX11_init_175 : decode cX11_init 175 = .ok (.bipush 12, 2) := by decide +kernel
theorem dX11_init_177 : decode cX11_init 177 = .ok (.newarray .int, 2) := by decide +kernel
theorem dX11_init_179 : decode cX11_init 179 = .ok (.putfield 88, 3) := by decide +kernel
theorem dX11_init_182 : decode cX11_init 182 = .ok (.aload_n 0, 1) := by decide +kernel
theorem dX11_init_183 : decode cX11_init 183 = .ok (.sipush 4096, 3) := by decide +kernel
theorem dX11_init_186 : decode cX11_init 186 = .ok (.newarray .int, 2) := by decide +kernel
theorem dX11_init_188 : decode cX11_init 188 = .ok (.putfield 91, 3) := by decide +kernel
theorem dX11_init_191 : decode cX11_init 191 = .ok (.aload_n 0, 1) := by decide +kernel
theorem dX11_init_192 : decode cX11_init 192 = .ok (.iconst 0, 1) := by decide +kernel
theorem dX11_init_193 : decode cX11_init 193 = .ok (.putfield 94, 3) := by decide +kernel
theorem dX11_init_196 : decode cX11_init 196 = .ok (.aload_n 0, 1) := by decide +kernel
theorem dX11_init_197 : decode cX11_init 197 = .ok (.iconst 0, 1) := by decide +kernel
theorem dX11_init_198 : decode cX11_init 198 = .ok (.putfield 97, 3) := by decide +kernel
theorem dX11_init_201 : decode cX11_init 201 = .ok (.aload_n 0, 1) := by decide +kernel
theorem dX11_init_202 : decode cX11_init 202 = .ok (.bipush 40, 2) := by decide +kernel
theorem dX11_init_204 : decode cX11_init 204 = .ok (.newarray .int, 2) := by decide +kernel
theorem dX11_init_206 : decode cX11_init 206 = .ok (.putfield 100, 3) := by decide +kernel
theorem dX11_init_209 : decode cX11_init 209 = .ok (.aload_n 0, 1) := by decide +kernel
theorem dX11_init_210 : decode cX11_init 210 = .ok (.bipush 40, 2) := by decide +kernel
theorem dX11_init_212 : decode cX11_init 212 = .ok (.newarray .int, 2) := by decide +kernel
theorem dX11_init_214 : decode cX11_init 214 = .ok (.putfield 103, 3) := by decide +kernel
theorem dX11_init_217 : decode cX11_init 217 = .ok (.aload_n 0, 1) := by decide +kernel
theorem dX11_init_218 : decode cX11_init 218 = .ok (.bipush 8, 2) := by decide +kernel
theorem dX11_init_220 : decode cX11_init 220 = .ok (.newarray .int, 2) := by decide +kernel
theorem dX11_init_222 : decode cX11_init 222 = .ok (.putfield 106, 3) := by decide +kernel
theorem dX11_init_225 : decode cX11_init 225 = .ok (.aload_n 0, 1) := by decide +kernel
theorem dX11_init_226 : decode cX11_init 226 = .ok (.bipush 8, 2) := by decide +kernel
theorem dX11_init_228 : decode cX11_init 228 = .ok (.newarray .int, 2) := by decide +kernel
theorem dX11_init_230 : decode cX11_init 230 = .ok (.putfield 109, 3) := by decide +kernel
theorem dX11_init_233 : decode cX11_init 233 = .ok (.aload_n 0, 1) := by decide +kernel
theorem dX11_init_234 : decode cX11_init 234 = .ok (.bipush 8, 2) := by decide +kernel
theorem dX11_init_236 : decode cX11_init 236 = .ok (.newarray .int, 2) := by decide +kernel
theorem dX11_init_238 : decode cX11_init 238 = .ok (.putfield 112, 3) := by decide +kernel
theorem dX11_init_241 : decode cX11_init 241 = .ok (.aload_n 0, 1) := by decide +kernel
theorem dX11_init_242 : decode cX11_init 242 = .ok (.bipush 8, 2) := by decide +kernel
theorem dX11_init_244 : decode cX11_init 244 = .ok (.newarray .int, 2) := by decide +kernel
theorem dX11_init_246 : decode cX11_init 246 = .ok (.putfield 115, 3) := by decide +kernel
theorem dX11_init_249 : decode cX11_init 249 = .ok (.aload_n 0, 1) := by decide +kernel
theorem dX11_init_250 : decode cX11_init 250 = .ok (.bipush 8, 2) := by decide +kernel
theorem dX11_init_252 : decode cX11_init 252 = .ok (.newarray .int, 2) := by decide +kernel
theorem dX11_init_254 : decode cX11_init 254 = .ok (.putfield 118, 3) := by decide +kernel
theorem dX11_init_257 : decode cX11_init 257 = .ok (.aload_n 0, 1) := by decide +kernel
theorem dX11_init_258 : decode cX11_init 258 = .ok (.bipush 8, 2) := by decide +kernel
theorem dX11_init_260 : decode cX11_init 260 = .ok (.newarray .int, 2) := by decide +kernel
theorem dX11_init_262 : decode cX11_init 262 = .ok (.putfield 121, 3) := by decide +kernel
theorem dX11_init_265 : decode cX11_init 265 = .ok (.aload_n 0, 1) := by decide +kernel
theorem dX11_init_266 : decode cX11_init 266 = .ok (.sipush 480, 3) := by decide +kernel
theorem dX11_init_269 : decode cX11_init 269 = .ok (.newarray .int, 2) := by decide +kernel
theorem dX11_init_271 : decode cX11_init 271 = .ok (.putfield 124, 3) := by decide +kernel
theorem dX11_init_274 : decode cX11_init 274 = .ok (.aload_n 0, 1) := by decide +kernel
theorem dX11_init_275 : decode cX11_init 275 = .ok (.bipush 60, 2) := by decide +kernel
theorem dX11_init_277 : decode cX11_init 277 = .ok (.newarray .int, 2) := by decide +kernel
theorem dX11_init_279 : decode cX11_init 279 = .ok (.putfield 127, 3) := by decide +kernel
theorem dX11_init_282 : decode cX11_init 282 = .ok (.return_, 1) := by decide +kernel
theorem dX11_thrown_0 : decode cX11_thrown 0 = .ok (.aload_n 0, 1) := by decide +kernel
theorem dX11_thrown_1 : decode cX11_thrown 1 = .ok (.getfield 7, 3) := by decide +kernel
theorem dX11_thrown_4 : decode cX11_thrown 4 = .ok (.ireturn, 1) := by decide +kernel
theorem dX11_in_0 : decode cX11_in 0 = .ok (.iload_n 1, 1) := by decide +kernel
theorem dX11_in_1 : decode cX11_in 1 = .ok (.iload_n 2, 1) := by decide +kernel
theorem dX11_in_2 : decode cX11_in 2 = .ok (.if_icmp .lt 12, 3) := by decide +kernel
theorem dX11_in_5 : decode cX11_in 5 = .ok (.iload_n 1, 1) := by decide +kernel
theorem dX11_in_6 : decode cX11_in 6 = .ok (.iload_n 3, 1) := by decide +kernel
theorem dX11_in_7 : decode cX11_in 7 = .ok (.if_icmp .gt 7, 3) := by decide +kernel
theorem dX11_in_10 : decode cX11_in 10 = .ok (.iconst 1, 1) := by decide +kernel
theorem dX11_in_11 : decode cX11_in 11 = .ok (.goto 4, 3) := by decide +kernel
theorem dX11_in_14 : decode cX11_in 14 = .ok (.iconst 0, 1) := by decide +kernel
theorem dX11_in_15 : decode cX11_in 15 = .ok (.ireturn, 1) := by decide +kernel
theorem dX11_abs_0 : decode cX11_abs 0 = .ok (.lload_n 1, 1) := by decide +kernel
theorem dX11_abs_1 : decode cX11_abs 1 = .ok (.lconst 0, 1) := by decide +kernel
theorem dX11_abs_2 : decode cX11_abs 2 = .ok (.lcmp, 1) := by decide +kernel
theorem dX11_abs_3 : decode cX11_abs 3 = .ok (.ifCond .ge 8, 3) := by decide +kernel
theorem dX11_abs_6 : decode cX11_abs 6 = .ok (.lload_n 1, 1) := by decide +kernel
theorem dX11_abs_7 : decode cX11_abs 7 = .ok (.lneg, 1) := by decide +kernel
theorem dX11_abs_8 : decode cX11_abs 8 = .ok (.goto 4, 3) := by decide +kernel
theorem dX11_abs_11 : decode cX11_abs 11 = .ok (.lload_n 1, 1) := by decide +kernel
theorem dX11_abs_12 : decode cX11_abs 12 = .ok (.lreturn, 1) := by decide +kernel
theorem dX11_isContact_0 : decode cX11_isContact 0 = .ok (.aload_n 0, 1) := by decide +kernel
theorem dX11_isContact_1 : decode cX11_isContact 1 = .ok (.iload_n 1, 1) := by decide +kernel
theorem dX11_isContact_2 : decode cX11_isContact 2 = .ok (.iconst 0, 1) := by decide +kernel
theorem dX11_isContact_3 : decode cX11_isContact 3 = .ok (.aload_n 0, 1) := by decide +kernel
theorem dX11_isContact_4 : decode cX11_isContact 4 = .ok (.getfield 13, 3) := by decide +kernel
theorem dX11_isContact_7 : decode cX11_isContact 7 = .ok (.iconst 1, 1) := by decide +kernel
theorem dX11_isContact_8 : decode cX11_isContact 8 = .ok (.isub, 1) := by decide +kernel
theorem dX11_isContact_9 : decode cX11_isContact 9 = .ok (.invokevirtual 130, 3) := by decide +kernel
theorem dX11_isContact_12 : decode cX11_isContact 12 = .ok (.ireturn, 1) := by decide +kernel
theorem dX11_isPlace_0 : decode cX11_isPlace 0 = .ok (.aload_n 0, 1) := by decide +kernel
theorem dX11_isPlace_1 : decode cX11_isPlace 1 = .ok (.iload_n 1, 1) := by decide +kernel
theorem dX11_isPlace_2 : decode cX11_isPlace 2 = .ok (.bipush (-100), 2) := by decide +kernel
theorem dX11_isPlace_4 : decode cX11_isPlace 4 = .ok (.bipush 100, 2) := by decide +kernel
theorem dX11_isPlace_6 : decode cX11_isPlace 6 = .ok (.invokevirtual 130, 3) := by decide +kernel
theorem dX11_isPlace_9 : decode cX11_isPlace 9 = .ok (.ifCond .eq 19, 3) := by decide +kernel
theorem dX11_isPlace_12 : decode cX11_isPlace 12 = .ok (.aload_n 0, 1) := by decide +kernel
theorem dX11_isPlace_13 : decode cX11_isPlace 13 = .ok (.iload_n 2, 1) := by decide +kernel
theorem dX11_isPlace_14 : decode cX11_isPlace 14 = .ok (.bipush (-100), 2) := by decide +kernel
theorem dX11_isPlace_16 : decode cX11_isPlace 16 = .ok (.bipush 100, 2) := by decide +kernel
theorem dX11_isPlace_18 : decode cX11_isPlace 18 = .ok (.invokevirtual 130, 3) := by decide +kernel
theorem dX11_isPlace_21 : decode cX11_isPlace 21 = .ok (.ifCond .eq 7, 3) := by decide +kernel
theorem dX11_isPlace_24 : decode cX11_isPlace 24 = .ok (.iconst 1, 1) := by decide +kernel
theorem dX11_isPlace_25 : decode cX11_isPlace 25 = .ok (.goto 4, 3) := by decide +kernel
theorem dX11_isPlace_28 : decode cX11_isPlace 28 = .ok (.iconst 0, 1) := by decide +kernel
theorem dX11_isPlace_29 : decode cX11_isPlace 29 = .ok (.ireturn, 1) := by decide +kernel
theorem dX11_hasGrip_0 : decode cX11_hasGrip 0 = .ok (.iload_n 1, 1) := by decide +kernel
theorem dX11_hasGrip_1 : decode cX11_hasGrip 1 = .ok (.iconst 1, 1) := by decide +kernel
theorem dX11_hasGrip_2 : decode cX11_hasGrip 2 = .ok (.if_icmp .eq 8, 3) := by decide +kernel
theorem dX11_hasGrip_5 : decode cX11_hasGrip 5 = .ok (.iload_n 1, 1) := by decide +kernel
theorem dX11_hasGrip_6 : decode cX11_hasGrip 6 = .ok (.iconst 3, 1) := by decide +kernel
theorem dX11_hasGrip_7 : decode cX11_hasGrip 7 = .ok (.if_icmp .ne 7, 3) := by decide +kernel
theorem dX11_hasGrip_10 : decode cX11_hasGrip 10 = .ok (.iconst 1, 1) := by decide +kernel
theorem dX11_hasGrip_11 : decode cX11_hasGrip 11 = .ok (.goto 4, 3) := by decide +kernel
theorem dX11_hasGrip_14 : decode cX11_hasGrip 14 = .ok (.iconst 0, 1) := by decide +kernel
theorem dX11_hasGrip_15 : decode cX11_hasGrip 15 = .ok (.ireturn, 1) := by decide +kernel
theorem dX11_contact_0 : decode cX11_contact 0 = .ok (.iload_n 1, 1) := by decide +kernel
theorem dX11_contact_1 : decode cX11_contact 1 = .ok (.bipush 10, 2) := by decide +kernel
theorem dX11_contact_3 : decode cX11_contact 3 = .ok (.idiv, 1) := by decide +kernel
theorem dX11_contact_4 : decode cX11_contact 4 = .ok (.istore 5, 2) := by decide +kernel
theorem dX11_contact_6 : decode cX11_contact 6 = .ok (.iload_n 1, 1) := by decide +kernel
theorem dX11_contact_7 : decode cX11_contact 7 = .ok (.ifCond .lt 74, 3) := by decide +kernel
theorem dX11_contact_10 : decode cX11_contact 10 = .ok (.iload 5, 2) := by decide +kernel
theorem dX11_contact_12 : decode cX11_contact 12 = .ok (.iconst 4, 1) := by decide +kernel
theorem dX11_contact_13 : decode cX11_contact 13 = .ok (.if_icmp .ge 68, 3) := by decide +kernel
theorem dX11_contact_16 : decode cX11_contact 16 = .ok (.iload_n 1, 1) := by decide +kernel
theorem dX11_contact_17 : decode cX11_contact 17 = .ok (.bipush 10, 2) := by decide +kernel
theorem dX11_contact_19 : decode cX11_contact 19 = .ok (.irem, 1) := by decide +kernel
theorem dX11_contact_20 : decode cX11_contact 20 = .ok (.bipush 8, 2) := by decide +kernel
theorem dX11_contact_22 : decode cX11_contact 22 = .ok (.if_icmp .ge 59, 3) := by decide +kernel
theorem dX11_contact_25 : decode cX11_contact 25 = .ok (.aload_n 0, 1) := by decide +kernel
theorem dX11_contact_26 : decode cX11_contact 26 = .ok (.iload_n 2, 1) := by decide +kernel
theorem dX11_contact_27 : decode cX11_contact 27 = .ok (.iload_n 3, 1) := by decide +kernel
theorem dX11_contact_28 : decode cX11_contact 28 = .ok (.invokevirtual 134, 3) := by decide +kernel
theorem dX11_contact_31 : decode cX11_contact 31 = .ok (.ifCond .eq 50, 3) := by decide +kernel
theorem dX11_contact_34 : decode cX11_contact 34 = .ok (.iload 4, 2) := by decide +kernel
theorem dX11_contact_36 : decode cX11_contact 36 = .ok (.ifCond .lt 45, 3) := by decide +kernel
theorem dX11_contact_39 : decode cX11_contact 39 = .ok (.iload 4, 2) := by decide +kernel
theorem dX11_contact_41 : decode cX11_contact 41 = .ok (.bipush 100, 2) := by decide +kernel
theorem dX11_contact_43 : decode cX11_contact 43 = .ok (.irem, 1) := by decide +kernel
theorem dX11_contact_44 : decode cX11_contact 44 = .ok (.bipush 21, 2) := by decide +kernel
theorem dX11_contact_46 : decode cX11_contact 46 = .ok (.if_icmp .ge 35, 3) := by decide +kernel
theorem dX11_contact_49 : decode cX11_contact 49 = .ok (.aload_n 0, 1) := by decide +kernel
theorem dX11_contact_50 : decode cX11_contact 50 = .ok (.iload 4, 2) := by decide +kernel
theorem dX11_contact_52 : decode cX11_contact 52 = .ok (.bipush 100, 2) := by decide +kernel
theorem dX11_contact_54 : decode cX11_contact 54 = .ok (.idiv, 1) := by decide +kernel
theorem dX11_contact_55 : decode cX11_contact 55 = .ok (.aload_n 0, 1) := by decide +kernel
theorem dX11_contact_56 : decode cX11_contact 56 = .ok (.iload 5, 2) := by decide +kernel
theorem dX11_contact_58 : decode cX11_contact 58 = .ok (.invokevirtual 138, 3) := by decide +kernel
theorem dX11_contact_61 : decode cX11_contact 61 = .ok (.ifCond .eq 7, 3) := by decide +kernel
theorem dX11_contact_64 : decode cX11_contact 64 = .ok (.iconst 1, 1) := by decide +kernel
theorem dX11_contact_65 : decode cX11_contact 65 = .ok (.goto 4, 3) := by decide +kernel
theorem dX11_contact_68 : decode cX11_contact 68 = .ok (.iconst 0, 1) := by decide +kernel
theorem dX11_contact_69 : decode cX11_contact 69 = .ok (.bipush 20, 2) := by decide +kernel
theorem dX11_contact_71 : decode cX11_contact 71 = .ok (.invokevirtual 130, 3) := by decide +kernel
theorem dX11_contact_74 : decode cX11_contact 74 = .ok (.ifCond .eq 7, 3) := by decide +kernel
theorem dX11_contact_77 : decode cX11_contact 77 = .ok (.iconst 1, 1) := by decide +kernel
theorem dX11_contact_78 : decode cX11_contact 78 = .ok (.goto 4, 3) := by decide +kernel
theorem dX11_contact_81 : decode cX11_contact 81 = .ok (.iconst 0, 1) := by decide +kernel
theorem dX11_contact_82 : decode cX11_contact 82 = .ok (.istore 6, 2) := by decide +kernel
theorem dX11_contact_84 : decode cX11_contact 84 = .ok (.iload 6, 2) := by decide +kernel
theorem dX11_contact_86 : decode cX11_contact 86 = .ok (.ifCond .ne 5, 3) := by decide +kernel
theorem dX11_contact_89 : decode cX11_contact 89 = .ok (.iconst (-1), 1) := by decide +kernel
theorem dX11_contact_90 : decode cX11_contact 90 = .ok (.ireturn, 1) := by decide +kernel
theorem dX11_contact_91 : decode cX11_contact 91 = .ok (.aload_n 0, 1) := by decide +kernel
theorem dX11_contact_92 : decode cX11_contact 92 = .ok (.getfield 13, 3) := by decide +kernel
theorem dX11_contact_95 : decode cX11_contact 95 = .ok (.bipush 10, 2) := by decide +kernel
theorem dX11_contact_97 : decode cX11_contact 97 = .ok (.if_icmp .ne 6, 3) := by decide +kernel
theorem dX11_contact_100 : decode cX11_contact 100 = .ok (.bipush (-2), 2) := by decide +kernel
theorem dX11_contact_102 : decode cX11_contact 102 = .ok (.ireturn, 1) := by decide +kernel
theorem dX11_contact_103 : decode cX11_contact 103 = .ok (.aload_n 0, 1) := by decide +kernel
theorem dX11_contact_104 : decode cX11_contact 104 = .ok (.getfield 16, 3) := by decide +kernel
theorem dX11_contact_107 : decode cX11_contact 107 = .ok (.aload_n 0, 1) := by decide +kernel
theorem dX11_contact_108 : decode cX11_contact 108 = .ok (.getfield 13, 3) := by decide +kernel
theorem dX11_contact_111 : decode cX11_contact 111 = .ok (.iload 5, 2) := by decide +kernel
theorem dX11_contact_113 : decode cX11_contact 113 = .ok (.iastore, 1) := by decide +kernel
theorem dX11_contact_114 : decode cX11_contact 114 = .ok (.aload_n 0, 1) := by decide +kernel
theorem dX11_contact_115 : decode cX11_contact 115 = .ok (.getfield 20, 3) := by decide +kernel
theorem dX11_contact_118 : decode cX11_contact 118 = .ok (.aload_n 0, 1) := by decide +kernel
theorem dX11_contact_119 : decode cX11_contact 119 = .ok (.getfield 13, 3) := by decide +kernel
theorem dX11_contact_122 : decode cX11_contact 122 = .ok (.iload_n 1, 1) := by decide +kernel
theorem dX11_contact_123 : decode cX11_contact 123 = .ok (.bipush 10, 2) := by decide +kernel
theorem dX11_contact_125 : decode cX11_contact 125 = .ok (.irem, 1) := by decide +kernel
theorem dX11_contact_126 : decode cX11_contact 126 = .ok (.iastore, 1) := by decide +kernel
theorem dX11_contact_127 : decode cX11_contact 127 = .ok (.aload_n 0, 1) := by decide +kernel
theorem dX11_contact_128 : decode cX11_contact 128 = .ok (.getfield 23, 3) := by decide +kernel
theorem dX11_contact_131 : decode cX11_contact 131 = .ok (.aload_n 0, 1) := by decide +kernel
theorem dX11_contact_132 : decode cX11_contact 132 = .ok (.getfield 13, 3) := by decide +kernel
theorem dX11_contact_135 : decode cX11_contact 135 = .ok (.iload_n 2, 1) := by decide +kernel
theorem dX11_contact_136 : decode cX11_contact 136 = .ok (.iastore, 1) := by decide +kernel
theorem dX11_contact_137 : decode cX11_contact 137 = .ok (.aload_n 0, 1) := by decide +kernel
theorem dX11_contact_138 : decode cX11_contact 138 = .ok (.getfield 26, 3) := by decide +kernel
theorem dX11_contact_141 : decode cX11_contact 141 = .ok (.aload_n 0, 1) := by decide +kernel
theorem dX11_contact_142 : decode cX11_contact 142 = .ok (.getfield 13, 3) := by decide +kernel
theorem dX11_contact_145 : decode cX11_contact 145 = .ok (.iload_n 3, 1) := by decide +kernel
theorem dX11_contact_146 : decode cX11_contact 146 = .ok (.iastore, 1) := by decide +kernel
theorem dX11_contact_147 : decode cX11_contact 147 = .ok (.aload_n 0, 1) := by decide +kernel
theorem dX11_contact_148 : decode cX11_contact 148 = .ok (.getfield 29, 3) := by decide +kernel
theorem dX11_contact_151 : decode cX11_contact 151 = .ok (.aload_n 0, 1) := by decide +kernel
theorem dX11_contact_152 : decode cX11_contact 152 = .ok (.getfield 13, 3) := by decide +kernel
theorem dX11_contact_155 : decode cX11_contact 155 = .ok (.aload_n 0, 1) := by decide +kernel
theorem dX11_contact_156 : decode cX11_contact 156 = .ok (.iload 5, 2) := by decide +kernel
theorem dX11_contact_158 : decode cX11_contact 158 = .ok (.invokevirtual 138, 3) := by decide +kernel
theorem dX11_contact_161 : decode cX11_contact 161 = .ok (.ifCond .eq 11, 3) := by decide +kernel
theorem dX11_contact_164 : decode cX11_contact 164 = .ok (.iload 4, 2) := by decide +kernel
theorem dX11_contact_166 : decode cX11_contact 166 = .ok (.bipush 100, 2) := by decide +kernel
theorem dX11_contact_168 : decode cX11_contact 168 = .ok (.idiv, 1) := by decide +kernel
theorem dX11_contact_169 : decode cX11_contact 169 = .ok (.goto 4, 3) := by decide +kernel
theorem dX11_contact_172 : decode cX11_contact 172 = .ok (.iconst 0, 1) := by decide +kernel
theorem dX11_contact_173 : decode cX11_contact 173 = .ok (.iastore, 1) := by decide +kernel
theorem dX11_contact_174 : decode cX11_contact 174 = .ok (.aload_n 0, 1) := by decide +kernel
theorem dX11_contact_175 : decode cX11_contact 175 = .ok (.getfield 32, 3) := by decide +kernel
theorem dX11_contact_178 : decode cX11_contact 178 = .ok (.aload_n 0, 1) := by decide +kernel
theorem dX11_contact_179 : decode cX11_contact 179 = .ok (.getfield 13, 3) := by decide +kernel
theorem dX11_contact_182 : decode cX11_contact 182 = .ok (.iload 4, 2) := by decide +kernel
theorem dX11_contact_184 : decode cX11_contact 184 = .ok (.bipush 100, 2) := by decide +kernel
theorem dX11_contact_186 : decode cX11_contact 186 = .ok (.irem, 1) := by decide +kernel
theorem dX11_contact_187 : decode cX11_contact 187 = .ok (.iastore, 1) := by decide +kernel
theorem dX11_contact_188 : decode cX11_contact 188 = .ok (.aload_n 0, 1) := by decide +kernel
theorem dX11_contact_189 : decode cX11_contact 189 = .ok (.getfield 35, 3) := by decide +kernel
theorem dX11_contact_192 : decode cX11_contact 192 = .ok (.aload_n 0, 1) := by decide +kernel
theorem dX11_contact_193 : decode cX11_contact 193 = .ok (.getfield 13, 3) := by decide +kernel
theorem dX11_contact_196 : decode cX11_contact 196 = .ok (.iconst 0, 1) := by decide +kernel
theorem dX11_contact_197 : decode cX11_contact 197 = .ok (.iastore, 1) := by decide +kernel
theorem dX11_contact_198 : decode cX11_contact 198 = .ok (.aload_n 0, 1) := by decide +kernel
theorem dX11_contact_199 : decode cX11_contact 199 = .ok (.dup, 1) := by decide +kernel
theorem dX11_contact_200 : decode cX11_contact 200 = .ok (.getfield 13, 3) := by decide +kernel
theorem dX11_contact_203 : decode cX11_contact 203 = .ok (.iconst 1, 1) := by decide +kernel
theorem dX11_contact_204 : decode cX11_contact 204 = .ok (.iadd, 1) := by decide +kernel
theorem dX11_contact_205 : decode cX11_contact 205 = .ok (.putfield 13, 3) := by decide +kernel
theorem dX11_contact_208 : decode cX11_contact 208 = .ok (.aload_n 0, 1) := by decide +kernel
theorem dX11_contact_209 : decode cX11_contact 209 = .ok (.getfield 13, 3) := by decide +kernel
theorem dX11_contact_212 : decode cX11_contact 212 = .ok (.iconst 1, 1) := by decide +kernel
theorem dX11_contact_213 : decode cX11_contact 213 = .ok (.isub, 1) := by decide +kernel
theorem dX11_contact_214 : decode cX11_contact 214 = .ok (.ireturn, 1) := by decide +kernel
theorem dX11_undo_0 : decode cX11_undo 0 = .ok (.aload_n 0, 1) := by decide +kernel
theorem dX11_undo_1 : decode cX11_undo 1 = .ok (.getfield 13, 3) := by decide +kernel
theorem dX11_undo_4 : decode cX11_undo 4 = .ok (.ifCond .ne 6, 3) := by decide +kernel
theorem dX11_undo_7 : decode cX11_undo 7 = .ok (.bipush (-3), 2) := by decide +kernel
theorem dX11_undo_9 : decode cX11_undo 9 = .ok (.ireturn, 1) := by decide +kernel
theorem dX11_undo_10 : decode cX11_undo 10 = .ok (.aload_n 0, 1) := by decide +kernel
theorem dX11_undo_11 : decode cX11_undo 11 = .ok (.dup, 1) := by decide +kernel
theorem dX11_undo_12 : decode cX11_undo 12 = .ok (.getfield 13, 3) := by decide +kernel
theorem dX11_undo_15 : decode cX11_undo 15 = .ok (.iconst 1, 1) := by decide +kernel
theorem dX11_undo_16 : decode cX11_undo 16 = .ok (.isub, 1) := by decide +kernel
theorem dX11_undo_17 : decode cX11_undo 17 = .ok (.putfield 13, 3) := by decide +kernel
theorem dX11_undo_20 : decode cX11_undo 20 = .ok (.aload_n 0, 1) := by decide +kernel
theorem dX11_undo_21 : decode cX11_undo 21 = .ok (.getfield 13, 3) := by decide +kernel
theorem dX11_undo_24 : decode cX11_undo 24 = .ok (.ireturn, 1) := by decide +kernel
theorem dX11_move_0 : decode cX11_move 0 = .ok (.aload_n 0, 1) := by decide +kernel
theorem dX11_move_1 : decode cX11_move 1 = .ok (.iload_n 1, 1) := by decide +kernel
theorem dX11_move_2 : decode cX11_move 2 = .ok (.invokevirtual 142, 3) := by decide +kernel
theorem dX11_move_5 : decode cX11_move 5 = .ok (.ifCond .eq 12, 3) := by decide +kernel
theorem dX11_move_8 : decode cX11_move 8 = .ok (.aload_n 0, 1) := by decide +kernel
theorem dX11_move_9 : decode cX11_move 9 = .ok (.iload_n 2, 1) := by decide +kernel
theorem dX11_move_10 : decode cX11_move 10 = .ok (.iload_n 3, 1) := by decide +kernel
theorem dX11_move_11 : decode cX11_move 11 = .ok (.invokevirtual 134, 3) := by decide +kernel
theorem dX11_move_14 : decode cX11_move 14 = .ok (.ifCond .ne 5, 3) := by decide +kernel
theorem dX11_move_17 : decode cX11_move 17 = .ok (.iconst (-1), 1) := by decide +kernel
theorem dX11_move_18 : decode cX11_move 18 = .ok (.ireturn, 1) := by decide +kernel
theorem dX11_move_19 : decode cX11_move 19 = .ok (.aload_n 0, 1) := by decide +kernel
theorem dX11_move_20 : decode cX11_move 20 = .ok (.getfield 23, 3) := by decide +kernel
theorem dX11_move_23 : decode cX11_move 23 = .ok (.iload_n 1, 1) := by decide +kernel
theorem dX11_move_24 : decode cX11_move 24 = .ok (.iaload, 1) := by decide +kernel
theorem dX11_move_25 : decode cX11_move 25 = .ok (.iload_n 2, 1) := by decide +kernel
theorem dX11_move_26 : decode cX11_move 26 = .ok (.if_icmp .ne 17, 3) := by decide +kernel
theorem dX11_move_29 : decode cX11_move 29 = .ok (.aload_n 0, 1) := by decide +kernel
theorem dX11_move_30 : decode cX11_move 30 = .ok (.getfield 26, 3) := by decide +kernel
theorem dX11_move_33 : decode cX11_move 33 = .ok (.iload_n 1, 1) := by decide +kernel
theorem dX11_move_34 : decode cX11_move 34 = .ok (.iaload, 1) := by decide +kernel
theorem dX11_move_35 : decode cX11_move 35 = .ok (.iload_n 3, 1) := by decide +kernel
theorem dX11_move_36 : decode cX11_move 36 = .ok (.if_icmp .ne 7, 3) := by decide +kernel
theorem dX11_move_39 : decode cX11_move 39 = .ok (.iconst 0, 1) := by decide +kernel
theorem dX11_move_40 : decode cX11_move 40 = .ok (.goto 4, 3) := by decide +kernel
theorem dX11_move_43 : decode cX11_move 43 = .ok (.iconst 1, 1) := by decide +kernel
theorem dX11_move_44 : decode cX11_move 44 = .ok (.istore 4, 2) := by decide +kernel
theorem dX11_move_46 : decode cX11_move 46 = .ok (.aload_n 0, 1) := by decide +kernel
theorem dX11_move_47 : decode cX11_move 47 = .ok (.getfield 23, 3) := by decide +kernel
theorem dX11_move_50 : decode cX11_move 50 = .ok (.iload_n 1, 1) := by decide +kernel
theorem dX11_move_51 : decode cX11_move 51 = .ok (.iload_n 2, 1) := by decide +kernel
theorem dX11_move_52 : decode cX11_move 52 = .ok (.iastore, 1) := by decide +kernel
theorem dX11_move_53 : decode cX11_move 53 = .ok (.aload_n 0, 1) := by decide +kernel
theorem dX11_move_54 : decode cX11_move 54 = .ok (.getfield 26, 3) := by decide +kernel
theorem dX11_move_57 : decode cX11_move 57 = .ok (.iload_n 1, 1) := by decide +kernel
theorem dX11_move_58 : decode cX11_move 58 = .ok (.iload_n 3, 1) := by decide +kernel
theorem dX11_move_59 : decode cX11_move 59 = .ok (.iastore, 1) := by decide +kernel
theorem dX11_move_60 : decode cX11_move 60 = .ok (.iload 4, 2) := by decide +kernel
theorem dX11_move_62 : decode cX11_move 62 = .ok (.ireturn, 1) := by decide +kernel
theorem dX11_miss_0 : decode cX11_miss 0 = .ok (.aload_n 0, 1) := by decide +kernel
theorem dX11_miss_1 : decode cX11_miss 1 = .ok (.iload_n 1, 1) := by decide +kernel
theorem dX11_miss_2 : decode cX11_miss 2 = .ok (.invokevirtual 142, 3) := by decide +kernel
theorem dX11_miss_5 : decode cX11_miss 5 = .ok (.ifCond .eq 14, 3) := by decide +kernel
theorem dX11_miss_8 : decode cX11_miss 8 = .ok (.aload_n 0, 1) := by decide +kernel
theorem dX11_miss_9 : decode cX11_miss 9 = .ok (.iload_n 2, 1) := by decide +kernel
theorem dX11_miss_10 : decode cX11_miss 10 = .ok (.iconst 0, 1) := by decide +kernel
theorem dX11_miss_11 : decode cX11_miss 11 = .ok (.bipush 50, 2) := by decide +kernel
theorem dX11_miss_13 : decode cX11_miss 13 = .ok (.invokevirtual 130, 3) := by decide +kernel
theorem dX11_miss_16 : decode cX11_miss 16 = .ok (.ifCond .ne 5, 3) := by decide +kernel
theorem dX11_miss_19 : decode cX11_miss 19 = .ok (.iconst (-1), 1) := by decide +kernel
theorem dX11_miss_20 : decode cX11_miss 20 = .ok (.ireturn, 1) := by decide +kernel
theorem dX11_miss_21 : decode cX11_miss 21 = .ok (.aload_n 0, 1) := by decide +kernel
theorem dX11_miss_22 : decode cX11_miss 22 = .ok (.getfield 16, 3) := by decide +kernel
theorem dX11_miss_25 : decode cX11_miss 25 = .ok (.iload_n 1, 1) := by decide +kernel
theorem dX11_miss_26 : decode cX11_miss 26 = .ok (.iaload, 1) := by decide +kernel
theorem dX11_miss_27 : decode cX11_miss 27 = .ok (.iconst 2, 1) := by decide +kernel
theorem dX11_miss_28 : decode cX11_miss 28 = .ok (.if_icmp .ne 6, 3) := by decide +kernel
theorem dX11_miss_31 : decode cX11_miss 31 = .ok (.bipush (-4), 2) := by decide +kernel
theorem dX11_miss_33 : decode cX11_miss 33 = .ok (.ireturn, 1) := by decide +kernel
theorem dX11_miss_34 : decode cX11_miss 34 = .ok (.aload_n 0, 1) := by decide +kernel
theorem dX11_miss_35 : decode cX11_miss 35 = .ok (.getfield 35, 3) := by decide +kernel
theorem dX11_miss_38 : decode cX11_miss 38 = .ok (.iload_n 1, 1) := by decide +kernel
theorem dX11_miss_39 : decode cX11_miss 39 = .ok (.iaload, 1) := by decide +kernel
theorem dX11_miss_40 : decode cX11_miss 40 = .ok (.istore_n 3, 1) := by decide +kernel
theorem dX11_miss_41 : decode cX11_miss 41 = .ok (.aload_n 0, 1) := by decide +kernel
theorem dX11_miss_42 : decode cX11_miss 42 = .ok (.getfield 35, 3) := by decide +kernel
theorem dX11_miss_45 : decode cX11_miss 45 = .ok (.iload_n 1, 1) := by decide +kernel
theorem dX11_miss_46 : decode cX11_miss 46 = .ok (.iload_n 2, 1) := by decide +kernel
theorem dX11_miss_47 : decode cX11_miss 47 = .ok (.iastore, 1) := by decide +kernel
theorem dX11_miss_48 : decode cX11_miss 48 = .ok (.iload_n 3, 1) := by decide +kernel
theorem dX11_miss_49 : decode cX11_miss 49 = .ok (.ireturn, 1) := by decide +kernel
theorem dX11_pushesOf_0 : decode cX11_pushesOf 0 = .ok (.aload_n 0, 1) := by decide +kernel
theorem dX11_pushesOf_1 : decode cX11_pushesOf 1 = .ok (.getfield 16, 3) := by decide +kernel
theorem dX11_pushesOf_4 : decode cX11_pushesOf 4 = .ok (.iload_n 1, 1) := by decide +kernel
theorem dX11_pushesOf_5 : decode cX11_pushesOf 5 = .ok (.iaload, 1) := by decide +kernel
theorem dX11_pushesOf_6 : decode cX11_pushesOf 6 = .ok (.iconst 1, 1) := by decide +kernel
theorem dX11_pushesOf_7 : decode cX11_pushesOf 7 = .ok (.if_icmp .ne 7, 3) := by decide +kernel
theorem dX11_pushesOf_10 : decode cX11_pushesOf 10 = .ok (.iconst 2, 1) := by decide +kernel
theorem dX11_pushesOf_11 : decode cX11_pushesOf 11 = .ok (.goto 18, 3) := by decide +kernel
theorem dX11_pushesOf_14 : decode cX11_pushesOf 14 = .ok (.aload_n 0, 1) := by decide +kernel
theorem dX11_pushesOf_15 : decode cX11_pushesOf 15 = .ok (.getfield 16, 3) := by decide +kernel
theorem dX11_pushesOf_18 : decode cX11_pushesOf 18 = .ok (.iload_n 1, 1) := by decide +kernel
theorem dX11_pushesOf_19 : decode cX11_pushesOf 19 = .ok (.iaload, 1) := by decide +kernel
theorem dX11_pushesOf_20 : decode cX11_pushesOf 20 = .ok (.iconst 3, 1) := by decide +kernel
theorem dX11_pushesOf_21 : decode cX11_pushesOf 21 = .ok (.if_icmp .ne 7, 3) := by decide +kernel
theorem dX11_pushesOf_24 : decode cX11_pushesOf 24 = .ok (.iconst 3, 1) := by decide +kernel
theorem dX11_pushesOf_25 : decode cX11_pushesOf 25 = .ok (.goto 4, 3) := by decide +kernel
theorem dX11_pushesOf_28 : decode cX11_pushesOf 28 = .ok (.iconst 1, 1) := by decide +kernel
theorem dX11_pushesOf_29 : decode cX11_pushesOf 29 = .ok (.ireturn, 1) := by decide +kernel
theorem dX11_look_0 : decode cX11_look 0 = .ok (.aload_n 0, 1) := by decide +kernel
theorem dX11_look_1 : decode cX11_look 1 = .ok (.iload_n 1, 1) := by decide +kernel
theorem dX11_look_2 : decode cX11_look 2 = .ok (.invokevirtual 142, 3) := by decide +kernel
theorem dX11_look_5 : decode cX11_look 5 = .ok (.ifCond .eq 13, 3) := by decide +kernel
theorem dX11_look_8 : decode cX11_look 8 = .ok (.aload_n 0, 1) := by decide +kernel
theorem dX11_look_9 : decode cX11_look 9 = .ok (.iload_n 2, 1) := by decide +kernel
theorem dX11_look_10 : decode cX11_look 10 = .ok (.iconst 0, 1) := by decide +kernel
theorem dX11_look_11 : decode cX11_look 11 = .ok (.iconst 5, 1) := by decide +kernel
theorem dX11_look_12 : decode cX11_look 12 = .ok (.invokevirtual 130, 3) := by decide +kernel
theorem dX11_look_15 : decode cX11_look 15 = .ok (.ifCond .ne 5, 3) := by decide +kernel
theorem dX11_look_18 : decode cX11_look 18 = .ok (.iconst (-1), 1) := by decide +kernel
theorem dX11_look_19 : decode cX11_look 19 = .ok (.ireturn, 1) := by decide +kernel
theorem dX11_look_20 : decode cX11_look 20 = .ok (.iload_n 2, 1) := by decide +kernel
theorem dX11_look_21 : decode cX11_look 21 = .ok (.tableswitch 85 0 4 #[35, 42, 49, 56, 63], 35) := by decide +kernel
theorem dX11_look_56 : decode cX11_look 56 = .ok (.aload_n 0, 1) := by decide +kernel
theorem dX11_look_57 : decode cX11_look 57 = .ok (.getfield 16, 3) := by decide +kernel
theorem dX11_look_60 : decode cX11_look 60 = .ok (.iload_n 1, 1) := by decide +kernel
theorem dX11_look_61 : decode cX11_look 61 = .ok (.iaload, 1) := by decide +kernel
theorem dX11_look_62 : decode cX11_look 62 = .ok (.ireturn, 1) := by decide +kernel
theorem dX11_look_63 : decode cX11_look 63 = .ok (.aload_n 0, 1) := by decide +kernel
theorem dX11_look_64 : decode cX11_look 64 = .ok (.getfield 20, 3) := by decide +kernel
theorem dX11_look_67 : decode cX11_look 67 = .ok (.iload_n 1, 1) := by decide +kernel
theorem dX11_look_68 : decode cX11_look 68 = .ok (.iaload, 1) := by decide +kernel
theorem dX11_look_69 : decode cX11_look 69 = .ok (.ireturn, 1) := by decide +kernel
theorem dX11_look_70 : decode cX11_look 70 = .ok (.aload_n 0, 1) := by decide +kernel
theorem dX11_look_71 : decode cX11_look 71 = .ok (.getfield 29, 3) := by decide +kernel
theorem dX11_look_74 : decode cX11_look 74 = .ok (.iload_n 1, 1) := by decide +kernel
theorem dX11_look_75 : decode cX11_look 75 = .ok (.iaload, 1) := by decide +kernel
theorem dX11_look_76 : decode cX11_look 76 = .ok (.ireturn, 1) := by decide +kernel
theorem dX11_look_77 : decode cX11_look 77 = .ok (.aload_n 0, 1) := by decide +kernel
theorem dX11_look_78 : decode cX11_look 78 = .ok (.getfield 32, 3) := by decide +kernel
theorem dX11_look_81 : decode cX11_look 81 = .ok (.iload_n 1, 1) := by decide +kernel
theorem dX11_look_82 : decode cX11_look 82 = .ok (.iaload, 1) := by decide +kernel
theorem dX11_look_83 : decode cX11_look 83 = .ok (.ireturn, 1) := by decide +kernel
theorem dX11_look_84 : decode cX11_look 84 = .ok (.aload_n 0, 1) := by decide +kernel
theorem dX11_look_85 : decode cX11_look 85 = .ok (.getfield 16, 3) := by decide +kernel
theorem dX11_look_88 : decode cX11_look 88 = .ok (.iload_n 1, 1) := by decide +kernel
theorem dX11_look_89 : decode cX11_look 89 = .ok (.iaload, 1) := by decide +kernel
theorem dX11_look_90 : decode cX11_look 90 = .ok (.iconst 2, 1) := by decide +kernel
theorem dX11_look_91 : decode cX11_look 91 = .ok (.if_icmp .ne 8, 3) := by decide +kernel
theorem dX11_look_94 : decode cX11_look 94 = .ok (.bipush (-2), 2) := by decide +kernel
theorem dX11_look_96 : decode cX11_look 96 = .ok (.goto 9, 3) := by decide +kernel
theorem dX11_look_99 : decode cX11_look 99 = .ok (.aload_n 0, 1) := by decide +kernel
theorem dX11_look_100 : decode cX11_look 100 = .ok (.getfield 35, 3) := by decide +kernel
theorem dX11_look_103 : decode cX11_look 103 = .ok (.iload_n 1, 1) := by decide +kernel
theorem dX11_look_104 : decode cX11_look 104 = .ok (.iaload, 1) := by decide +kernel
theorem dX11_look_105 : decode cX11_look 105 = .ok (.ireturn, 1) := by decide +kernel
theorem dX11_look_106 : decode cX11_look 106 = .ok (.aload_n 0, 1) := by decide +kernel
theorem dX11_look_107 : decode cX11_look 107 = .ok (.iload_n 1, 1) := by decide +kernel
theorem dX11_look_108 : decode cX11_look 108 = .ok (.invokevirtual 145, 3) := by decide +kernel
theorem dX11_look_111 : decode cX11_look 111 = .ok (.ireturn, 1) := by decide +kernel
theorem dX11_along_0 : decode cX11_along 0 = .ok (.iload_n 1, 1) := by decide +kernel
theorem dX11_along_1 : decode cX11_along 1 = .ok (.ifCond .eq 14, 3) := by decide +kernel
theorem dX11_along_4 : decode cX11_along 4 = .ok (.iload_n 1, 1) := by decide +kernel
theorem dX11_along_5 : decode cX11_along 5 = .ok (.iconst 1, 1) := by decide +kernel
theorem dX11_along_6 : decode cX11_along 6 = .ok (.if_icmp .eq 9, 3) := by decide +kernel
theorem dX11_along_9 : decode cX11_along 9 = .ok (.iload_n 1, 1) := by decide +kernel
theorem dX11_along_10 : decode cX11_along 10 = .ok (.bipush 7, 2) := by decide +kernel
theorem dX11_along_12 : decode cX11_along 12 = .ok (.if_icmp .ne 7, 3) := by decide +kernel
theorem dX11_along_15 : decode cX11_along 15 = .ok (.iconst 1, 1) := by decide +kernel
theorem dX11_along_16 : decode cX11_along 16 = .ok (.goto 19, 3) := by decide +kernel
theorem dX11_along_19 : decode cX11_along 19 = .ok (.iload_n 1, 1) := by decide +kernel
theorem dX11_along_20 : decode cX11_along 20 = .ok (.iconst 2, 1) := by decide +kernel
theorem dX11_along_21 : decode cX11_along 21 = .ok (.if_icmp .le 13, 3) := by decide +kernel
theorem dX11_along_24 : decode cX11_along 24 = .ok (.iload_n 1, 1) := by decide +kernel
theorem dX11_along_25 : decode cX11_along 25 = .ok (.bipush 6, 2) := by decide +kernel
theorem dX11_along_27 : decode cX11_along 27 = .ok (.if_icmp .ge 7, 3) := by decide +kernel
theorem dX11_along_30 : decode cX11_along 30 = .ok (.iconst (-1), 1) := by decide +kernel
theorem dX11_along_31 : decode cX11_along 31 = .ok (.goto 4, 3) := by decide +kernel
theorem dX11_along_34 : decode cX11_along 34 = .ok (.iconst 0, 1) := by decide +kernel
theorem dX11_along_35 : decode cX11_along 35 = .ok (.ireturn, 1) := by decide +kernel
theorem dX11_up_0 : decode cX11_up 0 = .ok (.iload_n 1, 1) := by decide +kernel
theorem dX11_up_1 : decode cX11_up 1 = .ok (.ifCond .le 12, 3) := by decide +kernel
theorem dX11_up_4 : decode cX11_up 4 = .ok (.iload_n 1, 1) := by decide +kernel
theorem dX11_up_5 : decode cX11_up 5 = .ok (.iconst 4, 1) := by decide +kernel
theorem dX11_up_6 : decode cX11_up 6 = .ok (.if_icmp .ge 7, 3) := by decide +kernel
theorem dX11_up_9 : decode cX11_up 9 = .ok (.iconst 1, 1) := by decide +kernel
theorem dX11_up_10 : decode cX11_up 10 = .ok (.goto 13, 3) := by decide +kernel
theorem dX11_up_13 : decode cX11_up 13 = .ok (.iload_n 1, 1) := by decide +kernel
theorem dX11_up_14 : decode cX11_up 14 = .ok (.iconst 4, 1) := by decide +kernel
theorem dX11_up_15 : decode cX11_up 15 = .ok (.if_icmp .le 7, 3) := by decide +kernel
theorem dX11_up_18 : decode cX11_up 18 = .ok (.iconst (-1), 1) := by decide +kernel
theorem dX11_up_19 : decode cX11_up 19 = .ok (.goto 4, 3) := by decide +kernel
theorem dX11_up_22 : decode cX11_up 22 = .ok (.iconst 0, 1) := by decide +kernel
theorem dX11_up_23 : decode cX11_up 23 = .ok (.ireturn, 1) := by decide +kernel
theorem dX11_part_0 : decode cX11_part 0 = .ok (.iload 7, 2) := by decide +kernel
theorem dX11_part_2 : decode cX11_part 2 = .ok (.ifCond .ne 7, 3) := by decide +kernel
theorem dX11_part_5 : decode cX11_part 5 = .ok (.lload_n 1, 1) := by decide +kernel
theorem dX11_part_6 : decode cX11_part 6 = .ok (.goto 24, 3) := by decide +kernel
theorem dX11_part_9 : decode cX11_part 9 = .ok (.iload 7, 2) := by decide +kernel
theorem dX11_part_11 : decode cX11_part 11 = .ok (.iconst 1, 1) := by decide +kernel
theorem dX11_part_12 : decode cX11_part 12 = .ok (.if_icmp .ne 7, 3) := by decide +kernel
theorem dX11_part_15 : decode cX11_part 15 = .ok (.lload_n 3, 1) := by decide +kernel
theorem dX11_part_16 : decode cX11_part 16 = .ok (.goto 14, 3) := by decide +kernel
theorem dX11_part_19 : decode cX11_part 19 = .ok (.iload 5, 2) := by decide +kernel
theorem dX11_part_21 : decode cX11_part 21 = .ok (.i2l, 1) := by decide +kernel
theorem dX11_part_22 : decode cX11_part 22 = .ok (.lload_n 3, 1) := by decide +kernel
theorem dX11_part_23 : decode cX11_part 23 = .ok (.lmul, 1) := by decide +kernel
theorem dX11_part_24 : decode cX11_part 24 = .ok (.iload 6, 2) := by decide +kernel
theorem dX11_part_26 : decode cX11_part 26 = .ok (.i2l, 1) := by decide +kernel
theorem dX11_part_27 : decode cX11_part 27 = .ok (.lload_n 1, 1) := by decide +kernel
theorem dX11_part_28 : decode cX11_part 28 = .ok (.lmul, 1) := by decide +kernel
theorem dX11_part_29 : decode cX11_part 29 = .ok (.lsub, 1) := by decide +kernel
theorem dX11_part_30 : decode cX11_part 30 = .ok (.lreturn, 1) := by decide +kernel
theorem dX11_direct_0 : decode cX11_direct 0 = .ok (.aload_n 0, 1) := by decide +kernel
theorem dX11_direct_1 : decode cX11_direct 1 = .ok (.aload_n 0, 1) := by decide +kernel
theorem dX11_direct_2 : decode cX11_direct 2 = .ok (.aload_n 0, 1) := by decide +kernel
theorem dX11_direct_3 : decode cX11_direct 3 = .ok (.getfield 20, 3) := by decide +kernel
theorem dX11_direct_6 : decode cX11_direct 6 = .ok (.iload_n 1, 1) := by decide +kernel
theorem dX11_direct_7 : decode cX11_direct 7 = .ok (.iaload, 1) := by decide +kernel
theorem dX11_direct_8 : decode cX11_direct 8 = .ok (.invokevirtual 149, 3) := by decide +kernel
theorem dX11_direct_11 : decode cX11_direct 11 = .ok (.i2l, 1) := by decide +kernel
theorem dX11_direct_12 : decode cX11_direct 12 = .ok (.aload_n 0, 1) := by decide +kernel
theorem dX11_direct_13 : decode cX11_direct 13 = .ok (.aload_n 0, 1) := by decide +kernel
theorem dX11_direct_14 : decode cX11_direct 14 = .ok (.getfield 20, 3) := by decide +kernel
theorem dX11_direct_17 : decode cX11_direct 17 = .ok (.iload_n 1, 1) := by decide +kernel
theorem dX11_direct_18 : decode cX11_direct 18 = .ok (.iaload, 1) := by decide +kernel
theorem dX11_direct_19 : decode cX11_direct 19 = .ok (.invokevirtual 152, 3) := by decide +kernel
theorem dX11_direct_22 : decode cX11_direct 22 = .ok (.i2l, 1) := by decide +kernel
theorem dX11_direct_23 : decode cX11_direct 23 = .ok (.aload_n 0, 1) := by decide +kernel
theorem dX11_direct_24 : decode cX11_direct 24 = .ok (.getfield 23, 3) := by decide +kernel
theorem dX11_direct_27 : decode cX11_direct 27 = .ok (.iload_n 1, 1) := by decide +kernel
theorem dX11_direct_28 : decode cX11_direct 28 = .ok (.iaload, 1) := by decide +kernel
theorem dX11_direct_29 : decode cX11_direct 29 = .ok (.aload_n 0, 1) := by decide +kernel
theorem dX11_direct_30 : decode cX11_direct 30 = .ok (.getfield 26, 3) := by decide +kernel
theorem dX11_direct_33 : decode cX11_direct 33 = .ok (.iload_n 1, 1) := by decide +kernel
theorem dX11_direct_34 : decode cX11_direct 34 = .ok (.iaload, 1) := by decide +kernel
theorem dX11_direct_35 : decode cX11_direct 35 = .ok (.iload_n 2, 1) := by decide +kernel
theorem dX11_direct_36 : decode cX11_direct 36 = .ok (.invokevirtual 155, 3) := by decide +kernel
theorem dX11_direct_39 : decode cX11_direct 39 = .ok (.lreturn, 1) := by decide +kernel
theorem dX11_pushed_0 : decode cX11_pushed 0 = .ok (.aload_n 0, 1) := by decide +kernel
theorem dX11_pushed_1 : decode cX11_pushed 1 = .ok (.getfield 16, 3) := by decide +kernel
theorem dX11_pushed_4 : decode cX11_pushed 4 = .ok (.iload_n 1, 1) := by decide +kernel
theorem dX11_pushed_5 : decode cX11_pushed 5 = .ok (.iaload, 1) := by decide +kernel
theorem dX11_pushed_6 : decode cX11_pushed 6 = .ok (.iconst 1, 1) := by decide +kernel
theorem dX11_pushed_7 : decode cX11_pushed 7 = .ok (.if_icmp .ne 11, 3) := by decide +kernel
theorem dX11_pushed_10 : decode cX11_pushed 10 = .ok (.iconst 2, 1) := by decide +kernel
theorem dX11_pushed_11 : decode cX11_pushed 11 = .ok (.iload_n 2, 1) := by decide +kernel
theorem dX11_pushed_12 : decode cX11_pushed 12 = .ok (.imul, 1) := by decide +kernel
theorem dX11_pushed_13 : decode cX11_pushed 13 = .ok (.iconst 1, 1) := by decide +kernel
theorem dX11_pushed_14 : decode cX11_pushed 14 = .ok (.isub, 1) := by decide +kernel
theorem dX11_pushed_15 : decode cX11_pushed 15 = .ok (.goto 20, 3) := by decide +kernel
theorem dX11_pushed_18 : decode cX11_pushed 18 = .ok (.aload_n 0, 1) := by decide +kernel
theorem dX11_pushed_19 : decode cX11_pushed 19 = .ok (.getfield 16, 3) := by decide +kernel
theorem dX11_pushed_22 : decode cX11_pushed 22 = .ok (.iload_n 1, 1) := by decide +kernel
theorem dX11_pushed_23 : decode cX11_pushed 23 = .ok (.iaload, 1) := by decide +kernel
theorem dX11_pushed_24 : decode cX11_pushed 24 = .ok (.iconst 3, 1) := by decide +kernel
theorem dX11_pushed_25 : decode cX11_pushed 25 = .ok (.if_icmp .ne 9, 3) := by decide +kernel
theorem dX11_pushed_28 : decode cX11_pushed 28 = .ok (.iload_n 2, 1) := by decide +kernel
theorem dX11_pushed_29 : decode cX11_pushed 29 = .ok (.iconst 1, 1) := by decide +kernel
theorem dX11_pushed_30 : decode cX11_pushed 30 = .ok (.isub, 1) := by decide +kernel
theorem dX11_pushed_31 : decode cX11_pushed 31 = .ok (.goto 4, 3) := by decide +kernel
theorem dX11_pushed_34 : decode cX11_pushed 34 = .ok (.iconst 0, 1) := by decide +kernel
theorem dX11_pushed_35 : decode cX11_pushed 35 = .ok (.istore 4, 2) := by decide +kernel
theorem dX11_pushed_37 : decode cX11_pushed 37 = .ok (.aload_n 0, 1) := by decide +kernel
theorem dX11_pushed_38 : decode cX11_pushed 38 = .ok (.aload_n 0, 1) := by decide +kernel
theorem dX11_pushed_39 : decode cX11_pushed 39 = .ok (.getfield 20, 3) := by decide +kernel
theorem dX11_pushed_42 : decode cX11_pushed 42 = .ok (.iload_n 1, 1) := by decide +kernel
theorem dX11_pushed_43 : decode cX11_pushed 43 = .ok (.iaload, 1) := by decide +kernel
theorem dX11_pushed_44 : decode cX11_pushed 44 = .ok (.invokevirtual 149, 3) := by decide +kernel
theorem dX11_pushed_47 : decode cX11_pushed 47 = .ok (.i2l, 1) := by decide +kernel
theorem dX11_pushed_48 : decode cX11_pushed 48 = .ok (.lstore 5, 2) := by decide +kernel
theorem dX11_pushed_50 : decode cX11_pushed 50 = .ok (.aload_n 0, 1) := by decide +kernel
theorem dX11_pushed_51 : decode cX11_pushed 51 = .ok (.aload_n 0, 1) := by decide +kernel
theorem dX11_pushed_52 : decode cX11_pushed 52 = .ok (.getfield 20, 3) := by decide +kernel
theorem dX11_pushed_55 : decode cX11_pushed 55 = .ok (.iload_n 1, 1) := by decide +kernel
theorem dX11_pushed_56 : decode cX11_pushed 56 = .ok (.iaload, 1) := by decide +kernel
theorem dX11_pushed_57 : decode cX11_pushed 57 = .ok (.invokevirtual 152, 3) := by decide +kernel
theorem dX11_pushed_60 : decode cX11_pushed 60 = .ok (.i2l, 1) := by decide +kernel
theorem dX11_pushed_61 : decode cX11_pushed 61 = .ok (.lstore 7, 2) := by decide +kernel
theorem dX11_pushed_63 : decode cX11_pushed 63 = .ok (.aload_n 0, 1) := by decide +kernel
theorem dX11_pushed_64 : decode cX11_pushed 64 = .ok (.ldc2_w 159, 3) := by decide +kernel
theorem dX11_pushed_67 : decode cX11_pushed 67 = .ok (.lload 5, 2) := by decide +kernel
theorem dX11_pushed_69 : decode cX11_pushed 69 = .ok (.lmul, 1) := by decide +kernel
theorem dX11_pushed_70 : decode cX11_pushed 70 = .ok (.iload 4, 2) := by decide +kernel
theorem dX11_pushed_72 : decode cX11_pushed 72 = .ok (.aload_n 0, 1) := by decide +kernel
theorem dX11_pushed_73 : decode cX11_pushed 73 = .ok (.getfield 29, 3) := by decide +kernel
theorem dX11_pushed_76 : decode cX11_pushed 76 = .ok (.iload_n 1, 1) := by decide +kernel
theorem dX11_pushed_77 : decode cX11_pushed 77 = .ok (.iaload, 1) := by decide +kernel
theorem dX11_pushed_78 : decode cX11_pushed 78 = .ok (.imul, 1) := by decide +kernel
theorem dX11_pushed_79 : decode cX11_pushed 79 = .ok (.i2l, 1) := by decide +kernel
theorem dX11_pushed_80 : decode cX11_pushed 80 = .ok (.lload 7, 2) := by decide +kernel
theorem dX11_pushed_82 : decode cX11_pushed 82 = .ok (.lmul, 1) := by decide +kernel
theorem dX11_pushed_83 : decode cX11_pushed 83 = .ok (.ladd, 1) := by decide +kernel
theorem dX11_pushed_84 : decode cX11_pushed 84 = .ok (.ldc2_w 159, 3) := by decide +kernel
theorem dX11_pushed_87 : decode cX11_pushed 87 = .ok (.lload 7, 2) := by decide +kernel
theorem dX11_pushed_89 : decode cX11_pushed 89 = .ok (.lmul, 1) := by decide +kernel
theorem dX11_pushed_90 : decode cX11_pushed 90 = .ok (.iload 4, 2) := by decide +kernel
theorem dX11_pushed_92 : decode cX11_pushed 92 = .ok (.aload_n 0, 1) := by decide +kernel
theorem dX11_pushed_93 : decode cX11_pushed 93 = .ok (.getfield 29, 3) := by decide +kernel
theorem dX11_pushed_96 : decode cX11_pushed 96 = .ok (.iload_n 1, 1) := by decide +kernel
theorem dX11_pushed_97 : decode cX11_pushed 97 = .ok (.iaload, 1) := by decide +kernel
theorem dX11_pushed_98 : decode cX11_pushed 98 = .ok (.imul, 1) := by decide +kernel
theorem dX11_pushed_99 : decode cX11_pushed 99 = .ok (.i2l, 1) := by decide +kernel
theorem dX11_pushed_100 : decode cX11_pushed 100 = .ok (.lload 5, 2) := by decide +kernel
theorem dX11_pushed_102 : decode cX11_pushed 102 = .ok (.lmul, 1) := by decide +kernel
theorem dX11_pushed_103 : decode cX11_pushed 103 = .ok (.lsub, 1) := by decide +kernel
theorem dX11_pushed_104 : decode cX11_pushed 104 = .ok (.aload_n 0, 1) := by decide +kernel
theorem dX11_pushed_105 : decode cX11_pushed 105 = .ok (.getfield 23, 3) := by decide +kernel
theorem dX11_pushed_108 : decode cX11_pushed 108 = .ok (.iload_n 1, 1) := by decide +kernel
theorem dX11_pushed_109 : decode cX11_pushed 109 = .ok (.iaload, 1) := by decide +kernel
theorem dX11_pushed_110 : decode cX11_pushed 110 = .ok (.aload_n 0, 1) := by decide +kernel
theorem dX11_pushed_111 : decode cX11_pushed 111 = .ok (.getfield 26, 3) := by decide +kernel
theorem dX11_pushed_114 : decode cX11_pushed 114 = .ok (.iload_n 1, 1) := by decide +kernel
theorem dX11_pushed_115 : decode cX11_pushed 115 = .ok (.iaload, 1) := by decide +kernel
theorem dX11_pushed_116 : decode cX11_pushed 116 = .ok (.iload_n 3, 1) := by decide +kernel
theorem dX11_pushed_117 : decode cX11_pushed 117 = .ok (.invokevirtual 155, 3) := by decide +kernel
theorem dX11_pushed_120 : decode cX11_pushed 120 = .ok (.lreturn, 1) := by decide +kernel
theorem dX11_wrench_0 : decode cX11_wrench 0 = .ok (.aload_n 0, 1) := by decide +kernel
theorem dX11_wrench_1 : decode cX11_wrench 1 = .ok (.aload_n 0, 1) := by decide +kernel
theorem dX11_wrench_2 : decode cX11_wrench 2 = .ok (.iload_n 1, 1) := by decide +kernel
theorem dX11_wrench_3 : decode cX11_wrench 3 = .ok (.invokevirtual 142, 3) := by decide +kernel
theorem dX11_wrench_6 : decode cX11_wrench 6 = .ok (.ifCond .eq 33, 3) := by decide +kernel
theorem dX11_wrench_9 : decode cX11_wrench 9 = .ok (.aload_n 0, 1) := by decide +kernel
theorem dX11_wrench_10 : decode cX11_wrench 10 = .ok (.iload_n 3, 1) := by decide +kernel
theorem dX11_wrench_11 : decode cX11_wrench 11 = .ok (.iconst 0, 1) := by decide +kernel
theorem dX11_wrench_12 : decode cX11_wrench 12 = .ok (.iconst 2, 1) := by decide +kernel
theorem dX11_wrench_13 : decode cX11_wrench 13 = .ok (.invokevirtual 130, 3) := by decide +kernel
theorem dX11_wrench_16 : decode cX11_wrench 16 = .ok (.ifCond .eq 23, 3) := by decide +kernel
theorem dX11_wrench_19 : decode cX11_wrench 19 = .ok (.aload_n 0, 1) := by decide +kernel
theorem dX11_wrench_20 : decode cX11_wrench 20 = .ok (.iload_n 2, 1) := by decide +kernel
theorem dX11_wrench_21 : decode cX11_wrench 21 = .ok (.iconst (-1), 1) := by decide +kernel
theorem dX11_wrench_22 : decode cX11_wrench 22 = .ok (.aload_n 0, 1) := by decide +kernel
theorem dX11_wrench_23 : decode cX11_wrench 23 = .ok (.iload_n 1, 1) := by decide +kernel
theorem dX11_wrench_24 : decode cX11_wrench 24 = .ok (.invokevirtual 145, 3) := by decide +kernel
theorem dX11_wrench_27 : decode cX11_wrench 27 = .ok (.iconst 1, 1) := by decide +kernel
theorem dX11_wrench_28 : decode cX11_wrench 28 = .ok (.isub, 1) := by decide +kernel
theorem dX11_wrench_29 : decode cX11_wrench 29 = .ok (.invokevirtual 130, 3) := by decide +kernel
theorem dX11_wrench_32 : decode cX11_wrench 32 = .ok (.ifCond .eq 7, 3) := by decide +kernel
theorem dX11_wrench_35 : decode cX11_wrench 35 = .ok (.iconst 0, 1) := by decide +kernel
theorem dX11_wrench_36 : decode cX11_wrench 36 = .ok (.goto 4, 3) := by decide +kernel
theorem dX11_wrench_39 : decode cX11_wrench 39 = .ok (.iconst 1, 1) := by decide +kernel
theorem dX11_wrench_40 : decode cX11_wrench 40 = .ok (.putfield 7, 3) := by decide +kernel
theorem dX11_wrench_43 : decode cX11_wrench 43 = .ok (.aload_n 0, 1) := by decide +kernel
theorem dX11_wrench_44 : decode cX11_wrench 44 = .ok (.getfield 7, 3) := by decide +kernel
theorem dX11_wrench_47 : decode cX11_wrench 47 = .ok (.ifCond .le 7, 3) := by decide +kernel
theorem dX11_wrench_50 : decode cX11_wrench 50 = .ok (.lconst 0, 1) := by decide +kernel
theorem dX11_wrench_51 : decode cX11_wrench 51 = .ok (.goto 23, 3) := by decide +kernel
theorem dX11_wrench_54 : decode cX11_wrench 54 = .ok (.iload_n 2, 1) := by decide +kernel
theorem dX11_wrench_55 : decode cX11_wrench 55 = .ok (.ifCond .ge 12, 3) := by decide +kernel
theorem dX11_wrench_58 : decode cX11_wrench 58 = .ok (.aload_n 0, 1) := by decide +kernel
theorem dX11_wrench_59 : decode cX11_wrench 59 = .ok (.iload_n 1, 1) := by decide +kernel
theorem dX11_wrench_60 : decode cX11_wrench 60 = .ok (.iload_n 3, 1) := by decide +kernel
theorem dX11_wrench_61 : decode cX11_wrench 61 = .ok (.invokevirtual 161, 3) := by decide +kernel
theorem dX11_wrench_64 : decode cX11_wrench 64 = .ok (.goto 10, 3) := by decide +kernel
theorem dX11_wrench_67 : decode cX11_wrench 67 = .ok (.aload_n 0, 1) := by decide +kernel
theorem dX11_wrench_68 : decode cX11_wrench 68 = .ok (.iload_n 1, 1) := by decide +kernel
theorem dX11_wrench_69 : decode cX11_wrench 69 = .ok (.iload_n 2, 1) := by decide +kernel
theorem dX11_wrench_70 : decode cX11_wrench 70 = .ok (.iload_n 3, 1) := by decide +kernel
theorem dX11_wrench_71 : decode cX11_wrench 71 = .ok (.invokevirtual 165, 3) := by decide +kernel
theorem dX11_wrench_74 : decode cX11_wrench 74 = .ok (.lreturn, 1) := by decide +kernel
theorem dX11_add_0 : decode cX11_add 0 = .ok (.aload_n 0, 1) := by decide +kernel
theorem dX11_add_1 : decode cX11_add 1 = .ok (.getfield 41, 3) := by decide +kernel
theorem dX11_add_4 : decode cX11_add 4 = .ok (.iconst 3, 1) := by decide +kernel
theorem dX11_add_5 : decode cX11_add 5 = .ok (.aload_n 0, 1) := by decide +kernel
theorem dX11_add_6 : decode cX11_add 6 = .ok (.getfield 38, 3) := by decide +kernel
theorem dX11_add_9 : decode cX11_add 9 = .ok (.imul, 1) := by decide +kernel
theorem dX11_add_10 : decode cX11_add 10 = .ok (.lload_n 1, 1) := by decide +kernel
theorem dX11_add_11 : decode cX11_add 11 = .ok (.lastore, 1) := by decide +kernel
theorem dX11_add_12 : decode cX11_add 12 = .ok (.aload_n 0, 1) := by decide +kernel
theorem dX11_add_13 : decode cX11_add 13 = .ok (.getfield 41, 3) := by decide +kernel
theorem dX11_add_16 : decode cX11_add 16 = .ok (.iconst 3, 1) := by decide +kernel
theorem dX11_add_17 : decode cX11_add 17 = .ok (.aload_n 0, 1) := by decide +kernel
theorem dX11_add_18 : decode cX11_add 18 = .ok (.getfield 38, 3) := by decide +kernel
theorem dX11_add_21 : decode cX11_add 21 = .ok (.imul, 1) := by decide +kernel
theorem dX11_add_22 : decode cX11_add 22 = .ok (.iconst 1, 1) := by decide +kernel
theorem dX11_add_23 : decode cX11_add 23 = .ok (.iadd, 1) := by decide +kernel
theorem dX11_add_24 : decode cX11_add 24 = .ok (.lload_n 3, 1) := by decide +kernel
theorem dX11_add_25 : decode cX11_add 25 = .ok (.lastore, 1) := by decide +kernel
theorem dX11_add_26 : decode cX11_add 26 = .ok (.aload_n 0, 1) := by decide +kernel
theorem dX11_add_27 : decode cX11_add 27 = .ok (.getfield 41, 3) := by decide +kernel
theorem dX11_add_30 : decode cX11_add 30 = .ok (.iconst 3, 1) := by decide +kernel
theorem dX11_add_31 : decode cX11_add 31 = .ok (.aload_n 0, 1) := by decide +kernel
theorem dX11_add_32 : decode cX11_add 32 = .ok (.getfield 38, 3) := by decide +kernel
theorem dX11_add_35 : decode cX11_add 35 = .ok (.imul, 1) := by decide +kernel
theorem dX11_add_36 : decode cX11_add 36 = .ok (.iconst 2, 1) := by decide +kernel
theorem dX11_add_37 : decode cX11_add 37 = .ok (.iadd, 1) := by decide +kernel
theorem dX11_add_38 : decode cX11_add 38 = .ok (.lload 5, 2) := by decide +kernel
theorem dX11_add_40 : decode cX11_add 40 = .ok (.lastore, 1) := by decide +kernel
theorem dX11_add_41 : decode cX11_add 41 = .ok (.aload_n 0, 1) := by decide +kernel
theorem dX11_add_42 : decode cX11_add 42 = .ok (.dup, 1) := by decide +kernel
theorem dX11_add_43 : decode cX11_add 43 = .ok (.getfield 38, 3) := by decide +kernel
theorem dX11_add_46 : decode cX11_add 46 = .ok (.iconst 1, 1) := by decide +kernel
theorem dX11_add_47 : decode cX11_add 47 = .ok (.iadd, 1) := by decide +kernel
theorem dX11_add_48 : decode cX11_add 48 = .ok (.putfield 38, 3) := by decide +kernel
theorem dX11_add_51 : decode cX11_add 51 = .ok (.return_, 1) := by decide +kernel
theorem dX11_addDirections_0 : decode cX11_addDirections 0 = .ok (.aload_n 0, 1) := by decide +kernel
theorem dX11_addDirections_1 : decode cX11_addDirections 1 = .ok (.iconst 0, 1) := by decide +kernel
theorem dX11_addDirections_2 : decode cX11_addDirections 2 = .ok (.putfield 38, 3) := by decide +kernel
theorem dX11_addDirections_5 : decode cX11_addDirections 5 = .ok (.iconst 0, 1) := by decide +kernel
theorem dX11_addDirections_6 : decode cX11_addDirections 6 = .ok (.istore_n 3, 1) := by decide +kernel
theorem dX11_addDirections_7 : decode cX11_addDirections 7 = .ok (.iload_n 3, 1) := by decide +kernel
theorem dX11_addDirections_8 : decode cX11_addDirections 8 = .ok (.aload_n 0, 1) := by decide +kernel
theorem dX11_addDirections_9 : decode cX11_addDirections 9 = .ok (.getfield 13, 3) := by decide +kernel
theorem dX11_addDirections_12 : decode cX11_addDirections 12 = .ok (.if_icmp .ge 50, 3) := by decide +kernel
theorem dX11_addDirections_15 : decode cX11_addDirections 15 = .ok (.iload_n 3, 1) := by decide +kernel
theorem dX11_addDirections_16 : decode cX11_addDirections 16 = .ok (.iload_n 1, 1) := by decide +kernel
theorem dX11_addDirections_17 : decode cX11_addDirections 17 = .ok (.if_icmp .eq 39, 3) := by decide +kernel
theorem dX11_addDirections_20 : decode cX11_addDirections 20 = .ok (.iload_n 2, 1) := by decide +kernel
theorem dX11_addDirections_21 : decode cX11_addDirections 21 = .ok (.ifCond .ne 13, 3) := by decide +kernel
theorem dX11_addDirections_24 : decode cX11_addDirections 24 = .ok (.aload_n 0, 1) := by decide +kernel
theorem dX11_addDirections_25 : decode cX11_addDirections 25 = .ok (.getfield 16, 3) := by decide +kernel
theorem dX11_addDirections_28 : decode cX11_addDirections 28 = .ok (.iload_n 3, 1) := by decide +kernel
theorem dX11_addDirections_29 : decode cX11_addDirections 29 = .ok (.iaload, 1) := by decide +kernel
theorem dX11_addDirections_30 : decode cX11_addDirections 30 = .ok (.iconst 2, 1) := by decide +kernel
theorem dX11_addDirections_31 : decode cX11_addDirections 31 = .ok (.if_icmp .eq 25, 3) := by decide +kernel
theorem dX11_addDirections_34 : decode cX11_addDirections 34 = .ok (.aload_n 0, 1) := by decide +kernel
theorem dX11_addDirections_35 : decode cX11_addDirections 35 = .ok (.aload_n 0, 1) := by decide +kernel
theorem dX11_addDirections_36 : decode cX11_addDirections 36 = .ok (.iload_n 3, 1) := by decide +kernel
theorem dX11_addDirections_37 : decode cX11_addDirections 37 = .ok (.iconst 0, 1) := by decide +kernel
theorem dX11_addDirections_38 : decode cX11_addDirections 38 = .ok (.invokevirtual 161, 3) := by decide +kernel
theorem dX11_addDirections_41 : decode cX11_addDirections 41 = .ok (.aload_n 0, 1) := by decide +kernel
theorem dX11_addDirections_42 : decode cX11_addDirections 42 = .ok (.iload_n 3, 1) := by decide +kernel
theorem dX11_addDirections_43 : decode cX11_addDirections 43 = .ok (.iconst 1, 1) := by decide +kernel
theorem dX11_addDirections_44 : decode cX11_addDirections 44 = .ok (.invokevirtual 161, 3) := by decide +kernel
theorem dX11_addDirections_47 : decode cX11_addDirections 47 = .ok (.aload_n 0, 1) := by decide +kernel
theorem dX11_addDirections_48 : decode cX11_addDirections 48 = .ok (.iload_n 3, 1) := by decide +kernel
theorem dX11_addDirections_49 : decode cX11_addDirections 49 = .ok (.iconst 2, 1) := by decide +kernel
theorem dX11_addDirections_50 : decode cX11_addDirections 50 = .ok (.invokevirtual 161, 3) := by decide +kernel
theorem dX11_addDirections_53 : decode cX11_addDirections 53 = .ok (.invokevirtual 169, 3) := by decide +kernel
theorem dX11_addDirections_56 : decode cX11_addDirections 56 = .ok (.iinc 3 1, 3) := by decide +kernel
theorem dX11_addDirections_59 : decode cX11_addDirections 59 = .ok (.goto (-52), 3) := by decide +kernel
theorem dX11_addDirections_62 : decode cX11_addDirections 62 = .ok (.return_, 1) := by decide +kernel
theorem dX11_across_0 : decode cX11_across 0 = .ok (.iconst 0, 1) := by decide +kernel
theorem dX11_across_1 : decode cX11_across 1 = .ok (.istore_n 3, 1) := by decide +kernel
theorem dX11_across_2 : decode cX11_across 2 = .ok (.iload_n 3, 1) := by decide +kernel
theorem dX11_across_3 : decode cX11_across 3 = .ok (.iconst 3, 1) := by decide +kernel
theorem dX11_across_4 : decode cX11_across 4 = .ok (.if_icmp .ge 74, 3) := by decide +kernel
theorem dX11_across_7 : decode cX11_across 7 = .ok (.aload_n 0, 1) := by decide +kernel
theorem dX11_across_8 : decode cX11_across 8 = .ok (.getfield 45, 3) := by decide +kernel
theorem dX11_across_11 : decode cX11_across 11 = .ok (.iload_n 3, 1) := by decide +kernel
theorem dX11_across_12 : decode cX11_across 12 = .ok (.aload_n 0, 1) := by decide +kernel
theorem dX11_across_13 : decode cX11_across 13 = .ok (.getfield 41, 3) := by decide +kernel
theorem dX11_across_16 : decode cX11_across 16 = .ok (.iconst 3, 1) := by decide +kernel
theorem dX11_across_17 : decode cX11_across 17 = .ok (.iload_n 1, 1) := by decide +kernel
theorem dX11_across_18 : decode cX11_across 18 = .ok (.imul, 1) := by decide +kernel
theorem dX11_across_19 : decode cX11_across 19 = .ok (.iload_n 3, 1) := by decide +kernel
theorem dX11_across_20 : decode cX11_across 20 = .ok (.iconst 1, 1) := by decide +kernel
theorem dX11_across_21 : decode cX11_across 21 = .ok (.iadd, 1) := by decide +kernel
theorem dX11_across_22 : decode cX11_across 22 = .ok (.iconst 3, 1) := by decide +kernel
theorem dX11_across_23 : decode cX11_across 23 = .ok (.irem, 1) := by decide +kernel
theorem dX11_across_24 : decode cX11_across 24 = .ok (.iadd, 1) := by decide +kernel
theorem dX11_across_25 : decode cX11_across 25 = .ok (.laload, 1) := by decide +kernel
theorem dX11_across_26 : decode cX11_across 26 = .ok (.aload_n 0, 1) := by decide +kernel
theorem dX11_across_27 : decode cX11_across 27 = .ok (.getfield 41, 3) := by decide +kernel
theorem dX11_across_30 : decode cX11_across 30 = .ok (.iconst 3, 1) := by decide +kernel
theorem dX11_across_31 : decode cX11_across 31 = .ok (.iload_n 2, 1) := by decide +kernel
theorem dX11_across_32 : decode cX11_across 32 = .ok (.imul, 1) := by decide +kernel
theorem dX11_across_33 : decode cX11_across 33 = .ok (.iload_n 3, 1) := by decide +kernel
theorem dX11_across_34 : decode cX11_across 34 = .ok (.iconst 2, 1) := by decide +kernel
theorem dX11_across_35 : decode cX11_across 35 = .ok (.iadd, 1) := by decide +kernel
theorem dX11_across_36 : decode cX11_across 36 = .ok (.iconst 3, 1) := by decide +kernel
theorem dX11_across_37 : decode cX11_across 37 = .ok (.irem, 1) := by decide +kernel
theorem dX11_across_38 : decode cX11_across 38 = .ok (.iadd, 1) := by decide +kernel
theorem dX11_across_39 : decode cX11_across 39 = .ok (.laload, 1) := by decide +kernel
theorem dX11_across_40 : decode cX11_across 40 = .ok (.lmul, 1) := by decide +kernel
theorem dX11_across_41 : decode cX11_across 41 = .ok (.aload_n 0, 1) := by decide +kernel
theorem dX11_across_42 : decode cX11_across 42 = .ok (.getfield 41, 3) := by decide +kernel
theorem dX11_across_45 : decode cX11_across 45 = .ok (.iconst 3, 1) := by decide +kernel
theorem dX11_across_46 : decode cX11_across 46 = .ok (.iload_n 1, 1) := by decide +kernel
theorem dX11_across_47 : decode cX11_across 47 = .ok (.imul, 1) := by decide +kernel
theorem dX11_across_48 : decode cX11_across 48 = .ok (.iload_n 3, 1) := by decide +kernel
theorem dX11_across_49 : decode cX11_across 49 = .ok (.iconst 2, 1) := by decide +kernel
theorem dX11_across_50 : decode cX11_across 50 = .ok (.iadd, 1) := by decide +kernel
theorem dX11_across_51 : decode cX11_across 51 = .ok (.iconst 3, 1) := by decide +kernel
theorem dX11_across_52 : decode cX11_across 52 = .ok (.irem, 1) := by decide +kernel
theorem dX11_across_53 : decode cX11_across 53 = .ok (.iadd, 1) := by decide +kernel
theorem dX11_across_54 : decode cX11_across 54 = .ok (.laload, 1) := by decide +kernel
theorem dX11_across_55 : decode cX11_across 55 = .ok (.aload_n 0, 1) := by decide +kernel
theorem dX11_across_56 : decode cX11_across 56 = .ok (.getfield 41, 3) := by decide +kernel
theorem dX11_across_59 : decode cX11_across 59 = .ok (.iconst 3, 1) := by decide +kernel
theorem dX11_across_60 : decode cX11_across 60 = .ok (.iload_n 2, 1) := by decide +kernel
theorem dX11_across_61 : decode cX11_across 61 = .ok (.imul, 1) := by decide +kernel
theorem dX11_across_62 : decode cX11_across 62 = .ok (.iload_n 3, 1) := by decide +kernel
theorem dX11_across_63 : decode cX11_across 63 = .ok (.iconst 1, 1) := by decide +kernel
theorem dX11_across_64 : decode cX11_across 64 = .ok (.iadd, 1) := by decide +kernel
theorem dX11_across_65 : decode cX11_across 65 = .ok (.iconst 3, 1) := by decide +kernel
theorem dX11_across_66 : decode cX11_across 66 = .ok (.irem, 1) := by decide +kernel
theorem dX11_across_67 : decode cX11_across 67 = .ok (.iadd, 1) := by decide +kernel
theorem dX11_across_68 : decode cX11_across 68 = .ok (.laload, 1) := by decide +kernel
theorem dX11_across_69 : decode cX11_across 69 = .ok (.lmul, 1) := by decide +kernel
theorem dX11_across_70 : decode cX11_across 70 = .ok (.lsub, 1) := by decide +kernel
theorem dX11_across_71 : decode cX11_across 71 = .ok (.lastore, 1) := by decide +kernel
theorem dX11_across_72 : decode cX11_across 72 = .ok (.iinc 3 1, 3) := by decide +kernel
theorem dX11_across_75 : decode cX11_across 75 = .ok (.goto (-73), 3) := by decide +kernel
theorem dX11_across_78 : decode cX11_across 78 = .ok (.aload_n 0, 1) := by decide +kernel
theorem dX11_across_79 : decode cX11_across 79 = .ok (.getfield 45, 3) := by decide +kernel
theorem dX11_across_82 : decode cX11_across 82 = .ok (.iconst 0, 1) := by decide +kernel
theorem dX11_across_83 : decode cX11_across 83 = .ok (.laload, 1) := by decide +kernel
theorem dX11_across_84 : decode cX11_across 84 = .ok (.lconst 0, 1) := by decide +kernel
theorem dX11_across_85 : decode cX11_across 85 = .ok (.lcmp, 1) := by decide +kernel
theorem dX11_across_86 : decode cX11_across 86 = .ok (.ifCond .ne 25, 3) := by decide +kernel
theorem dX11_across_89 : decode cX11_across 89 = .ok (.aload_n 0, 1) := by decide +kernel
theorem dX11_across_90 : decode cX11_across 90 = .ok (.getfield 45, 3) := by decide +kernel
theorem dX11_across_93 : decode cX11_across 93 = .ok (.iconst 1, 1) := by decide +kernel
theorem dX11_across_94 : decode cX11_across 94 = .ok (.laload, 1) := by decide +kernel
theorem dX11_across_95 : decode cX11_across 95 = .ok (.lconst 0, 1) := by decide +kernel
theorem dX11_across_96 : decode cX11_across 96 = .ok (.lcmp, 1) := by decide +kernel
theorem dX11_across_97 : decode cX11_across 97 = .ok (.ifCond .ne 14, 3) := by decide +kernel
theorem dX11_across_100 : decode cX11_across 100 = .ok (.aload_n 0, 1) := by decide +kernel
theorem dX11_across_101 : decode cX11_across 101 = .ok (.getfield 45, 3) := by decide +kernel
theorem dX11_across_104 : decode cX11_across 104 = .ok (.iconst 2, 1) := by decide +kernel
theorem dX11_across_105 : decode cX11_across 105 = .ok (.laload, 1) := by decide +kernel
theorem dX11_across_106 : decode cX11_across 106 = .ok (.lconst 0, 1) := by decide +kernel
theorem dX11_across_107 : decode cX11_across 107 = .ok (.lcmp, 1) := by decide +kernel
theorem dX11_across_108 : decode cX11_across 108 = .ok (.ifCond .eq 7, 3) := by decide +kernel
theorem dX11_across_111 : decode cX11_across 111 = .ok (.iconst 1, 1) := by decide +kernel
theorem dX11_across_112 : decode cX11_across 112 = .ok (.goto 4, 3) := by decide +kernel
theorem dX11_across_115 : decode cX11_across 115 = .ok (.iconst 0, 1) := by decide +kernel
theorem dX11_across_116 : decode cX11_across 116 = .ok (.ireturn, 1) := by decide +kernel
theorem dX11_against_0 : decode cX11_against 0 = .ok (.aload_n 0, 1) := by decide +kernel
theorem dX11_against_1 : decode cX11_against 1 = .ok (.getfield 45, 3) := by decide +kernel
theorem dX11_against_4 : decode cX11_against 4 = .ok (.iconst 0, 1) := by decide +kernel
theorem dX11_against_5 : decode cX11_against 5 = .ok (.laload, 1) := by decide +kernel
theorem dX11_against_6 : decode cX11_against 6 = .ok (.aload_n 0, 1) := by decide +kernel
theorem dX11_against_7 : decode cX11_against 7 = .ok (.getfield 41, 3) := by decide +kernel
theorem dX11_against_10 : decode cX11_against 10 = .ok (.iconst 3, 1) := by decide +kernel
theorem dX11_against_11 : decode cX11_against 11 = .ok (.iload_n 1, 1) := by decide +kernel
theorem dX11_against_12 : decode cX11_against 12 = .ok (.imul, 1) := by decide +kernel
theorem dX11_against_13 : decode cX11_against 13 = .ok (.laload, 1) := by decide +kernel
theorem dX11_against_14 : decode cX11_against 14 = .ok (.lmul, 1) := by decide +kernel
theorem dX11_against_15 : decode cX11_against 15 = .ok (.aload_n 0, 1) := by decide +kernel
theorem dX11_against_16 : decode cX11_against 16 = .ok (.getfield 45, 3) := by decide +kernel
theorem dX11_against_19 : decode cX11_against 19 = .ok (.iconst 1, 1) := by decide +kernel
theorem dX11_against_20 : decode cX11_against 20 = .ok (.laload, 1) := by decide +kernel
theorem dX11_against_21 : decode cX11_against 21 = .ok (.aload_n 0, 1) := by decide +kernel
theorem dX11_against_22 : decode cX11_against 22 = .ok (.getfield 41, 3) := by decide +kernel
theorem dX11_against_25 : decode cX11_against 25 = .ok (.iconst 3, 1) := by decide +kernel
theorem dX11_against_26 : decode cX11_against 26 = .ok (.iload_n 1, 1) := by decide +kernel
theorem dX11_against_27 : decode cX11_against 27 = .ok (.imul, 1) := by decide +kernel
theorem dX11_against_28 : decode cX11_against 28 = .ok (.iconst 1, 1) := by decide +kernel
theorem dX11_against_29 : decode cX11_against 29 = .ok (.iadd, 1) := by decide +kernel
theorem dX11_against_30 : decode cX11_against 30 = .ok (.laload, 1) := by decide +kernel
theorem dX11_against_31 : decode cX11_against 31 = .ok (.lmul, 1) := by decide +kernel
theorem dX11_against_32 : decode cX11_against 32 = .ok (.ladd, 1) := by decide +kernel
theorem dX11_against_33 : decode cX11_against 33 = .ok (.aload_n 0, 1) := by decide +kernel
theorem dX11_against_34 : decode cX11_against 34 = .ok (.getfield 45, 3) := by decide +kernel
theorem dX11_against_37 : decode cX11_against 37 = .ok (.iconst 2, 1) := by decide +kernel
theorem dX11_against_38 : decode cX11_against 38 = .ok (.laload, 1) := by decide +kernel
theorem dX11_against_39 : decode cX11_against 39 = .ok (.aload_n 0, 1) := by decide +kernel
theorem dX11_against_40 : decode cX11_against 40 = .ok (.getfield 41, 3) := by decide +kernel
theorem dX11_against_43 : decode cX11_against 43 = .ok (.iconst 3, 1) := by decide +kernel
theorem dX11_against_44 : decode cX11_against 44 = .ok (.iload_n 1, 1) := by decide +kernel
theorem dX11_against_45 : decode cX11_against 45 = .ok (.imul, 1) := by decide +kernel
theorem dX11_against_46 : decode cX11_against 46 = .ok (.iconst 2, 1) := by decide +kernel
theorem dX11_against_47 : decode cX11_against 47 = .ok (.iadd, 1) := by decide +kernel
theorem dX11_against_48 : decode cX11_against 48 = .ok (.laload, 1) := by decide +kernel
theorem dX11_against_49 : decode cX11_against 49 = .ok (.lmul, 1) := by decide +kernel
theorem dX11_against_50 : decode cX11_against 50 = .ok (.ladd, 1) := by decide +kernel
theorem dX11_against_51 : decode cX11_against 51 = .ok (.lreturn, 1) := by decide +kernel
theorem dX11_isNought_0 : decode cX11_isNought 0 = .ok (.aload_n 0, 1) := by decide +kernel
theorem dX11_isNought_1 : decode cX11_isNought 1 = .ok (.getfield 41, 3) := by decide +kernel
theorem dX11_isNought_4 : decode cX11_isNought 4 = .ok (.iconst 3, 1) := by decide +kernel
theorem dX11_isNought_5 : decode cX11_isNought 5 = .ok (.iload_n 1, 1) := by decide +kernel
theorem dX11_isNought_6 : decode cX11_isNought 6 = .ok (.imul, 1) := by decide +kernel
theorem dX11_isNought_7 : decode cX11_isNought 7 = .ok (.laload, 1) := by decide +kernel
theorem dX11_isNought_8 : decode cX11_isNought 8 = .ok (.lconst 0, 1) := by decide +kernel
theorem dX11_isNought_9 : decode cX11_isNought 9 = .ok (.lcmp, 1) := by decide +kernel
theorem dX11_isNought_10 : decode cX11_isNought 10 = .ok (.ifCond .ne 37, 3) := by decide +kernel
theorem dX11_isNought_13 : decode cX11_isNought 13 = .ok (.aload_n 0, 1) := by decide +kernel
theorem dX11_isNought_14 : decode cX11_isNought 14 = .ok (.getfield 41, 3) := by decide +kernel
theorem dX11_isNought_17 : decode cX11_isNought 17 = .ok (.iconst 3, 1) := by decide +kernel
theorem dX11_isNought_18 : decode cX11_isNought 18 = .ok (.iload_n 1, 1) := by decide +kernel
theorem dX11_isNought_19 : decode cX11_isNought 19 = .ok (.imul, 1) := by decide +kernel
theorem dX11_isNought_20 : decode cX11_isNought 20 = .ok (.iconst 1, 1) := by decide +kernel
theorem dX11_isNought_21 : decode cX11_isNought 21 = .ok (.iadd, 1) := by decide +kernel
theorem dX11_isNought_22 : decode cX11_isNought 22 = .ok (.laload, 1) := by decide +kernel
theorem dX11_isNought_23 : decode cX11_isNought 23 = .ok (.lconst 0, 1) := by decide +kernel
theorem dX11_isNought_24 : decode cX11_isNought 24 = .ok (.lcmp, 1) := by decide +kernel
theorem dX11_isNought_25 : decode cX11_isNought 25 = .ok (.ifCond .ne 22, 3) := by decide +kernel
theorem dX11_isNought_28 : decode cX11_isNought 28 = .ok (.aload_n 0, 1) := by decide +kernel
theorem dX11_isNought_29 : decode cX11_isNought 29 = .ok (.getfield 41, 3) := by decide +kernel
theorem dX11_isNought_32 : decode cX11_isNought 32 = .ok (.iconst 3, 1) := by decide +kernel
theorem dX11_isNought_33 : decode cX11_isNought 33 = .ok (.iload_n 1, 1) := by decide +kernel
theorem dX11_isNought_34 : decode cX11_isNought 34 = .ok (.imul, 1) := by decide +kernel
theorem dX11_isNought_35 : decode cX11_isNought 35 = .ok (.iconst 2, 1) := by decide +kernel
theorem dX11_isNought_36 : decode cX11_isNought 36 = .ok (.iadd, 1) := by decide +kernel
theorem dX11_isNought_37 : decode cX11_isNought 37 = .ok (.laload, 1) := by decide +kernel
theorem dX11_isNought_38 : decode cX11_isNought 38 = .ok (.lconst 0, 1) := by decide +kernel
theorem dX11_isNought_39 : decode cX11_isNought 39 = .ok (.lcmp, 1) := by decide +kernel
theorem dX11_isNought_40 : decode cX11_isNought 40 = .ok (.ifCond .ne 7, 3) := by decide +kernel
theorem dX11_isNought_43 : decode cX11_isNought 43 = .ok (.iconst 1, 1) := by decide +kernel
theorem dX11_isNought_44 : decode cX11_isNought 44 = .ok (.goto 4, 3) := by decide +kernel
theorem dX11_isNought_47 : decode cX11_isNought 47 = .ok (.iconst 0, 1) := by decide +kernel
theorem dX11_isNought_48 : decode cX11_isNought 48 = .ok (.ireturn, 1) := by decide +kernel
theorem dX11_rankOf_0 : decode cX11_rankOf 0 = .ok (.iconst 0, 1) := by decide +kernel
theorem dX11_rankOf_1 : decode cX11_rankOf 1 = .ok (.istore_n 1, 1) := by decide +kernel
theorem dX11_rankOf_2 : decode cX11_rankOf 2 = .ok (.iconst 0, 1) := by decide +kernel
theorem dX11_rankOf_3 : decode cX11_rankOf 3 = .ok (.istore_n 2, 1) := by decide +kernel
theorem dX11_rankOf_4 : decode cX11_rankOf 4 = .ok (.iload_n 2, 1) := by decide +kernel
theorem dX11_rankOf_5 : decode cX11_rankOf 5 = .ok (.aload_n 0, 1) := by decide +kernel
theorem dX11_rankOf_6 : decode cX11_rankOf 6 = .ok (.getfield 38, 3) := by decide +kernel
theorem dX11_rankOf_9 : decode cX11_rankOf 9 = .ok (.if_icmp .ge 91, 3) := by decide +kernel
theorem dX11_rankOf_12 : decode cX11_rankOf 12 = .ok (.iload_n 1, 1) := by decide +kernel
theorem dX11_rankOf_13 : decode cX11_rankOf 13 = .ok (.ifCond .ne 15, 3) := by decide +kernel
theorem dX11_rankOf_16 : decode cX11_rankOf 16 = .ok (.aload_n 0, 1) := by decide +kernel
theorem dX11_rankOf_17 : decode cX11_rankOf 17 = .ok (.iload_n 2, 1) := by decide +kernel
theorem dX11_rankOf_18 : decode cX11_rankOf 18 = .ok (.invokevirtual 173, 3) := by decide +kernel
theorem dX11_rankOf_21 : decode cX11_rankOf 21 = .ok (.ifCond .ne 7, 3) := by decide +kernel
theorem dX11_rankOf_24 : decode cX11_rankOf 24 = .ok (.iconst 1, 1) := by decide +kernel
theorem dX11_rankOf_25 : decode cX11_rankOf 25 = .ok (.goto 4, 3) := by decide +kernel
theorem dX11_rankOf_28 : decode cX11_rankOf 28 = .ok (.iload_n 1, 1) := by decide +kernel
theorem dX11_rankOf_29 : decode cX11_rankOf 29 = .ok (.istore_n 1, 1) := by decide +kernel
theorem dX11_rankOf_30 : decode cX11_rankOf 30 = .ok (.iconst 0, 1) := by decide +kernel
theorem dX11_rankOf_31 : decode cX11_rankOf 31 = .ok (.istore_n 3, 1) := by decide +kernel
theorem dX11_rankOf_32 : decode cX11_rankOf 32 = .ok (.iload_n 3, 1) := by decide +kernel
theorem dX11_rankOf_33 : decode cX11_rankOf 33 = .ok (.iload_n 2, 1) := by decide +kernel
theorem dX11_rankOf_34 : decode cX11_rankOf 34 = .ok (.if_icmp .ge 60, 3) := by decide +kernel
theorem dX11_rankOf_37 : decode cX11_rankOf 37 = .ok (.aload_n 0, 1) := by decide +kernel
theorem dX11_rankOf_38 : decode cX11_rankOf 38 = .ok (.iload_n 2, 1) := by decide +kernel
theorem dX11_rankOf_39 : decode cX11_rankOf 39 = .ok (.iload_n 3, 1) := by decide +kernel
theorem dX11_rankOf_40 : decode cX11_rankOf 40 = .ok (.invokevirtual 176, 3) := by decide +kernel
theorem dX11_rankOf_43 : decode cX11_rankOf 43 = .ok (.ifCond .ne 6, 3) := by decide +kernel
theorem dX11_rankOf_46 : decode cX11_rankOf 46 = .ok (.goto 42, 3) := by decide +kernel
theorem dX11_rankOf_49 : decode cX11_rankOf 49 = .ok (.iload_n 1, 1) := by decide +kernel
theorem dX11_rankOf_50 : decode cX11_rankOf 50 = .ok (.iconst 2, 1) := by decide +kernel
theorem dX11_rankOf_51 : decode cX11_rankOf 51 = .ok (.if_icmp .ge 7, 3) := by decide +kernel
theorem dX11_rankOf_54 : decode cX11_rankOf 54 = .ok (.iconst 2, 1) := by decide +kernel
theorem dX11_rankOf_55 : decode cX11_rankOf 55 = .ok (.goto 4, 3) := by decide +kernel
theorem dX11_rankOf_58 : decode cX11_rankOf 58 = .ok (.iload_n 1, 1) := by decide +kernel
theorem dX11_rankOf_59 : decode cX11_rankOf 59 = .ok (.istore_n 1, 1) := by decide +kernel
theorem dX11_rankOf_60 : decode cX11_rankOf 60 = .ok (.iconst 0, 1) := by decide +kernel
theorem dX11_rankOf_61 : decode cX11_rankOf 61 = .ok (.istore 4, 2) := by decide +kernel
theorem dX11_rankOf_63 : decode cX11_rankOf 63 = .ok (.iload 4, 2) := by decide +kernel
theorem dX11_rankOf_65 : decode cX11_rankOf 65 = .ok (.iload_n 3, 1) := by decide +kernel
theorem dX11_rankOf_66 : decode cX11_rankOf 66 = .ok (.if_icmp .ge 22, 3) := by decide +kernel
theorem dX11_rankOf_69 : decode cX11_rankOf 69 = .ok (.aload_n 0, 1) := by decide +kernel
theorem dX11_rankOf_70 : decode cX11_rankOf 70 = .ok (.iload 4, 2) := by decide +kernel
theorem dX11_rankOf_72 : decode cX11_rankOf 72 = .ok (.invokevirtual 179, 3) := by decide +kernel
theorem dX11_rankOf_75 : decode cX11_rankOf 75 = .ok (.lconst 0, 1) := by decide +kernel
theorem dX11_rankOf_76 : decode cX11_rankOf 76 = .ok (.lcmp, 1) := by decide +kernel
theorem dX11_rankOf_77 : decode cX11_rankOf 77 = .ok (.ifCond .eq 5, 3) := by decide +kernel
theorem dX11_rankOf_80 : decode cX11_rankOf 80 = .ok (.iconst 3, 1) := by decide +kernel
theorem dX11_rankOf_81 : decode cX11_rankOf 81 = .ok (.ireturn, 1) := by decide +kernel
theorem dX11_rankOf_82 : decode cX11_rankOf 82 = .ok (.iinc 4 1, 3) := by decide +kernel
theorem dX11_rankOf_85 : decode cX11_rankOf 85 = .ok (.goto (-22), 3) := by decide +kernel
theorem dX11_rankOf_88 : decode cX11_rankOf 88 = .ok (.iinc 3 1, 3) := by decide +kernel
theorem dX11_rankOf_91 : decode cX11_rankOf 91 = .ok (.goto (-59), 3) := by decide +kernel
theorem dX11_rankOf_94 : decode cX11_rankOf 94 = .ok (.iinc 2 1, 3) := by decide +kernel
theorem dX11_rankOf_97 : decode cX11_rankOf 97 = .ok (.goto (-93), 3) := by decide +kernel
theorem dX11_rankOf_100 : decode cX11_rankOf 100 = .ok (.iload_n 1, 1) := by decide +kernel
theorem dX11_rankOf_101 : decode cX11_rankOf 101 = .ok (.ireturn, 1) := by decide +kernel
theorem dX11_rank_0 : decode cX11_rank 0 = .ok (.aload_n 0, 1) := by decide +kernel
theorem dX11_rank_1 : decode cX11_rank 1 = .ok (.iconst (-1), 1) := by decide +kernel
theorem dX11_rank_2 : decode cX11_rank 2 = .ok (.iconst 0, 1) := by decide +kernel
theorem dX11_rank_3 : decode cX11_rank 3 = .ok (.invokevirtual 183, 3) := by decide +kernel
theorem dX11_rank_6 : decode cX11_rank 6 = .ok (.aload_n 0, 1) := by decide +kernel
theorem dX11_rank_7 : decode cX11_rank 7 = .ok (.invokevirtual 187, 3) := by decide +kernel
theorem dX11_rank_10 : decode cX11_rank 10 = .ok (.ireturn, 1) := by decide +kernel
theorem dX11_divisor_0 : decode cX11_divisor 0 = .ok (.aload_n 0, 1) := by decide +kernel
theorem dX11_divisor_1 : decode cX11_divisor 1 = .ok (.lload_n 1, 1) := by decide +kernel
theorem dX11_divisor_2 : decode cX11_divisor 2 = .ok (.invokevirtual 191, 3) := by decide +kernel
theorem dX11_divisor_5 : decode cX11_divisor 5 = .ok (.lstore 5, 2) := by decide +kernel
theorem dX11_divisor_7 : decode cX11_divisor 7 = .ok (.aload_n 0, 1) := by decide +kernel
theorem dX11_divisor_8 : decode cX11_divisor 8 = .ok (.lload_n 3, 1) := by decide +kernel
theorem dX11_divisor_9 : decode cX11_divisor 9 = .ok (.invokevirtual 191, 3) := by decide +kernel
theorem dX11_divisor_12 : decode cX11_divisor 12 = .ok (.lstore 7, 2) := by decide +kernel
theorem dX11_divisor_14 : decode cX11_divisor 14 = .ok (.lload 7, 2) := by decide +kernel
theorem dX11_divisor_16 : decode cX11_divisor 16 = .ok (.lconst 0, 1) := by decide +kernel
theorem dX11_divisor_17 : decode cX11_divisor 17 = .ok (.lcmp, 1) := by decide +kernel
theorem dX11_divisor_18 : decode cX11_divisor 18 = .ok (.ifCond .eq 21, 3) := by decide +kernel
theorem dX11_divisor_21 : decode cX11_divisor 21 = .ok (.lload 5, 2) := by decide +kernel
theorem dX11_divisor_23 : decode cX11_divisor 23 = .ok (.lload 7, 2) := by decide +kernel
theorem dX11_divisor_25 : decode cX11_divisor 25 = .ok (.lrem, 1) := by decide +kernel
theorem dX11_divisor_26 : decode cX11_divisor 26 = .ok (.lstore 9, 2) := by decide +kernel
theorem dX11_divisor_28 : decode cX11_divisor 28 = .ok (.lload 7, 2) := by decide +kernel
theorem dX11_divisor_30 : decode cX11_divisor 30 = .ok (.lstore 5, 2) := by decide +kernel
theorem dX11_divisor_32 : decode cX11_divisor 32 = .ok (.lload 9, 2) := by decide +kernel
theorem dX11_divisor_34 : decode cX11_divisor 34 = .ok (.lstore 7, 2) := by decide +kernel
theorem dX11_divisor_36 : decode cX11_divisor 36 = .ok (.goto (-22), 3) := by decide +kernel
theorem dX11_divisor_39 : decode cX11_divisor 39 = .ok (.lload 5, 2) := by decide +kernel
theorem dX11_divisor_41 : decode cX11_divisor 41 = .ok (.lreturn, 1) := by decide +kernel
theorem dX11_findHidden_0 : decode cX11_findHidden 0 = .ok (.iconst 0, 1) := by decide +kernel
theorem dX11_findHidden_1 : decode cX11_findHidden 1 = .ok (.istore_n 1, 1) := by decide +kernel
theorem dX11_findHidden_2 : decode cX11_findHidden 2 = .ok (.iload_n 1, 1) := by decide +kernel
theorem dX11_findHidden_3 : decode cX11_findHidden 3 = .ok (.aload_n 0, 1) := by decide +kernel
theorem dX11_findHidden_4 : decode cX11_findHidden 4 = .ok (.getfield 38, 3) := by decide +kernel
theorem dX11_findHidden_7 : decode cX11_findHidden 7 = .ok (.if_icmp .ge 32, 3) := by decide +kernel
theorem dX11_findHidden_10 : decode cX11_findHidden 10 = .ok (.iconst 0, 1) := by decide +kernel
theorem dX11_findHidden_11 : decode cX11_findHidden 11 = .ok (.istore_n 2, 1) := by decide +kernel
theorem dX11_findHidden_12 : decode cX11_findHidden 12 = .ok (.iload_n 2, 1) := by decide +kernel
theorem dX11_findHidden_13 : decode cX11_findHidden 13 = .ok (.iload_n 1, 1) := by decide +kernel
theorem dX11_findHidden_14 : decode cX11_findHidden 14 = .ok (.if_icmp .ge 19, 3) := by decide +kernel
theorem dX11_findHidden_17 : decode cX11_findHidden 17 = .ok (.aload_n 0, 1) := by decide +kernel
theorem dX11_findHidden_18 : decode cX11_findHidden 18 = .ok (.iload_n 1, 1) := by decide +kernel
theorem dX11_findHidden_19 : decode cX11_findHidden 19 = .ok (.iload_n 2, 1) := by decide +kernel
theorem dX11_findHidden_20 : decode cX11_findHidden 20 = .ok (.invokevirtual 176, 3) := by decide +kernel
theorem dX11_findHidden_23 : decode cX11_findHidden 23 = .ok (.ifCond .eq 4, 3) := by decide +kernel
theorem dX11_findHidden_26 : decode cX11_findHidden 26 = .ok (.return_, 1) := by decide +kernel
theorem dX11_findHidden_27 : decode cX11_findHidden 27 = .ok (.iinc 2 1, 3) := by decide +kernel
theorem dX11_findHidden_30 : decode cX11_findHidden 30 = .ok (.goto (-18), 3) := by decide +kernel
theorem dX11_findHidden_33 : decode cX11_findHidden 33 = .ok (.iinc 1 1, 3) := by decide +kernel
theorem dX11_findHidden_36 : decode cX11_findHidden 36 = .ok (.goto (-34), 3) := by decide +kernel
theorem dX11_findHidden_39 : decode cX11_findHidden 39 = .ok (.return_, 1) := by decide +kernel
theorem dX11_hidden_0 : decode cX11_hidden 0 = .ok (.aload_n 0, 1) := by decide +kernel
theorem dX11_hidden_1 : decode cX11_hidden 1 = .ok (.aload_n 0, 1) := by decide +kernel
theorem dX11_hidden_2 : decode cX11_hidden 2 = .ok (.iload_n 1, 1) := by decide +kernel
theorem dX11_hidden_3 : decode cX11_hidden 3 = .ok (.iconst 0, 1) := by decide +kernel
theorem dX11_hidden_4 : decode cX11_hidden 4 = .ok (.iconst 2, 1) := by decide +kernel
theorem dX11_hidden_5 : decode cX11_hidden 5 = .ok (.invokevirtual 130, 3) := by decide +kernel
theorem dX11_hidden_8 : decode cX11_hidden 8 = .ok (.ifCond .eq 19, 3) := by decide +kernel
theorem dX11_hidden_11 : decode cX11_hidden 11 = .ok (.aload_n 0, 1) := by decide +kernel
theorem dX11_hidden_12 : decode cX11_hidden 12 = .ok (.invokevirtual 195, 3) := by decide +kernel
theorem dX11_hidden_15 : decode cX11_hidden 15 = .ok (.iconst 2, 1) := by decide +kernel
theorem dX11_hidden_16 : decode cX11_hidden 16 = .ok (.if_icmp .ne 7, 3) := by decide +kernel
theorem dX11_hidden_19 : decode cX11_hidden 19 = .ok (.iconst 0, 1) := by decide +kernel
theorem dX11_hidden_20 : decode cX11_hidden 20 = .ok (.goto 8, 3) := by decide +kernel
theorem dX11_hidden_23 : decode cX11_hidden 23 = .ok (.iconst 2, 1) := by decide +kernel
theorem dX11_hidden_24 : decode cX11_hidden 24 = .ok (.goto 4, 3) := by decide +kernel
theorem dX11_hidden_27 : decode cX11_hidden 27 = .ok (.iconst 1, 1) := by decide +kernel
theorem dX11_hidden_28 : decode cX11_hidden 28 = .ok (.putfield 7, 3) := by decide +kernel
theorem dX11_hidden_31 : decode cX11_hidden 31 = .ok (.aload_n 0, 1) := by decide +kernel
theorem dX11_hidden_32 : decode cX11_hidden 32 = .ok (.getfield 7, 3) := by decide +kernel
theorem dX11_hidden_35 : decode cX11_hidden 35 = .ok (.ifCond .le 5, 3) := by decide +kernel
theorem dX11_hidden_38 : decode cX11_hidden 38 = .ok (.lconst 0, 1) := by decide +kernel
theorem dX11_hidden_39 : decode cX11_hidden 39 = .ok (.lreturn, 1) := by decide +kernel
theorem dX11_hidden_40 : decode cX11_hidden 40 = .ok (.aload_n 0, 1) := by decide +kernel
theorem dX11_hidden_41 : decode cX11_hidden 41 = .ok (.invokevirtual 198, 3) := by decide +kernel
theorem dX11_hidden_44 : decode cX11_hidden 44 = .ok (.aload_n 0, 1) := by decide +kernel
theorem dX11_hidden_45 : decode cX11_hidden 45 = .ok (.aload_n 0, 1) := by decide +kernel
theorem dX11_hidden_46 : decode cX11_hidden 46 = .ok (.aload_n 0, 1) := by decide +kernel
theorem dX11_hidden_47 : decode cX11_hidden 47 = .ok (.getfield 45, 3) := by decide +kernel
theorem dX11_hidden_50 : decode cX11_hidden 50 = .ok (.iconst 0, 1) := by decide +kernel
theorem dX11_hidden_51 : decode cX11_hidden 51 = .ok (.laload, 1) := by decide +kernel
theorem dX11_hidden_52 : decode cX11_hidden 52 = .ok (.aload_n 0, 1) := by decide +kernel
theorem dX11_hidden_53 : decode cX11_hidden 53 = .ok (.getfield 45, 3) := by decide +kernel
theorem dX11_hidden_56 : decode cX11_hidden 56 = .ok (.iconst 1, 1) := by decide +kernel
theorem dX11_hidden_57 : decode cX11_hidden 57 = .ok (.laload, 1) := by decide +kernel
theorem dX11_hidden_58 : decode cX11_hidden 58 = .ok (.invokevirtual 201, 3) := by decide +kernel
theorem dX11_hidden_61 : decode cX11_hidden 61 = .ok (.aload_n 0, 1) := by decide +kernel
theorem dX11_hidden_62 : decode cX11_hidden 62 = .ok (.getfield 45, 3) := by decide +kernel
theorem dX11_hidden_65 : decode cX11_hidden 65 = .ok (.iconst 2, 1) := by decide +kernel
theorem dX11_hidden_66 : decode cX11_hidden 66 = .ok (.laload, 1) := by decide +kernel
theorem dX11_hidden_67 : decode cX11_hidden 67 = .ok (.invokevirtual 201, 3) := by decide +kernel
theorem dX11_hidden_70 : decode cX11_hidden 70 = .ok (.lstore_n 2, 1) := by decide +kernel
theorem dX11_hidden_71 : decode cX11_hidden 71 = .ok (.aload_n 0, 1) := by decide +kernel
theorem dX11_hidden_72 : decode cX11_hidden 72 = .ok (.getfield 45, 3) := by decide +kernel
theorem dX11_hidden_75 : decode cX11_hidden 75 = .ok (.iconst 2, 1) := by decide +kernel
theorem dX11_hidden_76 : decode cX11_hidden 76 = .ok (.laload, 1) := by decide +kernel
theorem dX11_hidden_77 : decode cX11_hidden 77 = .ok (.lconst 0, 1) := by decide +kernel
theorem dX11_hidden_78 : decode cX11_hidden 78 = .ok (.lcmp, 1) := by decide +kernel
theorem dX11_hidden_79 : decode cX11_hidden 79 = .ok (.ifCond .eq 12, 3) := by decide +kernel
theorem dX11_hidden_82 : decode cX11_hidden 82 = .ok (.aload_n 0, 1) := by decide +kernel
theorem dX11_hidden_83 : decode cX11_hidden 83 = .ok (.getfield 45, 3) := by decide +kernel
theorem dX11_hidden_86 : decode cX11_hidden 86 = .ok (.iconst 2, 1) := by decide +kernel
theorem dX11_hidden_87 : decode cX11_hidden 87 = .ok (.laload, 1) := by decide +kernel
theorem dX11_hidden_88 : decode cX11_hidden 88 = .ok (.goto 29, 3) := by decide +kernel
theorem dX11_hidden_91 : decode cX11_hidden 91 = .ok (.aload_n 0, 1) := by decide +kernel
theorem dX11_hidden_92 : decode cX11_hidden 92 = .ok (.getfield 45, 3) := by decide +kernel
theorem dX11_hidden_95 : decode cX11_hidden 95 = .ok (.iconst 0, 1) := by decide +kernel
theorem dX11_hidden_96 : decode cX11_hidden 96 = .ok (.laload, 1) := by decide +kernel
theorem dX11_hidden_97 : decode cX11_hidden 97 = .ok (.lconst 0, 1) := by decide +kernel
theorem dX11_hidden_98 : decode cX11_hidden 98 = .ok (.lcmp, 1) := by decide +kernel
theorem dX11_hidden_99 : decode cX11_hidden 99 = .ok (.ifCond .eq 12, 3) := by decide +kernel
theorem dX11_hidden_102 : decode cX11_hidden 102 = .ok (.aload_n 0, 1) := by decide +kernel
theorem dX11_hidden_103 : decode cX11_hidden 103 = .ok (.getfield 45, 3) := by decide +kernel
theorem dX11_hidden_106 : decode cX11_hidden 106 = .ok (.iconst 0, 1) := by decide +kernel
theorem dX11_hidden_107 : decode cX11_hidden 107 = .ok (.laload, 1) := by decide +kernel
theorem dX11_hidden_108 : decode cX11_hidden 108 = .ok (.goto 9, 3) := by decide +kernel
theorem dX11_hidden_111 : decode cX11_hidden 111 = .ok (.aload_n 0, 1) := by decide +kernel
theorem dX11_hidden_112 : decode cX11_hidden 112 = .ok (.getfield 45, 3) := by decide +kernel
theorem dX11_hidden_115 : decode cX11_hidden 115 = .ok (.iconst 1, 1) := by decide +kernel
theorem dX11_hidden_116 : decode cX11_hidden 116 = .ok (.laload, 1) := by decide +kernel
theorem dX11_hidden_117 : decode cX11_hidden 117 = .ok (.lstore 4, 2) := by decide +kernel
theorem dX11_hidden_119 : decode cX11_hidden 119 = .ok (.aload_n 0, 1) := by decide +kernel
theorem dX11_hidden_120 : decode cX11_hidden 120 = .ok (.getfield 45, 3) := by decide +kernel
theorem dX11_hidden_123 : decode cX11_hidden 123 = .ok (.iload_n 1, 1) := by decide +kernel
theorem dX11_hidden_124 : decode cX11_hidden 124 = .ok (.laload, 1) := by decide +kernel
theorem dX11_hidden_125 : decode cX11_hidden 125 = .ok (.lload 4, 2) := by decide +kernel
theorem dX11_hidden_127 : decode cX11_hidden 127 = .ok (.lconst 0, 1) := by decide +kernel
theorem dX11_hidden_128 : decode cX11_hidden 128 = .ok (.lcmp, 1) := by decide +kernel
theorem dX11_hidden_129 : decode cX11_hidden 129 = .ok (.ifCond .ge 8, 3) := by decide +kernel
theorem dX11_hidden_132 : decode cX11_hidden 132 = .ok (.lload_n 2, 1) := by decide +kernel
theorem dX11_hidden_133 : decode cX11_hidden 133 = .ok (.lneg, 1) := by decide +kernel
theorem dX11_hidden_134 : decode cX11_hidden 134 = .ok (.goto 4, 3) := by decide +kernel
theorem dX11_hidden_137 : decode cX11_hidden 137 = .ok (.lload_n 2, 1) := by decide +kernel
theorem dX11_hidden_138 : decode cX11_hidden 138 = .ok (.ldiv, 1) := by decide +kernel
theorem dX11_hidden_139 : decode cX11_hidden 139 = .ok (.lreturn, 1) := by decide +kernel
theorem dX11_sideOf_0 : decode cX11_sideOf 0 = .ok (.iconst 1, 1) := by decide +kernel
theorem dX11_sideOf_1 : decode cX11_sideOf 1 = .ok (.istore_n 1, 1) := by decide +kernel
theorem dX11_sideOf_2 : decode cX11_sideOf 2 = .ok (.iconst 1, 1) := by decide +kernel
theorem dX11_sideOf_3 : decode cX11_sideOf 3 = .ok (.istore_n 2, 1) := by decide +kernel
theorem dX11_sideOf_4 : decode cX11_sideOf 4 = .ok (.iconst 0, 1) := by decide +kernel
theorem dX11_sideOf_5 : decode cX11_sideOf 5 = .ok (.istore_n 3, 1) := by decide +kernel
theorem dX11_sideOf_6 : decode cX11_sideOf 6 = .ok (.iload_n 3, 1) := by decide +kernel
theorem dX11_sideOf_7 : decode cX11_sideOf 7 = .ok (.aload_n 0, 1) := by decide +kernel
theorem dX11_sideOf_8 : decode cX11_sideOf 8 = .ok (.getfield 38, 3) := by decide +kernel
theorem dX11_sideOf_11 : decode cX11_sideOf 11 = .ok (.if_icmp .ge 50, 3) := by decide +kernel
theorem dX11_sideOf_14 : decode cX11_sideOf 14 = .ok (.aload_n 0, 1) := by decide +kernel
theorem dX11_sideOf_15 : decode cX11_sideOf 15 = .ok (.iload_n 3, 1) := by decide +kernel
theorem dX11_sideOf_16 : decode cX11_sideOf 16 = .ok (.invokevirtual 179, 3) := by decide +kernel
theorem dX11_sideOf_19 : decode cX11_sideOf 19 = .ok (.lstore 4, 2) := by decide +kernel
theorem dX11_sideOf_21 : decode cX11_sideOf 21 = .ok (.iload_n 1, 1) := by decide +kernel
theorem dX11_sideOf_22 : decode cX11_sideOf 22 = .ok (.ifCond .eq 14, 3) := by decide +kernel
theorem dX11_sideOf_25 : decode cX11_sideOf 25 = .ok (.lload 4, 2) := by decide +kernel
theorem dX11_sideOf_27 : decode cX11_sideOf 27 = .ok (.lconst 0, 1) := by decide +kernel
theorem dX11_sideOf_28 : decode cX11_sideOf 28 = .ok (.lcmp, 1) := by decide +kernel
theorem dX11_sideOf_29 : decode cX11_sideOf 29 = .ok (.ifCond .lt 7, 3) := by decide +kernel
theorem dX11_sideOf_32 : decode cX11_sideOf 32 = .ok (.iconst 1, 1) := by decide +kernel
theorem dX11_sideOf_33 : decode cX11_sideOf 33 = .ok (.goto 4, 3) := by decide +kernel
theorem dX11_sideOf_36 : decode cX11_sideOf 36 = .ok (.iconst 0, 1) := by decide +kernel
theorem dX11_sideOf_37 : decode cX11_sideOf 37 = .ok (.istore_n 1, 1) := by decide +kernel
theorem dX11_sideOf_38 : decode cX11_sideOf 38 = .ok (.iload_n 2, 1) := by decide +kernel
theorem dX11_sideOf_39 : decode cX11_sideOf 39 = .ok (.ifCond .eq 14, 3) := by decide +kernel
theorem dX11_sideOf_42 : decode cX11_sideOf 42 = .ok (.lload 4, 2) := by decide +kernel
theorem dX11_sideOf_44 : decode cX11_sideOf 44 = .ok (.lconst 0, 1) := by decide +kernel
theorem dX11_sideOf_45 : decode cX11_sideOf 45 = .ok (.lcmp, 1) := by decide +kernel
theorem dX11_sideOf_46 : decode cX11_sideOf 46 = .ok (.ifCond .gt 7, 3) := by decide +kernel
theorem dX11_sideOf_49 : decode cX11_sideOf 49 = .ok (.iconst 1, 1) := by decide +kernel
theorem dX11_sideOf_50 : decode cX11_sideOf 50 = .ok (.goto 4, 3) := by decide +kernel
theorem dX11_sideOf_53 : decode cX11_sideOf 53 = .ok (.iconst 0, 1) := by decide +kernel
theorem dX11_sideOf_54 : decode cX11_sideOf 54 = .ok (.istore_n 2, 1) := by decide +kernel
theorem dX11_sideOf_55 : decode cX11_sideOf 55 = .ok (.iinc 3 1, 3) := by decide +kernel
theorem dX11_sideOf_58 : decode cX11_sideOf 58 = .ok (.goto (-52), 3) := by decide +kernel
theorem dX11_sideOf_61 : decode cX11_sideOf 61 = .ok (.iload_n 1, 1) := by decide +kernel
theorem dX11_sideOf_62 : decode cX11_sideOf 62 = .ok (.ifCond .eq 7, 3) := by decide +kernel
theorem dX11_sideOf_65 : decode cX11_sideOf 65 = .ok (.iconst 1, 1) := by decide +kernel
theorem dX11_sideOf_66 : decode cX11_sideOf 66 = .ok (.goto 12, 3) := by decide +kernel
theorem dX11_sideOf_69 : decode cX11_sideOf 69 = .ok (.iload_n 2, 1) := by decide +kernel
theorem dX11_sideOf_70 : decode cX11_sideOf 70 = .ok (.ifCond .eq 7, 3) := by decide +kernel
theorem dX11_sideOf_73 : decode cX11_sideOf 73 = .ok (.iconst (-1), 1) := by decide +kernel
theorem dX11_sideOf_74 : decode cX11_sideOf 74 = .ok (.goto 4, 3) := by decide +kernel
theorem dX11_sideOf_77 : decode cX11_sideOf 77 = .ok (.iconst 0, 1) := by decide +kernel
theorem dX11_sideOf_78 : decode cX11_sideOf 78 = .ok (.ireturn, 1) := by decide +kernel
theorem dX11_isForm_0 : decode cX11_isForm 0 = .ok (.aload_n 0, 1) := by decide +kernel
theorem dX11_isForm_1 : decode cX11_isForm 1 = .ok (.invokevirtual 187, 3) := by decide +kernel
theorem dX11_isForm_4 : decode cX11_isForm 4 = .ok (.iconst 3, 1) := by decide +kernel
theorem dX11_isForm_5 : decode cX11_isForm 5 = .ok (.if_icmp .ge 5, 3) := by decide +kernel
theorem dX11_isForm_8 : decode cX11_isForm 8 = .ok (.iconst 0, 1) := by decide +kernel
theorem dX11_isForm_9 : decode cX11_isForm 9 = .ok (.ireturn, 1) := by decide +kernel
theorem dX11_isForm_10 : decode cX11_isForm 10 = .ok (.iconst 0, 1) := by decide +kernel
theorem dX11_isForm_11 : decode cX11_isForm 11 = .ok (.istore_n 1, 1) := by decide +kernel
theorem dX11_isForm_12 : decode cX11_isForm 12 = .ok (.iload_n 1, 1) := by decide +kernel
theorem dX11_isForm_13 : decode cX11_isForm 13 = .ok (.aload_n 0, 1) := by decide +kernel
theorem dX11_isForm_14 : decode cX11_isForm 14 = .ok (.getfield 38, 3) := by decide +kernel
theorem dX11_isForm_17 : decode cX11_isForm 17 = .ok (.if_icmp .ge 40, 3) := by decide +kernel
theorem dX11_isForm_20 : decode cX11_isForm 20 = .ok (.iconst 0, 1) := by decide +kernel
theorem dX11_isForm_21 : decode cX11_isForm 21 = .ok (.istore_n 2, 1) := by decide +kernel
theorem dX11_isForm_22 : decode cX11_isForm 22 = .ok (.iload_n 2, 1) := by decide +kernel
theorem dX11_isForm_23 : decode cX11_isForm 23 = .ok (.iload_n 1, 1) := by decide +kernel
theorem dX11_isForm_24 : decode cX11_isForm 24 = .ok (.if_icmp .ge 27, 3) := by decide +kernel
theorem dX11_isForm_27 : decode cX11_isForm 27 = .ok (.aload_n 0, 1) := by decide +kernel
theorem dX11_isForm_28 : decode cX11_isForm 28 = .ok (.iload_n 1, 1) := by decide +kernel
theorem dX11_isForm_29 : decode cX11_isForm 29 = .ok (.iload_n 2, 1) := by decide +kernel
theorem dX11_isForm_30 : decode cX11_isForm 30 = .ok (.invokevirtual 176, 3) := by decide +kernel
theorem dX11_isForm_33 : decode cX11_isForm 33 = .ok (.ifCond .eq 12, 3) := by decide +kernel
theorem dX11_isForm_36 : decode cX11_isForm 36 = .ok (.aload_n 0, 1) := by decide +kernel
theorem dX11_isForm_37 : decode cX11_isForm 37 = .ok (.invokevirtual 205, 3) := by decide +kernel
theorem dX11_isForm_40 : decode cX11_isForm 40 = .ok (.ifCond .eq 5, 3) := by decide +kernel
theorem dX11_isForm_43 : decode cX11_isForm 43 = .ok (.iconst 0, 1) := by decide +kernel
theorem dX11_isForm_44 : decode cX11_isForm 44 = .ok (.ireturn, 1) := by decide +kernel
theorem dX11_isForm_45 : decode cX11_isForm 45 = .ok (.iinc 2 1, 3) := by decide +kernel
theorem dX11_isForm_48 : decode cX11_isForm 48 = .ok (.goto (-26), 3) := by decide +kernel
theorem dX11_isForm_51 : decode cX11_isForm 51 = .ok (.iinc 1 1, 3) := by decide +kernel
theorem dX11_isForm_54 : decode cX11_isForm 54 = .ok (.goto (-42), 3) := by decide +kernel
theorem dX11_isForm_57 : decode cX11_isForm 57 = .ok (.iconst 1, 1) := by decide +kernel
theorem dX11_isForm_58 : decode cX11_isForm 58 = .ok (.ireturn, 1) := by decide +kernel
theorem dX11_form_0 : decode cX11_form 0 = .ok (.aload_n 0, 1) := by decide +kernel
theorem dX11_form_1 : decode cX11_form 1 = .ok (.iconst (-1), 1) := by decide +kernel
theorem dX11_form_2 : decode cX11_form 2 = .ok (.iconst 1, 1) := by decide +kernel
theorem dX11_form_3 : decode cX11_form 3 = .ok (.invokevirtual 183, 3) := by decide +kernel
theorem dX11_form_6 : decode cX11_form 6 = .ok (.aload_n 0, 1) := by decide +kernel
theorem dX11_form_7 : decode cX11_form 7 = .ok (.invokevirtual 208, 3) := by decide +kernel
theorem dX11_form_10 : decode cX11_form 10 = .ok (.ireturn, 1) := by decide +kernel
theorem dX11_without_0 : decode cX11_without 0 = .ok (.aload_n 0, 1) := by decide +kernel
theorem dX11_without_1 : decode cX11_without 1 = .ok (.iload_n 1, 1) := by decide +kernel
theorem dX11_without_2 : decode cX11_without 2 = .ok (.invokevirtual 142, 3) := by decide +kernel
theorem dX11_without_5 : decode cX11_without 5 = .ok (.ifCond .ne 5, 3) := by decide +kernel
theorem dX11_without_8 : decode cX11_without 8 = .ok (.iconst (-1), 1) := by decide +kernel
theorem dX11_without_9 : decode cX11_without 9 = .ok (.ireturn, 1) := by decide +kernel
theorem dX11_without_10 : decode cX11_without 10 = .ok (.aload_n 0, 1) := by decide +kernel
theorem dX11_without_11 : decode cX11_without 11 = .ok (.iload_n 1, 1) := by decide +kernel
theorem dX11_without_12 : decode cX11_without 12 = .ok (.iconst 1, 1) := by decide +kernel
theorem dX11_without_13 : decode cX11_without 13 = .ok (.invokevirtual 183, 3) := by decide +kernel
theorem dX11_without_16 : decode cX11_without 16 = .ok (.aload_n 0, 1) := by decide +kernel
theorem dX11_without_17 : decode cX11_without 17 = .ok (.invokevirtual 208, 3) := by decide +kernel
theorem dX11_without_20 : decode cX11_without 20 = .ok (.ireturn, 1) := by decide +kernel
theorem dX11_prepare_0 : decode cX11_prepare 0 = .ok (.aload_n 0, 1) := by decide +kernel
theorem dX11_prepare_1 : decode cX11_prepare 1 = .ok (.iconst 0, 1) := by decide +kernel
theorem dX11_prepare_2 : decode cX11_prepare 2 = .ok (.putfield 38, 3) := by decide +kernel
theorem dX11_prepare_5 : decode cX11_prepare 5 = .ok (.iconst 0, 1) := by decide +kernel
theorem dX11_prepare_6 : decode cX11_prepare 6 = .ok (.istore_n 1, 1) := by decide +kernel
theorem dX11_prepare_7 : decode cX11_prepare 7 = .ok (.iload_n 1, 1) := by decide +kernel
theorem dX11_prepare_8 : decode cX11_prepare 8 = .ok (.iconst 3, 1) := by decide +kernel
theorem dX11_prepare_9 : decode cX11_prepare 9 = .ok (.if_icmp .ge 16, 3) := by decide +kernel
theorem dX11_prepare_12 : decode cX11_prepare 12 = .ok (.aload_n 0, 1) := by decide +kernel
theorem dX11_prepare_13 : decode cX11_prepare 13 = .ok (.getfield 57, 3) := by decide +kernel
theorem dX11_prepare_16 : decode cX11_prepare 16 = .ok (.iload_n 1, 1) := by decide +kernel
theorem dX11_prepare_17 : decode cX11_prepare 17 = .ok (.lconst 0, 1) := by decide +kernel
theorem dX11_prepare_18 : decode cX11_prepare 18 = .ok (.lastore, 1) := by decide +kernel
theorem dX11_prepare_19 : decode cX11_prepare 19 = .ok (.iinc 1 1, 3) := by decide +kernel
theorem dX11_prepare_22 : decode cX11_prepare 22 = .ok (.goto (-15), 3) := by decide +kernel
theorem dX11_prepare_25 : decode cX11_prepare 25 = .ok (.iconst 0, 1) := by decide +kernel
theorem dX11_prepare_26 : decode cX11_prepare 26 = .ok (.istore_n 1, 1) := by decide +kernel
theorem dX11_prepare_27 : decode cX11_prepare 27 = .ok (.iload_n 1, 1) := by decide +kernel
theorem dX11_prepare_28 : decode cX11_prepare 28 = .ok (.aload_n 0, 1) := by decide +kernel
theorem dX11_prepare_29 : decode cX11_prepare 29 = .ok (.getfield 13, 3) := by decide +kernel
theorem dX11_prepare_32 : decode cX11_prepare 32 = .ok (.if_icmp .ge 92, 3) := by decide +kernel
theorem dX11_prepare_35 : decode cX11_prepare 35 = .ok (.aload_n 0, 1) := by decide +kernel
theorem dX11_prepare_36 : decode cX11_prepare 36 = .ok (.getfield 16, 3) := by decide +kernel
theorem dX11_prepare_39 : decode cX11_prepare 39 = .ok (.iload_n 1, 1) := by decide +kernel
theorem dX11_prepare_40 : decode cX11_prepare 40 = .ok (.iaload, 1) := by decide +kernel
theorem dX11_prepare_41 : decode cX11_prepare 41 = .ok (.iconst 2, 1) := by decide +kernel
theorem dX11_prepare_42 : decode cX11_prepare 42 = .ok (.if_icmp .ne 34, 3) := by decide +kernel
theorem dX11_prepare_45 : decode cX11_prepare 45 = .ok (.iconst 0, 1) := by decide +kernel
theorem dX11_prepare_46 : decode cX11_prepare 46 = .ok (.istore_n 2, 1) := by decide +kernel
theorem dX11_prepare_47 : decode cX11_prepare 47 = .ok (.iload_n 2, 1) := by decide +kernel
theorem dX11_prepare_48 : decode cX11_prepare 48 = .ok (.iconst 3, 1) := by decide +kernel
theorem dX11_prepare_49 : decode cX11_prepare 49 = .ok (.if_icmp .ge 24, 3) := by decide +kernel
theorem dX11_prepare_52 : decode cX11_prepare 52 = .ok (.aload_n 0, 1) := by decide +kernel
theorem dX11_prepare_53 : decode cX11_prepare 53 = .ok (.getfield 57, 3) := by decide +kernel
theorem dX11_prepare_56 : decode cX11_prepare 56 = .ok (.iload_n 2, 1) := by decide +kernel
theorem dX11_prepare_57 : decode cX11_prepare 57 = .ok (.dup2, 1) := by decide +kernel
theorem dX11_prepare_58 : decode cX11_prepare 58 = .ok (.laload, 1) := by decide +kernel
theorem dX11_prepare_59 : decode cX11_prepare 59 = .ok (.aload_n 0, 1) := by decide +kernel
theorem dX11_prepare_60 : decode cX11_prepare 60 = .ok (.iload_n 1, 1) := by decide +kernel
theorem dX11_prepare_61 : decode cX11_prepare 61 = .ok (.iload_n 2, 1) := by decide +kernel
theorem dX11_prepare_62 : decode cX11_prepare 62 = .ok (.invokevirtual 161, 3) := by decide +kernel
theorem dX11_prepare_65 : decode cX11_prepare 65 = .ok (.ladd, 1) := by decide +kernel
theorem dX11_prepare_66 : decode cX11_prepare 66 = .ok (.lastore, 1) := by decide +kernel
theorem dX11_prepare_67 : decode cX11_prepare 67 = .ok (.iinc 2 1, 3) := by decide +kernel
theorem dX11_prepare_70 : decode cX11_prepare 70 = .ok (.goto (-23), 3) := by decide +kernel
theorem dX11_prepare_73 : decode cX11_prepare 73 = .ok (.goto 45, 3) := by decide +kernel
theorem dX11_prepare_76 : decode cX11_prepare 76 = .ok (.iconst 0, 1) := by decide +kernel
theorem dX11_prepare_77 : decode cX11_prepare 77 = .ok (.istore_n 2, 1) := by decide +kernel
theorem dX11_prepare_78 : decode cX11_prepare 78 = .ok (.iload_n 2, 1) := by decide +kernel
theorem dX11_prepare_79 : decode cX11_prepare 79 = .ok (.aload_n 0, 1) := by decide +kernel
theorem dX11_prepare_80 : decode cX11_prepare 80 = .ok (.iload_n 1, 1) := by decide +kernel
theorem dX11_prepare_81 : decode cX11_prepare 81 = .ok (.invokevirtual 145, 3) := by decide +kernel
theorem dX11_prepare_84 : decode cX11_prepare 84 = .ok (.if_icmp .ge 34, 3) := by decide +kernel
theorem dX11_prepare_87 : decode cX11_prepare 87 = .ok (.aload_n 0, 1) := by decide +kernel
theorem dX11_prepare_88 : decode cX11_prepare 88 = .ok (.aload_n 0, 1) := by decide +kernel
theorem dX11_prepare_89 : decode cX11_prepare 89 = .ok (.iload_n 1, 1) := by decide +kernel
theorem dX11_prepare_90 : decode cX11_prepare 90 = .ok (.iload_n 2, 1) := by decide +kernel
theorem dX11_prepare_91 : decode cX11_prepare 91 = .ok (.iconst 0, 1) := by decide +kernel
theorem dX11_prepare_92 : decode cX11_prepare 92 = .ok (.invokevirtual 165, 3) := by decide +kernel
theorem dX11_prepare_95 : decode cX11_prepare 95 = .ok (.aload_n 0, 1) := by decide +kernel
theorem dX11_prepare_96 : decode cX11_prepare 96 = .ok (.iload_n 1, 1) := by decide +kernel
theorem dX11_prepare_97 : decode cX11_prepare 97 = .ok (.iload_n 2, 1) := by decide +kernel
theorem dX11_prepare_98 : decode cX11_prepare 98 = .ok (.iconst 1, 1) := by decide +kernel
theorem dX11_prepare_99 : decode cX11_prepare 99 = .ok (.invokevirtual 165, 3) := by decide +kernel
theorem dX11_prepare_102 : decode cX11_prepare 102 = .ok (.aload_n 0, 1) := by decide +kernel
theorem dX11_prepare_103 : decode cX11_prepare 103 = .ok (.iload_n 1, 1) := by decide +kernel
theorem dX11_prepare_104 : decode cX11_prepare 104 = .ok (.iload_n 2, 1) := by decide +kernel
theorem dX11_prepare_105 : decode cX11_prepare 105 = .ok (.iconst 2, 1) := by decide +kernel
theorem dX11_prepare_106 : decode cX11_prepare 106 = .ok (.invokevirtual 165, 3) := by decide +kernel
theorem dX11_prepare_109 : decode cX11_prepare 109 = .ok (.invokevirtual 169, 3) := by decide +kernel
theorem dX11_prepare_112 : decode cX11_prepare 112 = .ok (.iinc 2 1, 3) := by decide +kernel
theorem dX11_prepare_115 : decode cX11_prepare 115 = .ok (.goto (-37), 3) := by decide +kernel
theorem dX11_prepare_118 : decode cX11_prepare 118 = .ok (.iinc 1 1, 3) := by decide +kernel
theorem dX11_prepare_121 : decode cX11_prepare 121 = .ok (.goto (-94), 3) := by decide +kernel
theorem dX11_prepare_124 : decode cX11_prepare 124 = .ok (.aload_n 0, 1) := by decide +kernel
theorem dX11_prepare_125 : decode cX11_prepare 125 = .ok (.aload_n 0, 1) := by decide +kernel
theorem dX11_prepare_126 : decode cX11_prepare 126 = .ok (.invokevirtual 187, 3) := by decide +kernel
theorem dX11_prepare_129 : decode cX11_prepare 129 = .ok (.putfield 48, 3) := by decide +kernel
theorem dX11_prepare_132 : decode cX11_prepare 132 = .ok (.aload_n 0, 1) := by decide +kernel
theorem dX11_prepare_133 : decode cX11_prepare 133 = .ok (.iconst 0, 1) := by decide +kernel
theorem dX11_prepare_134 : decode cX11_prepare 134 = .ok (.putfield 51, 3) := by decide +kernel
theorem dX11_prepare_137 : decode cX11_prepare 137 = .ok (.iconst 0, 1) := by decide +kernel
theorem dX11_prepare_138 : decode cX11_prepare 138 = .ok (.istore_n 1, 1) := by decide +kernel
theorem dX11_prepare_139 : decode cX11_prepare 139 = .ok (.iload_n 1, 1) := by decide +kernel
theorem dX11_prepare_140 : decode cX11_prepare 140 = .ok (.aload_n 0, 1) := by decide +kernel
theorem dX11_prepare_141 : decode cX11_prepare 141 = .ok (.getfield 38, 3) := by decide +kernel
theorem dX11_prepare_144 : decode cX11_prepare 144 = .ok (.if_icmp .ge 111, 3) := by decide +kernel
theorem dX11_prepare_147 : decode cX11_prepare 147 = .ok (.aload_n 0, 1) := by decide +kernel
theorem dX11_prepare_148 : decode cX11_prepare 148 = .ok (.getfield 48, 3) := by decide +kernel
theorem dX11_prepare_151 : decode cX11_prepare 151 = .ok (.iconst 3, 1) := by decide +kernel
theorem dX11_prepare_152 : decode cX11_prepare 152 = .ok (.if_icmp .ne 103, 3) := by decide +kernel
theorem dX11_prepare_155 : decode cX11_prepare 155 = .ok (.iconst 0, 1) := by decide +kernel
theorem dX11_prepare_156 : decode cX11_prepare 156 = .ok (.istore_n 2, 1) := by decide +kernel
theorem dX11_prepare_157 : decode cX11_prepare 157 = .ok (.iload_n 2, 1) := by decide +kernel
theorem dX11_prepare_158 : decode cX11_prepare 158 = .ok (.iload_n 1, 1) := by decide +kernel
theorem dX11_prepare_159 : decode cX11_prepare 159 = .ok (.if_icmp .ge 90, 3) := by decide +kernel
theorem dX11_prepare_162 : decode cX11_prepare 162 = .ok (.aload_n 0, 1) := by decide +kernel
theorem dX11_prepare_163 : decode cX11_prepare 163 = .ok (.iload_n 1, 1) := by decide +kernel
theorem dX11_prepare_164 : decode cX11_prepare 164 = .ok (.iload_n 2, 1) := by decide +kernel
theorem dX11_prepare_165 : decode cX11_prepare 165 = .ok (.invokevirtual 176, 3) := by decide +kernel
theorem dX11_prepare_168 : decode cX11_prepare 168 = .ok (.ifCond .ne 6, 3) := by decide +kernel
theorem dX11_prepare_171 : decode cX11_prepare 171 = .ok (.goto 72, 3) := by decide +kernel
theorem dX11_prepare_174 : decode cX11_prepare 174 = .ok (.aload_n 0, 1) := by decide +kernel
theorem dX11_prepare_175 : decode cX11_prepare 175 = .ok (.invokevirtual 205, 3) := by decide +kernel
theorem dX11_prepare_178 : decode cX11_prepare 178 = .ok (.istore_n 3, 1) := by decide +kernel
theorem dX11_prepare_179 : decode cX11_prepare 179 = .ok (.iload_n 3, 1) := by decide +kernel
theorem dX11_prepare_180 : decode cX11_prepare 180 = .ok (.ifCond .eq 63, 3) := by decide +kernel
theorem dX11_prepare_183 : decode cX11_prepare 183 = .ok (.aload_n 0, 1) := by decide +kernel
theorem dX11_prepare_184 : decode cX11_prepare 184 = .ok (.iload_n 3, 1) := by decide +kernel
theorem dX11_prepare_185 : decode cX11_prepare 185 = .ok (.invokevirtual 211, 3) := by decide +kernel
theorem dX11_prepare_188 : decode cX11_prepare 188 = .ok (.ifCond .eq 6, 3) := by decide +kernel
theorem dX11_prepare_191 : decode cX11_prepare 191 = .ok (.goto 52, 3) := by decide +kernel
theorem dX11_prepare_194 : decode cX11_prepare 194 = .ok (.iconst 0, 1) := by decide +kernel
theorem dX11_prepare_195 : decode cX11_prepare 195 = .ok (.istore 4, 2) := by decide +kernel
theorem dX11_prepare_197 : decode cX11_prepare 197 = .ok (.iload 4, 2) := by decide +kernel
theorem dX11_prepare_199 : decode cX11_prepare 199 = .ok (.iconst 3, 1) := by decide +kernel
theorem dX11_prepare_200 : decode cX11_prepare 200 = .ok (.if_icmp .ge 33, 3) := by decide +kernel
theorem dX11_prepare_203 : decode cX11_prepare 203 = .ok (.aload_n 0, 1) := by decide +kernel
theorem dX11_prepare_204 : decode cX11_prepare 204 = .ok (.getfield 54, 3) := by decide +kernel
theorem dX11_prepare_207 : decode cX11_prepare 207 = .ok (.iconst 3, 1) := by decide +kernel
theorem dX11_prepare_208 : decode cX11_prepare 208 = .ok (.aload_n 0, 1) := by decide +kernel
theorem dX11_prepare_209 : decode cX11_prepare 209 = .ok (.getfield 51, 3) := by decide +kernel
theorem dX11_prepare_212 : decode cX11_prepare 212 = .ok (.imul, 1) := by decide +kernel
theorem dX11_prepare_213 : decode cX11_prepare 213 = .ok (.iload 4, 2) := by decide +kernel
theorem dX11_prepare_215 : decode cX11_prepare 215 = .ok (.iadd, 1) := by decide +kernel
theorem dX11_prepare_216 : decode cX11_prepare 216 = .ok (.iload_n 3, 1) := by decide +kernel
theorem dX11_prepare_217 : decode cX11_prepare 217 = .ok (.i2l, 1) := by decide +kernel
theorem dX11_prepare_218 : decode cX11_prepare 218 = .ok (.aload_n 0, 1) := by decide +kernel
theorem dX11_prepare_219 : decode cX11_prepare 219 = .ok (.getfield 45, 3) := by decide +kernel
theorem dX11_prepare_222 : decode cX11_prepare 222 = .ok (.iload 4, 2) := by decide +kernel
theorem dX11_prepare_224 : decode cX11_prepare 224 = .ok (.laload, 1) := by decide +kernel
theorem dX11_prepare_225 : decode cX11_prepare 225 = .ok (.lmul, 1) := by decide +kernel
theorem dX11_prepare_226 : decode cX11_prepare 226 = .ok (.lastore, 1) := by decide +kernel
theorem dX11_prepare_227 : decode cX11_prepare 227 = .ok (.iinc 4 1, 3) := by decide +kernel
theorem dX11_prepare_230 : decode cX11_prepare 230 = .ok (.goto (-33), 3) := by decide +kernel
theorem dX11_prepare_233 : decode cX11_prepare 233 = .ok (.aload_n 0, 1) := by decide +kernel
theorem dX11_prepare_234 : decode cX11_prepare 234 = .ok (.dup, 1) := by decide +kernel
theorem dX11_prepare_235 : decode cX11_prepare 235 = .ok (.getfield 51, 3) := by decide +kernel
theorem dX11_prepare_238 : decode cX11_prepare 238 = .ok (.iconst 1, 1) := by decide +kernel
theorem dX11_prepare_239 : decode cX11_prepare 239 = .ok (.iadd, 1) := by decide +kernel
theorem dX11_prepare_240 : decode cX11_prepare 240 = .ok (.putfield 51, 3) := by decide +kernel
theorem dX11_prepare_243 : decode cX11_prepare 243 = .ok (.iinc 2 1, 3) := by decide +kernel
theorem dX11_prepare_246 : decode cX11_prepare 246 = .ok (.goto (-89), 3) := by decide +kernel
theorem dX11_prepare_249 : decode cX11_prepare 249 = .ok (.iinc 1 1, 3) := by decide +kernel
theorem dX11_prepare_252 : decode cX11_prepare 252 = .ok (.goto (-113), 3) := by decide +kernel
theorem dX11_prepare_255 : decode cX11_prepare 255 = .ok (.return_, 1) := by decide +kernel
theorem dX11_isFace_0 : decode cX11_isFace 0 = .ok (.iconst 0, 1) := by decide +kernel
theorem dX11_isFace_1 : decode cX11_isFace 1 = .ok (.istore_n 2, 1) := by decide +kernel
theorem dX11_isFace_2 : decode cX11_isFace 2 = .ok (.iload_n 2, 1) := by decide +kernel
theorem dX11_isFace_3 : decode cX11_isFace 3 = .ok (.aload_n 0, 1) := by decide +kernel
theorem dX11_isFace_4 : decode cX11_isFace 4 = .ok (.getfield 51, 3) := by decide +kernel
theorem dX11_isFace_7 : decode cX11_isFace 7 = .ok (.if_icmp .ge 139, 3) := by decide +kernel
theorem dX11_isFace_10 : decode cX11_isFace 10 = .ok (.iconst 1, 1) := by decide +kernel
theorem dX11_isFace_11 : decode cX11_isFace 11 = .ok (.istore_n 3, 1) := by decide +kernel
theorem dX11_isFace_12 : decode cX11_isFace 12 = .ok (.lconst 0, 1) := by decide +kernel
theorem dX11_isFace_13 : decode cX11_isFace 13 = .ok (.lstore 4, 2) := by decide +kernel
theorem dX11_isFace_15 : decode cX11_isFace 15 = .ok (.iconst 0, 1) := by decide +kernel
theorem dX11_isFace_16 : decode cX11_isFace 16 = .ok (.istore 6, 2) := by decide +kernel
theorem dX11_isFace_18 : decode cX11_isFace 18 = .ok (.iload 6, 2) := by decide +kernel
theorem dX11_isFace_20 : decode cX11_isFace 20 = .ok (.iconst 3, 1) := by decide +kernel
theorem dX11_isFace_21 : decode cX11_isFace 21 = .ok (.if_icmp .ge 106, 3) := by decide +kernel
theorem dX11_isFace_24 : decode cX11_isFace 24 = .ok (.iload 6, 2) := by decide +kernel
theorem dX11_isFace_26 : decode cX11_isFace 26 = .ok (.iconst 1, 1) := by decide +kernel
theorem dX11_isFace_27 : decode cX11_isFace 27 = .ok (.iadd, 1) := by decide +kernel
theorem dX11_isFace_28 : decode cX11_isFace 28 = .ok (.iconst 3, 1) := by decide +kernel
theorem dX11_isFace_29 : decode cX11_isFace 29 = .ok (.irem, 1) := by decide +kernel
theorem dX11_isFace_30 : decode cX11_isFace 30 = .ok (.istore 7, 2) := by decide +kernel
theorem dX11_isFace_32 : decode cX11_isFace 32 = .ok (.iload_n 3, 1) := by decide +kernel
theorem dX11_isFace_33 : decode cX11_isFace 33 = .ok (.ifCond .eq 49, 3) := by decide +kernel
theorem dX11_isFace_36 : decode cX11_isFace 36 = .ok (.aload_n 0, 1) := by decide +kernel
theorem dX11_isFace_37 : decode cX11_isFace 37 = .ok (.getfield 54, 3) := by decide +kernel
theorem dX11_isFace_40 : decode cX11_isFace 40 = .ok (.iconst 3, 1) := by decide +kernel
theorem dX11_isFace_41 : decode cX11_isFace 41 = .ok (.iload_n 2, 1) := by decide +kernel
theorem dX11_isFace_42 : decode cX11_isFace 42 = .ok (.imul, 1) := by decide +kernel
theorem dX11_isFace_43 : decode cX11_isFace 43 = .ok (.iload 6, 2) := by decide +kernel
theorem dX11_isFace_45 : decode cX11_isFace 45 = .ok (.iadd, 1) := by decide +kernel
theorem dX11_isFace_46 : decode cX11_isFace 46 = .ok (.laload, 1) := by decide +kernel
theorem dX11_isFace_47 : decode cX11_isFace 47 = .ok (.aload_n 0, 1) := by decide +kernel
theorem dX11_isFace_48 : decode cX11_isFace 48 = .ok (.getfield 45, 3) := by decide +kernel
theorem dX11_isFace_51 : decode cX11_isFace 51 = .ok (.iload 7, 2) := by decide +kernel
theorem dX11_isFace_53 : decode cX11_isFace 53 = .ok (.laload, 1) := by decide +kernel
theorem dX11_isFace_54 : decode cX11_isFace 54 = .ok (.lmul, 1) := by decide +kernel
theorem dX11_isFace_55 : decode cX11_isFace 55 = .ok (.aload_n 0, 1) := by decide +kernel
theorem dX11_isFace_56 : decode cX11_isFace 56 = .ok (.getfield 54, 3) := by decide +kernel
theorem dX11_isFace_59 : decode cX11_isFace 59 = .ok (.iconst 3, 1) := by decide +kernel
theorem dX11_isFace_60 : decode cX11_isFace 60 = .ok (.iload_n 2, 1) := by decide +kernel
theorem dX11_isFace_61 : decode cX11_isFace 61 = .ok (.imul, 1) := by decide +kernel
theorem dX11_isFace_62 : decode cX11_isFace 62 = .ok (.iload 7, 2) := by decide +kernel
theorem dX11_isFace_64 : decode cX11_isFace 64 = .ok (.iadd, 1) := by decide +kernel
theorem dX11_isFace_65 : decode cX11_isFace 65 = .ok (.laload, 1) := by decide +kernel
theorem dX11_isFace_66 : decode cX11_isFace 66 = .ok (.aload_n 0, 1) := by decide +kernel
theorem dX11_isFace_67 : decode cX11_isFace 67 = .ok (.getfield 45, 3) := by decide +kernel
theorem dX11_isFace_70 : decode cX11_isFace 70 = .ok (.iload 6, 2) := by decide +kernel
theorem dX11_isFace_72 : decode cX11_isFace 72 = .ok (.laload, 1) := by decide +kernel
theorem dX11_isFace_73 : decode cX11_isFace 73 = .ok (.lmul, 1) := by decide +kernel
theorem dX11_isFace_74 : decode cX11_isFace 74 = .ok (.lcmp, 1) := by decide +kernel
theorem dX11_isFace_75 : decode cX11_isFace 75 = .ok (.ifCond .ne 7, 3) := by decide +kernel
theorem dX11_isFace_78 : decode cX11_isFace 78 = .ok (.iconst 1, 1) := by decide +kernel
theorem dX11_isFace_79 : decode cX11_isFace 79 = .ok (.goto 4, 3) := by decide +kernel
theorem dX11_isFace_82 : decode cX11_isFace 82 = .ok (.iconst 0, 1) := by decide +kernel
theorem dX11_isFace_83 : decode cX11_isFace 83 = .ok (.istore_n 3, 1) := by decide +kernel
theorem dX11_isFace_84 : decode cX11_isFace 84 = .ok (.lload 4, 2) := by decide +kernel
theorem dX11_isFace_86 : decode cX11_isFace 86 = .ok (.aload_n 0, 1) := by decide +kernel
theorem dX11_isFace_87 : decode cX11_isFace 87 = .ok (.getfield 54, 3) := by decide +kernel
theorem dX11_isFace_90 : decode cX11_isFace 90 = .ok (.iconst 3, 1) := by decide +kernel
theorem dX11_isFace_91 : decode cX11_isFace 91 = .ok (.iload_n 2, 1) := by decide +kernel
theorem dX11_isFace_92 : decode cX11_isFace 92 = .ok (.imul, 1) := by decide +kernel
theorem dX11_isFace_93 : decode cX11_isFace 93 = .ok (.iload 6, 2) := by decide +kernel
theorem dX11_isFace_95 : decode cX11_isFace 95 = .ok (.iadd, 1) := by decide +kernel
theorem dX11_isFace_96 : decode cX11_isFace 96 = .ok (.laload, 1) := by decide +kernel
theorem dX11_isFace_97 : decode cX11_isFace 97 = .ok (.iload_n 1, 1) := by decide +kernel
theorem dX11_isFace_98 : decode cX11_isFace 98 = .ok (.i2l, 1) := by decide +kernel
theorem dX11_isFace_99 : decode cX11_isFace 99 = .ok (.lmul, 1) := by decide +kernel
theorem dX11_isFace_100 : decode cX11_isFace 100 = .ok (.aload_n 0, 1) := by decide +kernel
theorem dX11_isFace_101 : decode cX11_isFace 101 = .ok (.getfield 45, 3) := by decide +kernel
theorem dX11_isFace_104 : decode cX11_isFace 104 = .ok (.iload 6, 2) := by decide +kernel
theorem dX11_isFace_106 : decode cX11_isFace 106 = .ok (.laload, 1) := by decide +kernel
theorem dX11_isFace_107 : decode cX11_isFace 107 = .ok (.lmul, 1) := by decide +kernel
theorem dX11_isFace_108 : decode cX11_isFace 108 = .ok (.lconst 0, 1) := by decide +kernel
theorem dX11_isFace_109 : decode cX11_isFace 109 = .ok (.lcmp, 1) := by decide +kernel
theorem dX11_isFace_110 : decode cX11_isFace 110 = .ok (.ifCond .le 7, 3) := by decide +kernel
theorem dX11_isFace_113 : decode cX11_isFace 113 = .ok (.lconst 1, 1) := by decide +kernel
theorem dX11_isFace_114 : decode cX11_isFace 114 = .ok (.goto 4, 3) := by decide +kernel
theorem dX11_isFace_117 : decode cX11_isFace 117 = .ok (.lconst 0, 1) := by decide +kernel
theorem dX11_isFace_118 : decode cX11_isFace 118 = .ok (.ladd, 1) := by decide +kernel
theorem dX11_isFace_119 : decode cX11_isFace 119 = .ok (.lstore 4, 2) := by decide +kernel
theorem dX11_isFace_121 : decode cX11_isFace 121 = .ok (.iinc 6 1, 3) := by decide +kernel
theorem dX11_isFace_124 : decode cX11_isFace 124 = .ok (.goto (-106), 3) := by decide +kernel
theorem dX11_isFace_127 : decode cX11_isFace 127 = .ok (.iload_n 3, 1) := by decide +kernel
theorem dX11_isFace_128 : decode cX11_isFace 128 = .ok (.ifCond .eq 12, 3) := by decide +kernel
theorem dX11_isFace_131 : decode cX11_isFace 131 = .ok (.lload 4, 2) := by decide +kernel
theorem dX11_isFace_133 : decode cX11_isFace 133 = .ok (.lconst 0, 1) := by decide +kernel
theorem dX11_isFace_134 : decode cX11_isFace 134 = .ok (.lcmp, 1) := by decide +kernel
theorem dX11_isFace_135 : decode cX11_isFace 135 = .ok (.ifCond .le 5, 3) := by decide +kernel
theorem dX11_isFace_138 : decode cX11_isFace 138 = .ok (.iconst 1, 1) := by decide +kernel
theorem dX11_isFace_139 : decode cX11_isFace 139 = .ok (.ireturn, 1) := by decide +kernel
theorem dX11_isFace_140 : decode cX11_isFace 140 = .ok (.iinc 2 1, 3) := by decide +kernel
theorem dX11_isFace_143 : decode cX11_isFace 143 = .ok (.goto (-141), 3) := by decide +kernel
theorem dX11_isFace_146 : decode cX11_isFace 146 = .ok (.iconst 0, 1) := by decide +kernel
theorem dX11_isFace_147 : decode cX11_isFace 147 = .ok (.ireturn, 1) := by decide +kernel
theorem dX11_isGoalIn_0 : decode cX11_isGoalIn 0 = .ok (.aload_n 0, 1) := by decide +kernel
theorem dX11_isGoalIn_1 : decode cX11_isGoalIn 1 = .ok (.getfield 60, 3) := by decide +kernel
theorem dX11_isGoalIn_4 : decode cX11_isGoalIn 4 = .ok (.iconst 0, 1) := by decide +kernel
theorem dX11_isGoalIn_5 : decode cX11_isGoalIn 5 = .ok (.laload, 1) := by decide +kernel
theorem dX11_isGoalIn_6 : decode cX11_isGoalIn 6 = .ok (.lconst 0, 1) := by decide +kernel
theorem dX11_isGoalIn_7 : decode cX11_isGoalIn 7 = .ok (.lcmp, 1) := by decide +kernel
theorem dX11_isGoalIn_8 : decode cX11_isGoalIn 8 = .ok (.ifCond .ne 27, 3) := by decide +kernel
theorem dX11_isGoalIn_11 : decode cX11_isGoalIn 11 = .ok (.aload_n 0, 1) := by decide +kernel
theorem dX11_isGoalIn_12 : decode cX11_isGoalIn 12 = .ok (.getfield 60, 3) := by decide +kernel
theorem dX11_isGoalIn_15 : decode cX11_isGoalIn 15 = .ok (.iconst 1, 1) := by decide +kernel
theorem dX11_isGoalIn_16 : decode cX11_isGoalIn 16 = .ok (.laload, 1) := by decide +kernel
theorem dX11_isGoalIn_17 : decode cX11_isGoalIn 17 = .ok (.lconst 0, 1) := by decide +kernel
theorem dX11_isGoalIn_18 : decode cX11_isGoalIn 18 = .ok (.lcmp, 1) := by decide +kernel
theorem dX11_isGoalIn_19 : decode cX11_isGoalIn 19 = .ok (.ifCond .ne 16, 3) := by decide +kernel
theorem dX11_isGoalIn_22 : decode cX11_isGoalIn 22 = .ok (.aload_n 0, 1) := by decide +kernel
theorem dX11_isGoalIn_23 : decode cX11_isGoalIn 23 = .ok (.getfield 60, 3) := by decide +kernel
theorem dX11_isGoalIn_26 : decode cX11_isGoalIn 26 = .ok (.iconst 2, 1) := by decide +kernel
theorem dX11_isGoalIn_27 : decode cX11_isGoalIn 27 = .ok (.laload, 1) := by decide +kernel
theorem dX11_isGoalIn_28 : decode cX11_isGoalIn 28 = .ok (.lconst 0, 1) := by decide +kernel
theorem dX11_isGoalIn_29 : decode cX11_isGoalIn 29 = .ok (.lcmp, 1) := by decide +kernel
theorem dX11_isGoalIn_30 : decode cX11_isGoalIn 30 = .ok (.ifCond .ne 5, 3) := by decide +kernel
theorem dX11_isGoalIn_33 : decode cX11_isGoalIn 33 = .ok (.iconst 1, 1) := by decide +kernel
theorem dX11_isGoalIn_34 : decode cX11_isGoalIn 34 = .ok (.ireturn, 1) := by decide +kernel
theorem dX11_isGoalIn_35 : decode cX11_isGoalIn 35 = .ok (.aload_n 0, 1) := by decide +kernel
theorem dX11_isGoalIn_36 : decode cX11_isGoalIn 36 = .ok (.getfield 48, 3) := by decide +kernel
theorem dX11_isGoalIn_39 : decode cX11_isGoalIn 39 = .ok (.iconst 3, 1) := by decide +kernel
theorem dX11_isGoalIn_40 : decode cX11_isGoalIn 40 = .ok (.if_icmp .ne 89, 3) := by decide +kernel
theorem dX11_isGoalIn_43 : decode cX11_isGoalIn 43 = .ok (.iconst 1, 1) := by decide +kernel
theorem dX11_isGoalIn_44 : decode cX11_isGoalIn 44 = .ok (.istore_n 1, 1) := by decide +kernel
theorem dX11_isGoalIn_45 : decode cX11_isGoalIn 45 = .ok (.iconst 0, 1) := by decide +kernel
theorem dX11_isGoalIn_46 : decode cX11_isGoalIn 46 = .ok (.istore_n 2, 1) := by decide +kernel
theorem dX11_isGoalIn_47 : decode cX11_isGoalIn 47 = .ok (.iload_n 2, 1) := by decide +kernel
theorem dX11_isGoalIn_48 : decode cX11_isGoalIn 48 = .ok (.aload_n 0, 1) := by decide +kernel
theorem dX11_isGoalIn_49 : decode cX11_isGoalIn 49 = .ok (.getfield 51, 3) := by decide +kernel
theorem dX11_isGoalIn_52 : decode cX11_isGoalIn 52 = .ok (.if_icmp .ge 75, 3) := by decide +kernel
theorem dX11_isGoalIn_55 : decode cX11_isGoalIn 55 = .ok (.iload_n 1, 1) := by decide +kernel
theorem dX11_isGoalIn_56 : decode cX11_isGoalIn 56 = .ok (.ifCond .eq 63, 3) := by decide +kernel
theorem dX11_isGoalIn_59 : decode cX11_isGoalIn 59 = .ok (.aload_n 0, 1) := by decide +kernel
theorem dX11_isGoalIn_60 : decode cX11_isGoalIn 60 = .ok (.getfield 54, 3) := by decide +kernel
theorem dX11_isGoalIn_63 : decode cX11_isGoalIn 63 = .ok (.iconst 3, 1) := by decide +kernel
theorem dX11_isGoalIn_64 : decode cX11_isGoalIn 64 = .ok (.iload_n 2, 1) := by decide +kernel
theorem dX11_isGoalIn_65 : decode cX11_isGoalIn 65 = .ok (.imul, 1) := by decide +kernel
theorem dX11_isGoalIn_66 : decode cX11_isGoalIn 66 = .ok (.laload, 1) := by decide +kernel
theorem dX11_isGoalIn_67 : decode cX11_isGoalIn 67 = .ok (.aload_n 0, 1) := by decide +kernel
theorem dX11_isGoalIn_68 : decode cX11_isGoalIn 68 = .ok (.getfield 60, 3) := by decide +kernel
theorem dX11_isGoalIn_71 : decode cX11_isGoalIn 71 = .ok (.iconst 0, 1) := by decide +kernel
theorem dX11_isGoalIn_72 : decode cX11_isGoalIn 72 = .ok (.laload, 1) := by decide +kernel
theorem dX11_isGoalIn_73 : decode cX11_isGoalIn 73 = .ok (.lmul, 1) := by decide +kernel
theorem dX11_isGoalIn_74 : decode cX11_isGoalIn 74 = .ok (.aload_n 0, 1) := by decide +kernel
theorem dX11_isGoalIn_75 : decode cX11_isGoalIn 75 = .ok (.getfield 54, 3) := by decide +kernel
theorem dX11_isGoalIn_78 : decode cX11_isGoalIn 78 = .ok (.iconst 3, 1) := by decide +kernel
theorem dX11_isGoalIn_79 : decode cX11_isGoalIn 79 = .ok (.iload_n 2, 1) := by decide +kernel
theorem dX11_isGoalIn_80 : decode cX11_isGoalIn 80 = .ok (.imul, 1) := by decide +kernel
theorem dX11_isGoalIn_81 : decode cX11_isGoalIn 81 = .ok (.iconst 1, 1) := by decide +kernel
theorem dX11_isGoalIn_82 : decode cX11_isGoalIn 82 = .ok (.iadd, 1) := by decide +kernel
theorem dX11_isGoalIn_83 : decode cX11_isGoalIn 83 = .ok (.laload, 1) := by decide +kernel
theorem dX11_isGoalIn_84 : decode cX11_isGoalIn 84 = .ok (.aload_n 0, 1) := by decide +kernel
theorem dX11_isGoalIn_85 : decode cX11_isGoalIn 85 = .ok (.getfield 60, 3) := by decide +kernel
theorem dX11_isGoalIn_88 : decode cX11_isGoalIn 88 = .ok (.iconst 1, 1) := by decide +kernel
theorem dX11_isGoalIn_89 : decode cX11_isGoalIn 89 = .ok (.laload, 1) := by decide +kernel
theorem dX11_isGoalIn_90 : decode cX11_isGoalIn 90 = .ok (.lmul, 1) := by decide +kernel
theorem dX11_isGoalIn_91 : decode cX11_isGoalIn 91 = .ok (.ladd, 1) := by decide +kernel
theorem dX11_isGoalIn_92 : decode cX11_isGoalIn 92 = .ok (.aload_n 0, 1) := by decide +kernel
theorem dX11_isGoalIn_93 : decode cX11_isGoalIn 93 = .ok (.getfield 54, 3) := by decide +kernel
theorem dX11_isGoalIn_96 : decode cX11_isGoalIn 96 = .ok (.iconst 3, 1) := by decide +kernel
theorem dX11_isGoalIn_97 : decode cX11_isGoalIn 97 = .ok (.iload_n 2, 1) := by decide +kernel
theorem dX11_isGoalIn_98 : decode cX11_isGoalIn 98 = .ok (.imul, 1) := by decide +kernel
theorem dX11_isGoalIn_99 : decode cX11_isGoalIn 99 = .ok (.iconst 2, 1) := by decide +kernel
theorem dX11_isGoalIn_100 : decode cX11_isGoalIn 100 = .ok (.iadd, 1) := by decide +kernel
theorem dX11_isGoalIn_101 : decode cX11_isGoalIn 101 = .ok (.laload, 1) := by decide +kernel
theorem dX11_isGoalIn_102 : decode cX11_isGoalIn 102 = .ok (.aload_n 0, 1) := by decide +kernel
theorem dX11_isGoalIn_103 : decode cX11_isGoalIn 103 = .ok (.getfield 60, 3) := by decide +kernel
theorem dX11_isGoalIn_106 : decode cX11_isGoalIn 106 = .ok (.iconst 2, 1) := by decide +kernel
theorem dX11_isGoalIn_107 : decode cX11_isGoalIn 107 = .ok (.laload, 1) := by decide +kernel
theorem dX11_isGoalIn_108 : decode cX11_isGoalIn 108 = .ok (.lmul, 1) := by decide +kernel
theorem dX11_isGoalIn_109 : decode cX11_isGoalIn 109 = .ok (.ladd, 1) := by decide +kernel
theorem dX11_isGoalIn_110 : decode cX11_isGoalIn 110 = .ok (.lconst 0, 1) := by decide +kernel
theorem dX11_isGoalIn_111 : decode cX11_isGoalIn 111 = .ok (.lcmp, 1) := by decide +kernel
theorem dX11_isGoalIn_112 : decode cX11_isGoalIn 112 = .ok (.ifCond .lt 7, 3) := by decide +kernel
theorem dX11_isGoalIn_115 : decode cX11_isGoalIn 115 = .ok (.iconst 1, 1) := by decide +kernel
theorem dX11_isGoalIn_116 : decode cX11_isGoalIn 116 = .ok (.goto 4, 3) := by decide +kernel
theorem dX11_isGoalIn_119 : decode cX11_isGoalIn 119 = .ok (.iconst 0, 1) := by decide +kernel
theorem dX11_isGoalIn_120 : decode cX11_isGoalIn 120 = .ok (.istore_n 1, 1) := by decide +kernel
theorem dX11_isGoalIn_121 : decode cX11_isGoalIn 121 = .ok (.iinc 2 1, 3) := by decide +kernel
theorem dX11_isGoalIn_124 : decode cX11_isGoalIn 124 = .ok (.goto (-77), 3) := by decide +kernel
theorem dX11_isGoalIn_127 : decode cX11_isGoalIn 127 = .ok (.iload_n 1, 1) := by decide +kernel
theorem dX11_isGoalIn_128 : decode cX11_isGoalIn 128 = .ok (.ireturn, 1) := by decide +kernel
theorem dX11_isGoalIn_129 : decode cX11_isGoalIn 129 = .ok (.iconst 0, 1) := by decide +kernel
theorem dX11_isGoalIn_130 : decode cX11_isGoalIn 130 = .ok (.istore_n 1, 1) := by decide +kernel
theorem dX11_isGoalIn_131 : decode cX11_isGoalIn 131 = .ok (.iload_n 1, 1) := by decide +kernel
theorem dX11_isGoalIn_132 : decode cX11_isGoalIn 132 = .ok (.aload_n 0, 1) := by decide +kernel
theorem dX11_isGoalIn_133 : decode cX11_isGoalIn 133 = .ok (.getfield 38, 3) := by decide +kernel
theorem dX11_isGoalIn_136 : decode cX11_isGoalIn 136 = .ok (.if_icmp .ge 52, 3) := by decide +kernel
theorem dX11_isGoalIn_139 : decode cX11_isGoalIn 139 = .ok (.aload_n 0, 1) := by decide +kernel
theorem dX11_isGoalIn_140 : decode cX11_isGoalIn 140 = .ok (.iload_n 1, 1) := by decide +kernel
theorem dX11_isGoalIn_141 : decode cX11_isGoalIn 141 = .ok (.invokevirtual 214, 3) := by decide +kernel
theorem dX11_isGoalIn_144 : decode cX11_isGoalIn 144 = .ok (.ifCond .eq 5, 3) := by decide +kernel
theorem dX11_isGoalIn_147 : decode cX11_isGoalIn 147 = .ok (.iconst 1, 1) := by decide +kernel
theorem dX11_isGoalIn_148 : decode cX11_isGoalIn 148 = .ok (.ireturn, 1) := by decide +kernel
theorem dX11_isGoalIn_149 : decode cX11_isGoalIn 149 = .ok (.iconst 0, 1) := by decide +kernel
theorem dX11_isGoalIn_150 : decode cX11_isGoalIn 150 = .ok (.istore_n 2, 1) := by decide +kernel
theorem dX11_isGoalIn_151 : decode cX11_isGoalIn 151 = .ok (.iload_n 2, 1) := by decide +kernel
theorem dX11_isGoalIn_152 : decode cX11_isGoalIn 152 = .ok (.iload_n 1, 1) := by decide +kernel
theorem dX11_isGoalIn_153 : decode cX11_isGoalIn 153 = .ok (.if_icmp .ge 29, 3) := by decide +kernel
theorem dX11_isGoalIn_156 : decode cX11_isGoalIn 156 = .ok (.aload_n 0, 1) := by decide +kernel
theorem dX11_isGoalIn_157 : decode cX11_isGoalIn 157 = .ok (.iload_n 1, 1) := by decide +kernel
theorem dX11_isGoalIn_158 : decode cX11_isGoalIn 158 = .ok (.iload_n 2, 1) := by decide +kernel
theorem dX11_isGoalIn_159 : decode cX11_isGoalIn 159 = .ok (.invokevirtual 176, 3) := by decide +kernel
theorem dX11_isGoalIn_162 : decode cX11_isGoalIn 162 = .ok (.ifCond .eq 14, 3) := by decide +kernel
theorem dX11_isGoalIn_165 : decode cX11_isGoalIn 165 = .ok (.aload_n 0, 1) := by decide +kernel
theorem dX11_isGoalIn_166 : decode cX11_isGoalIn 166 = .ok (.iload_n 1, 1) := by decide +kernel
theorem dX11_isGoalIn_167 : decode cX11_isGoalIn 167 = .ok (.iload_n 2, 1) := by decide +kernel
theorem dX11_isGoalIn_168 : decode cX11_isGoalIn 168 = .ok (.invokevirtual 217, 3) := by decide +kernel
theorem dX11_isGoalIn_171 : decode cX11_isGoalIn 171 = .ok (.ifCond .eq 5, 3) := by decide +kernel
theorem dX11_isGoalIn_174 : decode cX11_isGoalIn 174 = .ok (.iconst 1, 1) := by decide +kernel
theorem dX11_isGoalIn_175 : decode cX11_isGoalIn 175 = .ok (.ireturn, 1) := by decide +kernel
theorem dX11_isGoalIn_176 : decode cX11_isGoalIn 176 = .ok (.iinc 2 1, 3) := by decide +kernel
theorem dX11_isGoalIn_179 : decode cX11_isGoalIn 179 = .ok (.goto (-28), 3) := by decide +kernel
theorem dX11_isGoalIn_182 : decode cX11_isGoalIn 182 = .ok (.iinc 1 1, 3) := by decide +kernel
theorem dX11_isGoalIn_185 : decode cX11_isGoalIn 185 = .ok (.goto (-54), 3) := by decide +kernel
theorem dX11_isGoalIn_188 : decode cX11_isGoalIn 188 = .ok (.iconst 0, 1) := by decide +kernel
theorem dX11_isGoalIn_189 : decode cX11_isGoalIn 189 = .ok (.ireturn, 1) := by decide +kernel
theorem dX11_isAlong_0 : decode cX11_isAlong 0 = .ok (.iconst 1, 1) := by decide +kernel
theorem dX11_isAlong_1 : decode cX11_isAlong 1 = .ok (.istore_n 2, 1) := by decide +kernel
theorem dX11_isAlong_2 : decode cX11_isAlong 2 = .ok (.lconst 0, 1) := by decide +kernel
theorem dX11_isAlong_3 : decode cX11_isAlong 3 = .ok (.lstore_n 3, 1) := by decide +kernel
theorem dX11_isAlong_4 : decode cX11_isAlong 4 = .ok (.iconst 0, 1) := by decide +kernel
theorem dX11_isAlong_5 : decode cX11_isAlong 5 = .ok (.istore 5, 2) := by decide +kernel
theorem dX11_isAlong_7 : decode cX11_isAlong 7 = .ok (.iload 5, 2) := by decide +kernel
theorem dX11_isAlong_9 : decode cX11_isAlong 9 = .ok (.iconst 3, 1) := by decide +kernel
theorem dX11_isAlong_10 : decode cX11_isAlong 10 = .ok (.if_icmp .ge 91, 3) := by decide +kernel
theorem dX11_isAlong_13 : decode cX11_isAlong 13 = .ok (.iload 5, 2) := by decide +kernel
theorem dX11_isAlong_15 : decode cX11_isAlong 15 = .ok (.iconst 1, 1) := by decide +kernel
theorem dX11_isAlong_16 : decode cX11_isAlong 16 = .ok (.iadd, 1) := by decide +kernel
theorem dX11_isAlong_17 : decode cX11_isAlong 17 = .ok (.iconst 3, 1) := by decide +kernel
theorem dX11_isAlong_18 : decode cX11_isAlong 18 = .ok (.irem, 1) := by decide +kernel
theorem dX11_isAlong_19 : decode cX11_isAlong 19 = .ok (.istore 6, 2) := by decide +kernel
theorem dX11_isAlong_21 : decode cX11_isAlong 21 = .ok (.iload_n 2, 1) := by decide +kernel
theorem dX11_isAlong_22 : decode cX11_isAlong 22 = .ok (.ifCond .eq 49, 3) := by decide +kernel
theorem dX11_isAlong_25 : decode cX11_isAlong 25 = .ok (.aload_n 0, 1) := by decide +kernel
theorem dX11_isAlong_26 : decode cX11_isAlong 26 = .ok (.getfield 60, 3) := by decide +kernel
theorem dX11_isAlong_29 : decode cX11_isAlong 29 = .ok (.iload 5, 2) := by decide +kernel
theorem dX11_isAlong_31 : decode cX11_isAlong 31 = .ok (.laload, 1) := by decide +kernel
theorem dX11_isAlong_32 : decode cX11_isAlong 32 = .ok (.aload_n 0, 1) := by decide +kernel
theorem dX11_isAlong_33 : decode cX11_isAlong 33 = .ok (.getfield 41, 3) := by decide +kernel
theorem dX11_isAlong_36 : decode cX11_isAlong 36 = .ok (.iconst 3, 1) := by decide +kernel
theorem dX11_isAlong_37 : decode cX11_isAlong 37 = .ok (.iload_n 1, 1) := by decide +kernel
theorem dX11_isAlong_38 : decode cX11_isAlong 38 = .ok (.imul, 1) := by decide +kernel
theorem dX11_isAlong_39 : decode cX11_isAlong 39 = .ok (.iload 6, 2) := by decide +kernel
theorem dX11_isAlong_41 : decode cX11_isAlong 41 = .ok (.iadd, 1) := by decide +kernel
theorem dX11_isAlong_42 : decode cX11_isAlong 42 = .ok (.laload, 1) := by decide +kernel
theorem dX11_isAlong_43 : decode cX11_isAlong 43 = .ok (.lmul, 1) := by decide +kernel
theorem dX11_isAlong_44 : decode cX11_isAlong 44 = .ok (.aload_n 0, 1) := by decide +kernel
theorem dX11_isAlong_45 : decode cX11_isAlong 45 = .ok (.getfield 60, 3) := by decide +kernel
theorem dX11_isAlong_48 : decode cX11_isAlong 48 = .ok (.iload 6, 2) := by decide +kernel
theorem dX11_isAlong_50 : decode cX11_isAlong 50 = .ok (.laload, 1) := by decide +kernel
theorem dX11_isAlong_51 : decode cX11_isAlong 51 = .ok (.aload_n 0, 1) := by decide +kernel
theorem dX11_isAlong_52 : decode cX11_isAlong 52 = .ok (.getfield 41, 3) := by decide +kernel
theorem dX11_isAlong_55 : decode cX11_isAlong 55 = .ok (.iconst 3, 1) := by decide +kernel
theorem dX11_isAlong_56 : decode cX11_isAlong 56 = .ok (.iload_n 1, 1) := by decide +kernel
theorem dX11_isAlong_57 : decode cX11_isAlong 57 = .ok (.imul, 1) := by decide +kernel
theorem dX11_isAlong_58 : decode cX11_isAlong 58 = .ok (.iload 5, 2) := by decide +kernel
theorem dX11_isAlong_60 : decode cX11_isAlong 60 = .ok (.iadd, 1) := by decide +kernel
theorem dX11_isAlong_61 : decode cX11_isAlong 61 = .ok (.laload, 1) := by decide +kernel
theorem dX11_isAlong_62 : decode cX11_isAlong 62 = .ok (.lmul, 1) := by decide +kernel
theorem dX11_isAlong_63 : decode cX11_isAlong 63 = .ok (.lcmp, 1) := by decide +kernel
theorem dX11_isAlong_64 : decode cX11_isAlong 64 = .ok (.ifCond .ne 7, 3) := by decide +kernel
theorem dX11_isAlong_67 : decode cX11_isAlong 67 = .ok (.iconst 1, 1) := by decide +kernel
theorem dX11_isAlong_68 : decode cX11_isAlong 68 = .ok (.goto 4, 3) := by decide +kernel
theorem dX11_isAlong_71 : decode cX11_isAlong 71 = .ok (.iconst 0, 1) := by decide +kernel
theorem dX11_isAlong_72 : decode cX11_isAlong 72 = .ok (.istore_n 2, 1) := by decide +kernel
theorem dX11_isAlong_73 : decode cX11_isAlong 73 = .ok (.lload_n 3, 1) := by decide +kernel
theorem dX11_isAlong_74 : decode cX11_isAlong 74 = .ok (.aload_n 0, 1) := by decide +kernel
theorem dX11_isAlong_75 : decode cX11_isAlong 75 = .ok (.getfield 60, 3) := by decide +kernel
theorem dX11_isAlong_78 : decode cX11_isAlong 78 = .ok (.iload 5, 2) := by decide +kernel
theorem dX11_isAlong_80 : decode cX11_isAlong 80 = .ok (.laload, 1) := by decide +kernel
theorem dX11_isAlong_81 : decode cX11_isAlong 81 = .ok (.aload_n 0, 1) := by decide +kernel
theorem dX11_isAlong_82 : decode cX11_isAlong 82 = .ok (.getfield 41, 3) := by decide +kernel
theorem dX11_isAlong_85 : decode cX11_isAlong 85 = .ok (.iconst 3, 1) := by decide +kernel
theorem dX11_isAlong_86 : decode cX11_isAlong 86 = .ok (.iload_n 1, 1) := by decide +kernel
theorem dX11_isAlong_87 : decode cX11_isAlong 87 = .ok (.imul, 1) := by decide +kernel
theorem dX11_isAlong_88 : decode cX11_isAlong 88 = .ok (.iload 5, 2) := by decide +kernel
theorem dX11_isAlong_90 : decode cX11_isAlong 90 = .ok (.iadd, 1) := by decide +kernel
theorem dX11_isAlong_91 : decode cX11_isAlong 91 = .ok (.laload, 1) := by decide +kernel
theorem dX11_isAlong_92 : decode cX11_isAlong 92 = .ok (.lmul, 1) := by decide +kernel
theorem dX11_isAlong_93 : decode cX11_isAlong 93 = .ok (.ladd, 1) := by decide +kernel
theorem dX11_isAlong_94 : decode cX11_isAlong 94 = .ok (.lstore_n 3, 1) := by decide +kernel
theorem dX11_isAlong_95 : decode cX11_isAlong 95 = .ok (.iinc 5 1, 3) := by decide +kernel
theorem dX11_isAlong_98 : decode cX11_isAlong 98 = .ok (.goto (-91), 3) := by decide +kernel
theorem dX11_isAlong_101 : decode cX11_isAlong 101 = .ok (.iload_n 2, 1) := by decide +kernel
theorem dX11_isAlong_102 : decode cX11_isAlong 102 = .ok (.ifCond .eq 13, 3) := by decide +kernel
theorem dX11_isAlong_105 : decode cX11_isAlong 105 = .ok (.lload_n 3, 1) := by decide +kernel
theorem dX11_isAlong_106 : decode cX11_isAlong 106 = .ok (.lconst 0, 1) := by decide +kernel
theorem dX11_isAlong_107 : decode cX11_isAlong 107 = .ok (.lcmp, 1) := by decide +kernel
theorem dX11_isAlong_108 : decode cX11_isAlong 108 = .ok (.ifCond .le 7, 3) := by decide +kernel
theorem dX11_isAlong_111 : decode cX11_isAlong 111 = .ok (.iconst 1, 1) := by decide +kernel
theorem dX11_isAlong_112 : decode cX11_isAlong 112 = .ok (.goto 4, 3) := by decide +kernel
theorem dX11_isAlong_115 : decode cX11_isAlong 115 = .ok (.iconst 0, 1) := by decide +kernel
theorem dX11_isAlong_116 : decode cX11_isAlong 116 = .ok (.ireturn, 1) := by decide +kernel
theorem dX11_isBetween_0 : decode cX11_isBetween 0 = .ok (.aload_n 0, 1) := by decide +kernel
theorem dX11_isBetween_1 : decode cX11_isBetween 1 = .ok (.getfield 45, 3) := by decide +kernel
theorem dX11_isBetween_4 : decode cX11_isBetween 4 = .ok (.iconst 0, 1) := by decide +kernel
theorem dX11_isBetween_5 : decode cX11_isBetween 5 = .ok (.laload, 1) := by decide +kernel
theorem dX11_isBetween_6 : decode cX11_isBetween 6 = .ok (.aload_n 0, 1) := by decide +kernel
theorem dX11_isBetween_7 : decode cX11_isBetween 7 = .ok (.getfield 60, 3) := by decide +kernel
theorem dX11_isBetween_10 : decode cX11_isBetween 10 = .ok (.iconst 0, 1) := by decide +kernel
theorem dX11_isBetween_11 : decode cX11_isBetween 11 = .ok (.laload, 1) := by decide +kernel
theorem dX11_isBetween_12 : decode cX11_isBetween 12 = .ok (.lmul, 1) := by decide +kernel
theorem dX11_isBetween_13 : decode cX11_isBetween 13 = .ok (.aload_n 0, 1) := by decide +kernel
theorem dX11_isBetween_14 : decode cX11_isBetween 14 = .ok (.getfield 45, 3) := by decide +kernel
theorem dX11_isBetween_17 : decode cX11_isBetween 17 = .ok (.iconst 1, 1) := by decide +kernel
theorem dX11_isBetween_18 : decode cX11_isBetween 18 = .ok (.laload, 1) := by decide +kernel
theorem dX11_isBetween_19 : decode cX11_isBetween 19 = .ok (.aload_n 0, 1) := by decide +kernel
theorem dX11_isBetween_20 : decode cX11_isBetween 20 = .ok (.getfield 60, 3) := by decide +kernel
theorem dX11_isBetween_23 : decode cX11_isBetween 23 = .ok (.iconst 1, 1) := by decide +kernel
theorem dX11_isBetween_24 : decode cX11_isBetween 24 = .ok (.laload, 1) := by decide +kernel
theorem dX11_isBetween_25 : decode cX11_isBetween 25 = .ok (.lmul, 1) := by decide +kernel
theorem dX11_isBetween_26 : decode cX11_isBetween 26 = .ok (.ladd, 1) := by decide +kernel
theorem dX11_isBetween_27 : decode cX11_isBetween 27 = .ok (.aload_n 0, 1) := by decide +kernel
theorem dX11_isBetween_28 : decode cX11_isBetween 28 = .ok (.getfield 45, 3) := by decide +kernel
theorem dX11_isBetween_31 : decode cX11_isBetween 31 = .ok (.iconst 2, 1) := by decide +kernel
theorem dX11_isBetween_32 : decode cX11_isBetween 32 = .ok (.laload, 1) := by decide +kernel
theorem dX11_isBetween_33 : decode cX11_isBetween 33 = .ok (.aload_n 0, 1) := by decide +kernel
theorem dX11_isBetween_34 : decode cX11_isBetween 34 = .ok (.getfield 60, 3) := by decide +kernel
theorem dX11_isBetween_37 : decode cX11_isBetween 37 = .ok (.iconst 2, 1) := by decide +kernel
theorem dX11_isBetween_38 : decode cX11_isBetween 38 = .ok (.laload, 1) := by decide +kernel
theorem dX11_isBetween_39 : decode cX11_isBetween 39 = .ok (.lmul, 1) := by decide +kernel
theorem dX11_isBetween_40 : decode cX11_isBetween 40 = .ok (.ladd, 1) := by decide +kernel
theorem dX11_isBetween_41 : decode cX11_isBetween 41 = .ok (.lconst 0, 1) := by decide +kernel
theorem dX11_isBetween_42 : decode cX11_isBetween 42 = .ok (.lcmp, 1) := by decide +kernel
theorem dX11_isBetween_43 : decode cX11_isBetween 43 = .ok (.ifCond .eq 5, 3) := by decide +kernel
theorem dX11_isBetween_46 : decode cX11_isBetween 46 = .ok (.iconst 0, 1) := by decide +kernel
theorem dX11_isBetween_47 : decode cX11_isBetween 47 = .ok (.ireturn, 1) := by decide +kernel
theorem dX11_isBetween_48 : decode cX11_isBetween 48 = .ok (.lconst 0, 1) := by decide +kernel
theorem dX11_isBetween_49 : decode cX11_isBetween 49 = .ok (.lstore_n 3, 1) := by decide +kernel
theorem dX11_isBetween_50 : decode cX11_isBetween 50 = .ok (.lconst 0, 1) := by decide +kernel
theorem dX11_isBetween_51 : decode cX11_isBetween 51 = .ok (.lstore 5, 2) := by decide +kernel
theorem dX11_isBetween_53 : decode cX11_isBetween 53 = .ok (.iconst 0, 1) := by decide +kernel
theorem dX11_isBetween_54 : decode cX11_isBetween 54 = .ok (.istore 7, 2) := by decide +kernel
theorem dX11_isBetween_56 : decode cX11_isBetween 56 = .ok (.iload 7, 2) := by decide +kernel
theorem dX11_isBetween_58 : decode cX11_isBetween 58 = .ok (.iconst 3, 1) := by decide +kernel
theorem dX11_isBetween_59 : decode cX11_isBetween 59 = .ok (.if_icmp .ge 127, 3) := by decide +kernel
theorem dX11_isBetween_62 : decode cX11_isBetween 62 = .ok (.iload 7, 2) := by decide +kernel
theorem dX11_isBetween_64 : decode cX11_isBetween 64 = .ok (.iconst 1, 1) := by decide +kernel
theorem dX11_isBetween_65 : decode cX11_isBetween 65 = .ok (.iadd, 1) := by decide +kernel
theorem dX11_isBetween_66 : decode cX11_isBetween 66 = .ok (.iconst 3, 1) := by decide +kernel
theorem dX11_isBetween_67 : decode cX11_isBetween 67 = .ok (.irem, 1) := by decide +kernel
theorem dX11_isBetween_68 : decode cX11_isBetween 68 = .ok (.istore 8, 2) := by decide +kernel
theorem dX11_isBetween_70 : decode cX11_isBetween 70 = .ok (.iload 7, 2) := by decide +kernel
theorem dX11_isBetween_72 : decode cX11_isBetween 72 = .ok (.iconst 2, 1) := by decide +kernel
theorem dX11_isBetween_73 : decode cX11_isBetween 73 = .ok (.iadd, 1) := by decide +kernel
theorem dX11_isBetween_74 : decode cX11_isBetween 74 = .ok (.iconst 3, 1) := by decide +kernel
theorem dX11_isBetween_75 : decode cX11_isBetween 75 = .ok (.irem, 1) := by decide +kernel
theorem dX11_isBetween_76 : decode cX11_isBetween 76 = .ok (.istore 9, 2) := by decide +kernel
theorem dX11_isBetween_78 : decode cX11_isBetween 78 = .ok (.lload_n 3, 1) := by decide +kernel
theorem dX11_isBetween_79 : decode cX11_isBetween 79 = .ok (.aload_n 0, 1) := by decide +kernel
theorem dX11_isBetween_80 : decode cX11_isBetween 80 = .ok (.getfield 45, 3) := by decide +kernel
theorem dX11_isBetween_83 : decode cX11_isBetween 83 = .ok (.iload 7, 2) := by decide +kernel
theorem dX11_isBetween_85 : decode cX11_isBetween 85 = .ok (.laload, 1) := by decide +kernel
theorem dX11_isBetween_86 : decode cX11_isBetween 86 = .ok (.aload_n 0, 1) := by decide +kernel
theorem dX11_isBetween_87 : decode cX11_isBetween 87 = .ok (.getfield 60, 3) := by decide +kernel
theorem dX11_isBetween_90 : decode cX11_isBetween 90 = .ok (.iload 8, 2) := by decide +kernel
theorem dX11_isBetween_92 : decode cX11_isBetween 92 = .ok (.laload, 1) := by decide +kernel
theorem dX11_isBetween_93 : decode cX11_isBetween 93 = .ok (.aload_n 0, 1) := by decide +kernel
theorem dX11_isBetween_94 : decode cX11_isBetween 94 = .ok (.getfield 41, 3) := by decide +kernel
theorem dX11_isBetween_97 : decode cX11_isBetween 97 = .ok (.iconst 3, 1) := by decide +kernel
theorem dX11_isBetween_98 : decode cX11_isBetween 98 = .ok (.iload_n 2, 1) := by decide +kernel
theorem dX11_isBetween_99 : decode cX11_isBetween 99 = .ok (.imul, 1) := by decide +kernel
theorem dX11_isBetween_100 : decode cX11_isBetween 100 = .ok (.iload 9, 2) := by decide +kernel
theorem dX11_isBetween_102 : decode cX11_isBetween 102 = .ok (.iadd, 1) := by decide +kernel
theorem dX11_isBetween_103 : decode cX11_isBetween 103 = .ok (.laload, 1) := by decide +kernel
theorem dX11_isBetween_104 : decode cX11_isBetween 104 = .ok (.lmul, 1) := by decide +kernel
theorem dX11_isBetween_105 : decode cX11_isBetween 105 = .ok (.aload_n 0, 1) := by decide +kernel
theorem dX11_isBetween_106 : decode cX11_isBetween 106 = .ok (.getfield 60, 3) := by decide +kernel
theorem dX11_isBetween_109 : decode cX11_isBetween 109 = .ok (.iload 9, 2) := by decide +kernel
theorem dX11_isBetween_111 : decode cX11_isBetween 111 = .ok (.laload, 1) := by decide +kernel
theorem dX11_isBetween_112 : decode cX11_isBetween 112 = .ok (.aload_n 0, 1) := by decide +kernel
theorem dX11_isBetween_113 : decode cX11_isBetween 113 = .ok (.getfield 41, 3) := by decide +kernel
theorem dX11_isBetween_116 : decode cX11_isBetween 116 = .ok (.iconst 3, 1) := by decide +kernel
theorem dX11_isBetween_117 : decode cX11_isBetween 117 = .ok (.iload_n 2, 1) := by decide +kernel
theorem dX11_isBetween_118 : decode cX11_isBetween 118 = .ok (.imul, 1) := by decide +kernel
theorem dX11_isBetween_119 : decode cX11_isBetween 119 = .ok (.iload 8, 2) := by decide +kernel
theorem dX11_isBetween_121 : decode cX11_isBetween 121 = .ok (.iadd, 1) := by decide +kernel
theorem dX11_isBetween_122 : decode cX11_isBetween 122 = .ok (.laload, 1) := by decide +kernel
theorem dX11_isBetween_123 : decode cX11_isBetween 123 = .ok (.lmul, 1) := by decide +kernel
theorem dX11_isBetween_124 : decode cX11_isBetween 124 = .ok (.lsub, 1) := by decide +kernel
theorem dX11_isBetween_125 : decode cX11_isBetween 125 = .ok (.lmul, 1) := by decide +kernel
theorem dX11_isBetween_126 : decode cX11_isBetween 126 = .ok (.ladd, 1) := by decide +kernel
theorem dX11_isBetween_127 : decode cX11_isBetween 127 = .ok (.lstore_n 3, 1) := by decide +kernel
theorem dX11_isBetween_128 : decode cX11_isBetween 128 = .ok (.lload 5, 2) := by decide +kernel
theorem dX11_isBetween_130 : decode cX11_isBetween 130 = .ok (.aload_n 0, 1) := by decide +kernel
theorem dX11_isBetween_131 : decode cX11_isBetween 131 = .ok (.getfield 45, 3) := by decide +kernel
theorem dX11_isBetween_134 : decode cX11_isBetween 134 = .ok (.iload 7, 2) := by decide +kernel
theorem dX11_isBetween_136 : decode cX11_isBetween 136 = .ok (.laload, 1) := by decide +kernel
theorem dX11_isBetween_137 : decode cX11_isBetween 137 = .ok (.aload_n 0, 1) := by decide +kernel
theorem dX11_isBetween_138 : decode cX11_isBetween 138 = .ok (.getfield 41, 3) := by decide +kernel
theorem dX11_isBetween_141 : decode cX11_isBetween 141 = .ok (.iconst 3, 1) := by decide +kernel
theorem dX11_isBetween_142 : decode cX11_isBetween 142 = .ok (.iload_n 1, 1) := by decide +kernel
theorem dX11_isBetween_143 : decode cX11_isBetween 143 = .ok (.imul, 1) := by decide +kernel
theorem dX11_isBetween_144 : decode cX11_isBetween 144 = .ok (.iload 8, 2) := by decide +kernel
theorem dX11_isBetween_146 : decode cX11_isBetween 146 = .ok (.iadd, 1) := by decide +kernel
theorem dX11_isBetween_147 : decode cX11_isBetween 147 = .ok (.laload, 1) := by decide +kernel
theorem dX11_isBetween_148 : decode cX11_isBetween 148 = .ok (.aload_n 0, 1) := by decide +kernel
theorem dX11_isBetween_149 : decode cX11_isBetween 149 = .ok (.getfield 60, 3) := by decide +kernel
theorem dX11_isBetween_152 : decode cX11_isBetween 152 = .ok (.iload 9, 2) := by decide +kernel
theorem dX11_isBetween_154 : decode cX11_isBetween 154 = .ok (.laload, 1) := by decide +kernel
theorem dX11_isBetween_155 : decode cX11_isBetween 155 = .ok (.lmul, 1) := by decide +kernel
theorem dX11_isBetween_156 : decode cX11_isBetween 156 = .ok (.aload_n 0, 1) := by decide +kernel
theorem dX11_isBetween_157 : decode cX11_isBetween 157 = .ok (.getfield 41, 3) := by decide +kernel
theorem dX11_isBetween_160 : decode cX11_isBetween 160 = .ok (.iconst 3, 1) := by decide +kernel
theorem dX11_isBetween_161 : decode cX11_isBetween 161 = .ok (.iload_n 1, 1) := by decide +kernel
theorem dX11_isBetween_162 : decode cX11_isBetween 162 = .ok (.imul, 1) := by decide +kernel
theorem dX11_isBetween_163 : decode cX11_isBetween 163 = .ok (.iload 9, 2) := by decide +kernel
theorem dX11_isBetween_165 : decode cX11_isBetween 165 = .ok (.iadd, 1) := by decide +kernel
theorem dX11_isBetween_166 : decode cX11_isBetween 166 = .ok (.laload, 1) := by decide +kernel
theorem dX11_isBetween_167 : decode cX11_isBetween 167 = .ok (.aload_n 0, 1) := by decide +kernel
theorem dX11_isBetween_168 : decode cX11_isBetween 168 = .ok (.getfield 60, 3) := by decide +kernel
theorem dX11_isBetween_171 : decode cX11_isBetween 171 = .ok (.iload 8, 2) := by decide +kernel
theorem dX11_isBetween_173 : decode cX11_isBetween 173 = .ok (.laload, 1) := by decide +kernel
theorem dX11_isBetween_174 : decode cX11_isBetween 174 = .ok (.lmul, 1) := by decide +kernel
theorem dX11_isBetween_175 : decode cX11_isBetween 175 = .ok (.lsub, 1) := by decide +kernel
theorem dX11_isBetween_176 : decode cX11_isBetween 176 = .ok (.lmul, 1) := by decide +kernel
theorem dX11_isBetween_177 : decode cX11_isBetween 177 = .ok (.ladd, 1) := by decide +kernel
theorem dX11_isBetween_178 : decode cX11_isBetween 178 = .ok (.lstore 5, 2) := by decide +kernel
theorem dX11_isBetween_180 : decode cX11_isBetween 180 = .ok (.iinc 7 1, 3) := by decide +kernel
theorem dX11_isBetween_183 : decode cX11_isBetween 183 = .ok (.goto (-127), 3) := by decide +kernel
theorem dX11_isBetween_186 : decode cX11_isBetween 186 = .ok (.lload_n 3, 1) := by decide +kernel
theorem dX11_isBetween_187 : decode cX11_isBetween 187 = .ok (.lconst 0, 1) := by decide +kernel
theorem dX11_isBetween_188 : decode cX11_isBetween 188 = .ok (.lcmp, 1) := by decide +kernel
theorem dX11_isBetween_189 : decode cX11_isBetween 189 = .ok (.ifCond .lt 14, 3) := by decide +kernel
theorem dX11_isBetween_192 : decode cX11_isBetween 192 = .ok (.lload 5, 2) := by decide +kernel
theorem dX11_isBetween_194 : decode cX11_isBetween 194 = .ok (.lconst 0, 1) := by decide +kernel
theorem dX11_isBetween_195 : decode cX11_isBetween 195 = .ok (.lcmp, 1) := by decide +kernel
theorem dX11_isBetween_196 : decode cX11_isBetween 196 = .ok (.ifCond .lt 7, 3) := by decide +kernel
theorem dX11_isBetween_199 : decode cX11_isBetween 199 = .ok (.iconst 1, 1) := by decide +kernel
theorem dX11_isBetween_200 : decode cX11_isBetween 200 = .ok (.goto 4, 3) := by decide +kernel
theorem dX11_isBetween_203 : decode cX11_isBetween 203 = .ok (.iconst 0, 1) := by decide +kernel
theorem dX11_isBetween_204 : decode cX11_isBetween 204 = .ok (.ireturn, 1) := by decide +kernel
theorem dX11_isHeld_0 : decode cX11_isHeld 0 = .ok (.aload_n 0, 1) := by decide +kernel
theorem dX11_isHeld_1 : decode cX11_isHeld 1 = .ok (.getfield 60, 3) := by decide +kernel
theorem dX11_isHeld_4 : decode cX11_isHeld 4 = .ok (.iconst 0, 1) := by decide +kernel
theorem dX11_isHeld_5 : decode cX11_isHeld 5 = .ok (.iload_n 1, 1) := by decide +kernel
theorem dX11_isHeld_6 : decode cX11_isHeld 6 = .ok (.ineg, 1) := by decide +kernel
theorem dX11_isHeld_7 : decode cX11_isHeld 7 = .ok (.i2l, 1) := by decide +kernel
theorem dX11_isHeld_8 : decode cX11_isHeld 8 = .ok (.iload 4, 2) := by decide +kernel
theorem dX11_isHeld_10 : decode cX11_isHeld 10 = .ok (.i2l, 1) := by decide +kernel
theorem dX11_isHeld_11 : decode cX11_isHeld 11 = .ok (.aload_n 0, 1) := by decide +kernel
theorem dX11_isHeld_12 : decode cX11_isHeld 12 = .ok (.getfield 57, 3) := by decide +kernel
theorem dX11_isHeld_15 : decode cX11_isHeld 15 = .ok (.iconst 0, 1) := by decide +kernel
theorem dX11_isHeld_16 : decode cX11_isHeld 16 = .ok (.laload, 1) := by decide +kernel
theorem dX11_isHeld_17 : decode cX11_isHeld 17 = .ok (.lmul, 1) := by decide +kernel
theorem dX11_isHeld_18 : decode cX11_isHeld 18 = .ok (.lsub, 1) := by decide +kernel
theorem dX11_isHeld_19 : decode cX11_isHeld 19 = .ok (.lastore, 1) := by decide +kernel
theorem dX11_isHeld_20 : decode cX11_isHeld 20 = .ok (.aload_n 0, 1) := by decide +kernel
theorem dX11_isHeld_21 : decode cX11_isHeld 21 = .ok (.getfield 60, 3) := by decide +kernel
theorem dX11_isHeld_24 : decode cX11_isHeld 24 = .ok (.iconst 1, 1) := by decide +kernel
theorem dX11_isHeld_25 : decode cX11_isHeld 25 = .ok (.iload_n 2, 1) := by decide +kernel
theorem dX11_isHeld_26 : decode cX11_isHeld 26 = .ok (.ineg, 1) := by decide +kernel
theorem dX11_isHeld_27 : decode cX11_isHeld 27 = .ok (.i2l, 1) := by decide +kernel
theorem dX11_isHeld_28 : decode cX11_isHeld 28 = .ok (.iload 4, 2) := by decide +kernel
theorem dX11_isHeld_30 : decode cX11_isHeld 30 = .ok (.i2l, 1) := by decide +kernel
theorem dX11_isHeld_31 : decode cX11_isHeld 31 = .ok (.aload_n 0, 1) := by decide +kernel
theorem dX11_isHeld_32 : decode cX11_isHeld 32 = .ok (.getfield 57, 3) := by decide +kernel
theorem dX11_isHeld_35 : decode cX11_isHeld 35 = .ok (.iconst 1, 1) := by decide +kernel
theorem dX11_isHeld_36 : decode cX11_isHeld 36 = .ok (.laload, 1) := by decide +kernel
theorem dX11_isHeld_37 : decode cX11_isHeld 37 = .ok (.lmul, 1) := by decide +kernel
theorem dX11_isHeld_38 : decode cX11_isHeld 38 = .ok (.lsub, 1) := by decide +kernel
theorem dX11_isHeld_39 : decode cX11_isHeld 39 = .ok (.lastore, 1) := by decide +kernel
theorem dX11_isHeld_40 : decode cX11_isHeld 40 = .ok (.aload_n 0, 1) := by decide +kernel
theorem dX11_isHeld_41 : decode cX11_isHeld 41 = .ok (.getfield 60, 3) := by decide +kernel
theorem dX11_isHeld_44 : decode cX11_isHeld 44 = .ok (.iconst 2, 1) := by decide +kernel
theorem dX11_isHeld_45 : decode cX11_isHeld 45 = .ok (.iload_n 3, 1) := by decide +kernel
theorem dX11_isHeld_46 : decode cX11_isHeld 46 = .ok (.ineg, 1) := by decide +kernel
theorem dX11_isHeld_47 : decode cX11_isHeld 47 = .ok (.i2l, 1) := by decide +kernel
theorem dX11_isHeld_48 : decode cX11_isHeld 48 = .ok (.iload 4, 2) := by decide +kernel
theorem dX11_isHeld_50 : decode cX11_isHeld 50 = .ok (.i2l, 1) := by decide +kernel
theorem dX11_isHeld_51 : decode cX11_isHeld 51 = .ok (.aload_n 0, 1) := by decide +kernel
theorem dX11_isHeld_52 : decode cX11_isHeld 52 = .ok (.getfield 57, 3) := by decide +kernel
theorem dX11_isHeld_55 : decode cX11_isHeld 55 = .ok (.iconst 2, 1) := by decide +kernel
theorem dX11_isHeld_56 : decode cX11_isHeld 56 = .ok (.laload, 1) := by decide +kernel
theorem dX11_isHeld_57 : decode cX11_isHeld 57 = .ok (.lmul, 1) := by decide +kernel
theorem dX11_isHeld_58 : decode cX11_isHeld 58 = .ok (.lsub, 1) := by decide +kernel
theorem dX11_isHeld_59 : decode cX11_isHeld 59 = .ok (.lastore, 1) := by decide +kernel
theorem dX11_isHeld_60 : decode cX11_isHeld 60 = .ok (.aload_n 0, 1) := by decide +kernel
theorem dX11_isHeld_61 : decode cX11_isHeld 61 = .ok (.invokevirtual 220, 3) := by decide +kernel
theorem dX11_isHeld_64 : decode cX11_isHeld 64 = .ok (.ireturn, 1) := by decide +kernel
theorem dX11_isLoad_0 : decode cX11_isLoad 0 = .ok (.aload_n 0, 1) := by decide +kernel
theorem dX11_isLoad_1 : decode cX11_isLoad 1 = .ok (.iload_n 1, 1) := by decide +kernel
theorem dX11_isLoad_2 : decode cX11_isLoad 2 = .ok (.sipush (-1000), 3) := by decide +kernel
theorem dX11_isLoad_5 : decode cX11_isLoad 5 = .ok (.sipush 1000, 3) := by decide +kernel
theorem dX11_isLoad_8 : decode cX11_isLoad 8 = .ok (.invokevirtual 130, 3) := by decide +kernel
theorem dX11_isLoad_11 : decode cX11_isLoad 11 = .ok (.ifCond .eq 35, 3) := by decide +kernel
theorem dX11_isLoad_14 : decode cX11_isLoad 14 = .ok (.aload_n 0, 1) := by decide +kernel
theorem dX11_isLoad_15 : decode cX11_isLoad 15 = .ok (.iload_n 2, 1) := by decide +kernel
theorem dX11_isLoad_16 : decode cX11_isLoad 16 = .ok (.sipush (-1000), 3) := by decide +kernel
theorem dX11_isLoad_19 : decode cX11_isLoad 19 = .ok (.sipush 1000, 3) := by decide +kernel
theorem dX11_isLoad_22 : decode cX11_isLoad 22 = .ok (.invokevirtual 130, 3) := by decide +kernel
theorem dX11_isLoad_25 : decode cX11_isLoad 25 = .ok (.ifCond .eq 21, 3) := by decide +kernel
theorem dX11_isLoad_28 : decode cX11_isLoad 28 = .ok (.aload_n 0, 1) := by decide +kernel
theorem dX11_isLoad_29 : decode cX11_isLoad 29 = .ok (.iload_n 3, 1) := by decide +kernel
theorem dX11_isLoad_30 : decode cX11_isLoad 30 = .ok (.sipush (-1000), 3) := by decide +kernel
theorem dX11_isLoad_33 : decode cX11_isLoad 33 = .ok (.sipush 1000, 3) := by decide +kernel
theorem dX11_isLoad_36 : decode cX11_isLoad 36 = .ok (.invokevirtual 130, 3) := by decide +kernel
theorem dX11_isLoad_39 : decode cX11_isLoad 39 = .ok (.ifCond .eq 7, 3) := by decide +kernel
theorem dX11_isLoad_42 : decode cX11_isLoad 42 = .ok (.iconst 1, 1) := by decide +kernel
theorem dX11_isLoad_43 : decode cX11_isLoad 43 = .ok (.goto 4, 3) := by decide +kernel
theorem dX11_isLoad_46 : decode cX11_isLoad 46 = .ok (.iconst 0, 1) := by decide +kernel
theorem dX11_isLoad_47 : decode cX11_isLoad 47 = .ok (.ireturn, 1) := by decide +kernel
theorem dX11_held_0 : decode cX11_held 0 = .ok (.aload_n 0, 1) := by decide +kernel
theorem dX11_held_1 : decode cX11_held 1 = .ok (.iload_n 1, 1) := by decide +kernel
theorem dX11_held_2 : decode cX11_held 2 = .ok (.iload_n 2, 1) := by decide +kernel
theorem dX11_held_3 : decode cX11_held 3 = .ok (.iload_n 3, 1) := by decide +kernel
theorem dX11_held_4 : decode cX11_held 4 = .ok (.invokevirtual 224, 3) := by decide +kernel
theorem dX11_held_7 : decode cX11_held 7 = .ok (.ifCond .eq 16, 3) := by decide +kernel
theorem dX11_held_10 : decode cX11_held 10 = .ok (.aload_n 0, 1) := by decide +kernel
theorem dX11_held_11 : decode cX11_held 11 = .ok (.iload 4, 2) := by decide +kernel
theorem dX11_held_13 : decode cX11_held 13 = .ok (.iconst 0, 1) := by decide +kernel
theorem dX11_held_14 : decode cX11_held 14 = .ok (.sipush 200, 3) := by decide +kernel
theorem dX11_held_17 : decode cX11_held 17 = .ok (.invokevirtual 130, 3) := by decide +kernel
theorem dX11_held_20 : decode cX11_held 20 = .ok (.ifCond .ne 5, 3) := by decide +kernel
theorem dX11_held_23 : decode cX11_held 23 = .ok (.iconst (-1), 1) := by decide +kernel
theorem dX11_held_24 : decode cX11_held 24 = .ok (.ireturn, 1) := by decide +kernel
theorem dX11_held_25 : decode cX11_held 25 = .ok (.aload_n 0, 1) := by decide +kernel
theorem dX11_held_26 : decode cX11_held 26 = .ok (.invokevirtual 227, 3) := by decide +kernel
theorem dX11_held_29 : decode cX11_held 29 = .ok (.aload_n 0, 1) := by decide +kernel
theorem dX11_held_30 : decode cX11_held 30 = .ok (.iload_n 1, 1) := by decide +kernel
