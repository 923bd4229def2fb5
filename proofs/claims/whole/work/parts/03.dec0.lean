theorem dX0_init_0 : decode cX0_init 0 = .ok (.aload_n 0, 1) := by decide +kernel
theorem dX0_init_1 : decode cX0_init 1 = .ok (.iload_n 1, 1) := by decide +kernel
theorem dX0_init_2 : decode cX0_init 2 = .ok (.iload_n 2, 1) := by decide +kernel
theorem dX0_init_3 : decode cX0_init 3 = .ok (.iload_n 3, 1) := by decide +kernel
theorem dX0_init_4 : decode cX0_init 4 = .ok (.iload 4, 2) := by decide +kernel
theorem dX0_init_6 : decode cX0_init 6 = .ok (.iload 5, 2) := by decide +kernel
theorem dX0_init_8 : decode cX0_init 8 = .ok (.invokespecial 3, 3) := by decide +kernel
theorem dX0_init_11 : decode cX0_init 11 = .ok (.return_, 1) := by decide +kernel
theorem dX0_kind_0 : decode cX0_kind 0 = .ok (.iconst 3, 1) := by decide +kernel
theorem dX0_kind_1 : decode cX0_kind 1 = .ok (.ireturn, 1) := by decide +kernel
theorem dX0_pushCount_0 : decode cX0_pushCount 0 = .ok (.iconst 3, 1) := by decide +kernel
theorem dX0_pushCount_1 : decode cX0_pushCount 1 = .ok (.ireturn, 1) := by decide +kernel
theorem dX0_leans_0 : decode cX0_leans 0 = .ok (.iconst 1, 1) := by decide +kernel
theorem dX0_leans_1 : decode cX0_leans 1 = .ok (.iload_n 1, 1) := by decide +kernel
theorem dX0_leans_2 : decode cX0_leans 2 = .ok (.isub, 1) := by decide +kernel
theorem dX0_leans_3 : decode cX0_leans 3 = .ok (.ireturn, 1) := by decide +kernel
theorem dX0_weighs_0 : decode cX0_weighs 0 = .ok (.iconst 2, 1) := by decide +kernel
theorem dX0_weighs_1 : decode cX0_weighs 1 = .ok (.bipush 10, 2) := by decide +kernel
theorem dX0_weighs_3 : decode cX0_weighs 3 = .ok (.aload_n 0, 1) := by decide +kernel
theorem dX0_weighs_4 : decode cX0_weighs 4 = .ok (.getfield 9, 3) := by decide +kernel
theorem dX0_weighs_7 : decode cX0_weighs 7 = .ok (.iadd, 1) := by decide +kernel
theorem dX0_weighs_8 : decode cX0_weighs 8 = .ok (.aload_n 0, 1) := by decide +kernel
theorem dX0_weighs_9 : decode cX0_weighs 9 = .ok (.getfield 15, 3) := by decide +kernel
theorem dX0_weighs_12 : decode cX0_weighs 12 = .ok (.iadd, 1) := by decide +kernel
theorem dX0_weighs_13 : decode cX0_weighs 13 = .ok (.bipush 100, 2) := by decide +kernel
theorem dX0_weighs_15 : decode cX0_weighs 15 = .ok (.iadd, 1) := by decide +kernel
theorem dX0_weighs_16 : decode cX0_weighs 16 = .ok (.imul, 1) := by decide +kernel
theorem dX0_weighs_17 : decode cX0_weighs 17 = .ok (.ireturn, 1) := by decide +kernel
theorem dX1_init_0 : decode cX1_init 0 = .ok (.aload_n 0, 1) := by decide +kernel
theorem dX1_init_1 : decode cX1_init 1 = .ok (.iload_n 1, 1) := by decide +kernel
theorem dX1_init_2 : decode cX1_init 2 = .ok (.iload_n 2, 1) := by decide +kernel
theorem dX1_init_3 : decode cX1_init 3 = .ok (.iload_n 3, 1) := by decide +kernel
theorem dX1_init_4 : decode cX1_init 4 = .ok (.iload 4, 2) := by decide +kernel
theorem dX1_init_6 : decode cX1_init 6 = .ok (.invokespecial 3, 3) := by decide +kernel
theorem dX1_init_9 : decode cX1_init 9 = .ok (.return_, 1) := by decide +kernel
theorem dX1_kind_0 : decode cX1_kind 0 = .ok (.iconst 2, 1) := by decide +kernel
theorem dX1_kind_1 : decode cX1_kind 1 = .ok (.ireturn, 1) := by decide +kernel
theorem dX1_places_0 : decode cX1_places 0 = .ok (.iconst 0, 1) := by decide +kernel
theorem dX1_places_1 : decode cX1_places 1 = .ok (.ireturn, 1) := by decide +kernel
theorem dX1_weighs_0 : decode cX1_weighs 0 = .ok (.bipush 10, 2) := by decide +kernel
theorem dX1_weighs_2 : decode cX1_weighs 2 = .ok (.aload_n 0, 1) := by decide +kernel
theorem dX1_weighs_3 : decode cX1_weighs 3 = .ok (.getfield 9, 3) := by decide +kernel
theorem dX1_weighs_6 : decode cX1_weighs 6 = .ok (.iadd, 1) := by decide +kernel
theorem dX1_weighs_7 : decode cX1_weighs 7 = .ok (.sipush 1000, 3) := by decide +kernel
theorem dX1_weighs_10 : decode cX1_weighs 10 = .ok (.iadd, 1) := by decide +kernel
theorem dX1_weighs_11 : decode cX1_weighs 11 = .ok (.ireturn, 1) := by decide +kernel
theorem dX2_init_0 : decode cX2_init 0 = .ok (.aload_n 0, 1) := by decide +kernel
theorem dX2_init_1 : decode cX2_init 1 = .ok (.invokespecial 3, 3) := by decide +kernel
theorem dX2_init_4 : decode cX2_init 4 = .ok (.aload_n 0, 1) := by decide +kernel
theorem dX2_init_5 : decode cX2_init 5 = .ok (.bipush 30, 2) := by decide +kernel
theorem dX2_init_7 : decode cX2_init 7 = .ok (.newarray .long, 2) := by decide +kernel
theorem dX2_init_9 : decode cX2_init 9 = .ok (.putfield 9, 3) := by decide +kernel
theorem dX2_init_12 : decode cX2_init 12 = .ok (.aload_n 0, 1) := by decide +kernel
theorem dX2_init_13 : decode cX2_init 13 = .ok (.bipush 30, 2) := by decide +kernel
theorem dX2_init_15 : decode cX2_init 15 = .ok (.newarray .long, 2) := by decide +kernel
theorem dX2_init_17 : decode cX2_init 17 = .ok (.putfield 15, 3) := by decide +kernel
theorem dX2_init_20 : decode cX2_init 20 = .ok (.aload_n 0, 1) := by decide +kernel
theorem dX2_init_21 : decode cX2_init 21 = .ok (.bipush 30, 2) := by decide +kernel
theorem dX2_init_23 : decode cX2_init 23 = .ok (.newarray .long, 2) := by decide +kernel
theorem dX2_init_25 : decode cX2_init 25 = .ok (.putfield 18, 3) := by decide +kernel
theorem dX2_init_28 : decode cX2_init 28 = .ok (.aload_n 0, 1) := by decide +kernel
theorem dX2_init_29 : decode cX2_init 29 = .ok (.iconst 0, 1) := by decide +kernel
theorem dX2_init_30 : decode cX2_init 30 = .ok (.putfield 21, 3) := by decide +kernel
theorem dX2_init_33 : decode cX2_init 33 = .ok (.aload_n 0, 1) := by decide +kernel
theorem dX2_init_34 : decode cX2_init 34 = .ok (.bipush 32, 2) := by decide +kernel
theorem dX2_init_36 : decode cX2_init 36 = .ok (.newarray .long, 2) := by decide +kernel
theorem dX2_init_38 : decode cX2_init 38 = .ok (.putfield 25, 3) := by decide +kernel
theorem dX2_init_41 : decode cX2_init 41 = .ok (.aload_n 0, 1) := by decide +kernel
theorem dX2_init_42 : decode cX2_init 42 = .ok (.bipush 32, 2) := by decide +kernel
theorem dX2_init_44 : decode cX2_init 44 = .ok (.newarray .long, 2) := by decide +kernel
theorem dX2_init_46 : decode cX2_init 46 = .ok (.putfield 28, 3) := by decide +kernel
theorem dX2_init_49 : decode cX2_init 49 = .ok (.aload_n 0, 1) := by decide +kernel
theorem dX2_init_50 : decode cX2_init 50 = .ok (.bipush 32, 2) := by decide +kernel
theorem dX2_init_52 : decode cX2_init 52 = .ok (.newarray .long, 2) := by decide +kernel
theorem dX2_init_54 : decode cX2_init 54 = .ok (.putfield 31, 3) := by decide +kernel
theorem dX2_init_57 : decode cX2_init 57 = .ok (.aload_n 0, 1) := by decide +kernel
theorem dX2_init_58 : decode cX2_init 58 = .ok (.iconst 0, 1) := by decide +kernel
theorem dX2_init_59 : decode cX2_init 59 = .ok (.putfield 34, 3) := by decide +kernel
theorem dX2_init_62 : decode cX2_init 62 = .ok (.aload_n 0, 1) := by decide +kernel
theorem dX2_init_63 : decode cX2_init 63 = .ok (.lconst 0, 1) := by decide +kernel
theorem dX2_init_64 : decode cX2_init 64 = .ok (.putfield 37, 3) := by decide +kernel
theorem dX2_init_67 : decode cX2_init 67 = .ok (.aload_n 0, 1) := by decide +kernel
theorem dX2_init_68 : decode cX2_init 68 = .ok (.lconst 0, 1) := by decide +kernel
theorem dX2_init_69 : decode cX2_init 69 = .ok (.putfield 41, 3) := by decide +kernel
theorem dX2_init_72 : decode cX2_init 72 = .ok (.aload_n 0, 1) := by decide +kernel
theorem dX2_init_73 : decode cX2_init 73 = .ok (.lconst 0, 1) := by decide +kernel
theorem dX2_init_74 : decode cX2_init 74 = .ok (.putfield 44, 3) := by decide +kernel
theorem dX2_init_77 : decode cX2_init 77 = .ok (.return_, 1) := by decide +kernel
theorem dX2_clear_0 : decode cX2_clear 0 = .ok (.aload_n 0, 1) := by decide +kernel
theorem dX2_clear_1 : decode cX2_clear 1 = .ok (.iconst 0, 1) := by decide +kernel
theorem dX2_clear_2 : decode cX2_clear 2 = .ok (.putfield 21, 3) := by decide +kernel
theorem dX2_clear_5 : decode cX2_clear 5 = .ok (.aload_n 0, 1) := by decide +kernel
theorem dX2_clear_6 : decode cX2_clear 6 = .ok (.iconst 0, 1) := by decide +kernel
theorem dX2_clear_7 : decode cX2_clear 7 = .ok (.putfield 34, 3) := by decide +kernel
theorem dX2_clear_10 : decode cX2_clear 10 = .ok (.return_, 1) := by decide +kernel
theorem dX2_add_0 : decode cX2_add 0 = .ok (.aload_n 0, 1) := by decide +kernel
theorem dX2_add_1 : decode cX2_add 1 = .ok (.getfield 21, 3) := by decide +kernel
theorem dX2_add_4 : decode cX2_add 4 = .ok (.bipush 30, 2) := by decide +kernel
theorem dX2_add_6 : decode cX2_add 6 = .ok (.if_icmp .ge 58, 3) := by decide +kernel
theorem dX2_add_9 : decode cX2_add 9 = .ok (.aload_n 0, 1) := by decide +kernel
theorem dX2_add_10 : decode cX2_add 10 = .ok (.getfield 9, 3) := by decide +kernel
theorem dX2_add_13 : decode cX2_add 13 = .ok (.aload_n 0, 1) := by decide +kernel
theorem dX2_add_14 : decode cX2_add 14 = .ok (.getfield 21, 3) := by decide +kernel
theorem dX2_add_17 : decode cX2_add 17 = .ok (.aload_n 1, 1) := by decide +kernel
theorem dX2_add_18 : decode cX2_add 18 = .ok (.iload_n 2, 1) := by decide +kernel
theorem dX2_add_19 : decode cX2_add 19 = .ok (.invokevirtual 47, 3) := by decide +kernel
theorem dX2_add_22 : decode cX2_add 22 = .ok (.i2l, 1) := by decide +kernel
theorem dX2_add_23 : decode cX2_add 23 = .ok (.lastore, 1) := by decide +kernel
theorem dX2_add_24 : decode cX2_add 24 = .ok (.aload_n 0, 1) := by decide +kernel
theorem dX2_add_25 : decode cX2_add 25 = .ok (.getfield 15, 3) := by decide +kernel
theorem dX2_add_28 : decode cX2_add 28 = .ok (.aload_n 0, 1) := by decide +kernel
theorem dX2_add_29 : decode cX2_add 29 = .ok (.getfield 21, 3) := by decide +kernel
theorem dX2_add_32 : decode cX2_add 32 = .ok (.aload_n 1, 1) := by decide +kernel
theorem dX2_add_33 : decode cX2_add 33 = .ok (.iload_n 2, 1) := by decide +kernel
theorem dX2_add_34 : decode cX2_add 34 = .ok (.invokevirtual 53, 3) := by decide +kernel
theorem dX2_add_37 : decode cX2_add 37 = .ok (.i2l, 1) := by decide +kernel
theorem dX2_add_38 : decode cX2_add 38 = .ok (.lastore, 1) := by decide +kernel
theorem dX2_add_39 : decode cX2_add 39 = .ok (.aload_n 0, 1) := by decide +kernel
theorem dX2_add_40 : decode cX2_add 40 = .ok (.getfield 18, 3) := by decide +kernel
theorem dX2_add_43 : decode cX2_add 43 = .ok (.aload_n 0, 1) := by decide +kernel
theorem dX2_add_44 : decode cX2_add 44 = .ok (.getfield 21, 3) := by decide +kernel
theorem dX2_add_47 : decode cX2_add 47 = .ok (.aload_n 1, 1) := by decide +kernel
theorem dX2_add_48 : decode cX2_add 48 = .ok (.iload_n 2, 1) := by decide +kernel
theorem dX2_add_49 : decode cX2_add 49 = .ok (.invokevirtual 56, 3) := by decide +kernel
theorem dX2_add_52 : decode cX2_add 52 = .ok (.i2l, 1) := by decide +kernel
theorem dX2_add_53 : decode cX2_add 53 = .ok (.lastore, 1) := by decide +kernel
theorem dX2_add_54 : decode cX2_add 54 = .ok (.aload_n 0, 1) := by decide +kernel
theorem dX2_add_55 : decode cX2_add 55 = .ok (.dup, 1) := by decide +kernel
theorem dX2_add_56 : decode cX2_add 56 = .ok (.getfield 21, 3) := by decide +kernel
theorem dX2_add_59 : decode cX2_add 59 = .ok (.iconst 1, 1) := by decide +kernel
theorem dX2_add_60 : decode cX2_add 60 = .ok (.iadd, 1) := by decide +kernel
theorem dX2_add_61 : decode cX2_add 61 = .ok (.putfield 21, 3) := by decide +kernel
theorem dX2_add_64 : decode cX2_add 64 = .ok (.return_, 1) := by decide +kernel
theorem dX2_measured_0 : decode cX2_measured 0 = .ok (.aload_n 0, 1) := by decide +kernel
theorem dX2_measured_1 : decode cX2_measured 1 = .ok (.getfield 21, 3) := by decide +kernel
theorem dX2_measured_4 : decode cX2_measured 4 = .ok (.ifCond .ne 7, 3) := by decide +kernel
theorem dX2_measured_7 : decode cX2_measured 7 = .ok (.iconst 0, 1) := by decide +kernel
theorem dX2_measured_8 : decode cX2_measured 8 = .ok (.goto 4, 3) := by decide +kernel
theorem dX2_measured_11 : decode cX2_measured 11 = .ok (.iconst 1, 1) := by decide +kernel
theorem dX2_measured_12 : decode cX2_measured 12 = .ok (.istore_n 1, 1) := by decide +kernel
theorem dX2_measured_13 : decode cX2_measured 13 = .ok (.iconst 1, 1) := by decide +kernel
theorem dX2_measured_14 : decode cX2_measured 14 = .ok (.istore_n 2, 1) := by decide +kernel
theorem dX2_measured_15 : decode cX2_measured 15 = .ok (.iload_n 2, 1) := by decide +kernel
theorem dX2_measured_16 : decode cX2_measured 16 = .ok (.aload_n 0, 1) := by decide +kernel
theorem dX2_measured_17 : decode cX2_measured 17 = .ok (.getfield 21, 3) := by decide +kernel
theorem dX2_measured_20 : decode cX2_measured 20 = .ok (.if_icmp .ge 66, 3) := by decide +kernel
theorem dX2_measured_23 : decode cX2_measured 23 = .ok (.iload_n 1, 1) := by decide +kernel
theorem dX2_measured_24 : decode cX2_measured 24 = .ok (.iconst 1, 1) := by decide +kernel
theorem dX2_measured_25 : decode cX2_measured 25 = .ok (.if_icmp .ne 61, 3) := by decide +kernel
theorem dX2_measured_28 : decode cX2_measured 28 = .ok (.aload_n 0, 1) := by decide +kernel
theorem dX2_measured_29 : decode cX2_measured 29 = .ok (.aload_n 0, 1) := by decide +kernel
theorem dX2_measured_30 : decode cX2_measured 30 = .ok (.getfield 9, 3) := by decide +kernel
theorem dX2_measured_33 : decode cX2_measured 33 = .ok (.iconst 0, 1) := by decide +kernel
theorem dX2_measured_34 : decode cX2_measured 34 = .ok (.laload, 1) := by decide +kernel
theorem dX2_measured_35 : decode cX2_measured 35 = .ok (.aload_n 0, 1) := by decide +kernel
theorem dX2_measured_36 : decode cX2_measured 36 = .ok (.getfield 15, 3) := by decide +kernel
theorem dX2_measured_39 : decode cX2_measured 39 = .ok (.iconst 0, 1) := by decide +kernel
theorem dX2_measured_40 : decode cX2_measured 40 = .ok (.laload, 1) := by decide +kernel
theorem dX2_measured_41 : decode cX2_measured 41 = .ok (.aload_n 0, 1) := by decide +kernel
theorem dX2_measured_42 : decode cX2_measured 42 = .ok (.getfield 18, 3) := by decide +kernel
theorem dX2_measured_45 : decode cX2_measured 45 = .ok (.iconst 0, 1) := by decide +kernel
theorem dX2_measured_46 : decode cX2_measured 46 = .ok (.laload, 1) := by decide +kernel
theorem dX2_measured_47 : decode cX2_measured 47 = .ok (.iload_n 2, 1) := by decide +kernel
theorem dX2_measured_48 : decode cX2_measured 48 = .ok (.invokevirtual 59, 3) := by decide +kernel
theorem dX2_measured_51 : decode cX2_measured 51 = .ok (.aload_n 0, 1) := by decide +kernel
theorem dX2_measured_52 : decode cX2_measured 52 = .ok (.getfield 37, 3) := by decide +kernel
theorem dX2_measured_55 : decode cX2_measured 55 = .ok (.lconst 0, 1) := by decide +kernel
theorem dX2_measured_56 : decode cX2_measured 56 = .ok (.lcmp, 1) := by decide +kernel
theorem dX2_measured_57 : decode cX2_measured 57 = .ok (.ifCond .ne 21, 3) := by decide +kernel
theorem dX2_measured_60 : decode cX2_measured 60 = .ok (.aload_n 0, 1) := by decide +kernel
theorem dX2_measured_61 : decode cX2_measured 61 = .ok (.getfield 41, 3) := by decide +kernel
theorem dX2_measured_64 : decode cX2_measured 64 = .ok (.lconst 0, 1) := by decide +kernel
theorem dX2_measured_65 : decode cX2_measured 65 = .ok (.lcmp, 1) := by decide +kernel
theorem dX2_measured_66 : decode cX2_measured 66 = .ok (.ifCond .ne 12, 3) := by decide +kernel
theorem dX2_measured_69 : decode cX2_measured 69 = .ok (.aload_n 0, 1) := by decide +kernel
theorem dX2_measured_70 : decode cX2_measured 70 = .ok (.getfield 44, 3) := by decide +kernel
theorem dX2_measured_73 : decode cX2_measured 73 = .ok (.lconst 0, 1) := by decide +kernel
theorem dX2_measured_74 : decode cX2_measured 74 = .ok (.lcmp, 1) := by decide +kernel
theorem dX2_measured_75 : decode cX2_measured 75 = .ok (.ifCond .eq 5, 3) := by decide +kernel
theorem dX2_measured_78 : decode cX2_measured 78 = .ok (.iconst 2, 1) := by decide +kernel
theorem dX2_measured_79 : decode cX2_measured 79 = .ok (.istore_n 1, 1) := by decide +kernel
theorem dX2_measured_80 : decode cX2_measured 80 = .ok (.iinc 2 1, 3) := by decide +kernel
theorem dX2_measured_83 : decode cX2_measured 83 = .ok (.goto (-68), 3) := by decide +kernel
theorem dX2_measured_86 : decode cX2_measured 86 = .ok (.iconst 1, 1) := by decide +kernel
theorem dX2_measured_87 : decode cX2_measured 87 = .ok (.istore_n 2, 1) := by decide +kernel
theorem dX2_measured_88 : decode cX2_measured 88 = .ok (.iload_n 2, 1) := by decide +kernel
theorem dX2_measured_89 : decode cX2_measured 89 = .ok (.aload_n 0, 1) := by decide +kernel
theorem dX2_measured_90 : decode cX2_measured 90 = .ok (.getfield 21, 3) := by decide +kernel
theorem dX2_measured_93 : decode cX2_measured 93 = .ok (.if_icmp .ge 26, 3) := by decide +kernel
theorem dX2_measured_96 : decode cX2_measured 96 = .ok (.iload_n 1, 1) := by decide +kernel
theorem dX2_measured_97 : decode cX2_measured 97 = .ok (.iconst 2, 1) := by decide +kernel
theorem dX2_measured_98 : decode cX2_measured 98 = .ok (.if_icmp .ne 21, 3) := by decide +kernel
theorem dX2_measured_101 : decode cX2_measured 101 = .ok (.aload_n 0, 1) := by decide +kernel
theorem dX2_measured_102 : decode cX2_measured 102 = .ok (.iload_n 2, 1) := by decide +kernel
theorem dX2_measured_103 : decode cX2_measured 103 = .ok (.invokevirtual 63, 3) := by decide +kernel
theorem dX2_measured_106 : decode cX2_measured 106 = .ok (.lconst 0, 1) := by decide +kernel
theorem dX2_measured_107 : decode cX2_measured 107 = .ok (.lcmp, 1) := by decide +kernel
theorem dX2_measured_108 : decode cX2_measured 108 = .ok (.ifCond .eq 5, 3) := by decide +kernel
theorem dX2_measured_111 : decode cX2_measured 111 = .ok (.iconst 3, 1) := by decide +kernel
theorem dX2_measured_112 : decode cX2_measured 112 = .ok (.istore_n 1, 1) := by decide +kernel
theorem dX2_measured_113 : decode cX2_measured 113 = .ok (.iinc 2 1, 3) := by decide +kernel
theorem dX2_measured_116 : decode cX2_measured 116 = .ok (.goto (-28), 3) := by decide +kernel
theorem dX2_measured_119 : decode cX2_measured 119 = .ok (.iload_n 1, 1) := by decide +kernel
theorem dX2_measured_120 : decode cX2_measured 120 = .ok (.ireturn, 1) := by decide +kernel
theorem dX2_reduceNormal_0 : decode cX2_reduceNormal 0 = .ok (.aload_n 0, 1) := by decide +kernel
theorem dX2_reduceNormal_1 : decode cX2_reduceNormal 1 = .ok (.getfield 37, 3) := by decide +kernel
theorem dX2_reduceNormal_4 : decode cX2_reduceNormal 4 = .ok (.aload_n 0, 1) := by decide +kernel
theorem dX2_reduceNormal_5 : decode cX2_reduceNormal 5 = .ok (.getfield 41, 3) := by decide +kernel
theorem dX2_reduceNormal_8 : decode cX2_reduceNormal 8 = .ok (.invokestatic 67, 3) := by decide +kernel
theorem dX2_reduceNormal_11 : decode cX2_reduceNormal 11 = .ok (.aload_n 0, 1) := by decide +kernel
theorem dX2_reduceNormal_12 : decode cX2_reduceNormal 12 = .ok (.getfield 44, 3) := by decide +kernel
theorem dX2_reduceNormal_15 : decode cX2_reduceNormal 15 = .ok (.invokestatic 67, 3) := by decide +kernel
theorem dX2_reduceNormal_18 : decode cX2_reduceNormal 18 = .ok (.lstore_n 1, 1) := by decide +kernel
theorem dX2_reduceNormal_19 : decode cX2_reduceNormal 19 = .ok (.aload_n 0, 1) := by decide +kernel
theorem dX2_reduceNormal_20 : decode cX2_reduceNormal 20 = .ok (.getfield 44, 3) := by decide +kernel
theorem dX2_reduceNormal_23 : decode cX2_reduceNormal 23 = .ok (.lconst 0, 1) := by decide +kernel
theorem dX2_reduceNormal_24 : decode cX2_reduceNormal 24 = .ok (.lcmp, 1) := by decide +kernel
theorem dX2_reduceNormal_25 : decode cX2_reduceNormal 25 = .ok (.ifCond .eq 10, 3) := by decide +kernel
theorem dX2_reduceNormal_28 : decode cX2_reduceNormal 28 = .ok (.aload_n 0, 1) := by decide +kernel
theorem dX2_reduceNormal_29 : decode cX2_reduceNormal 29 = .ok (.getfield 44, 3) := by decide +kernel
theorem dX2_reduceNormal_32 : decode cX2_reduceNormal 32 = .ok (.goto 23, 3) := by decide +kernel
theorem dX2_reduceNormal_35 : decode cX2_reduceNormal 35 = .ok (.aload_n 0, 1) := by decide +kernel
theorem dX2_reduceNormal_36 : decode cX2_reduceNormal 36 = .ok (.getfield 37, 3) := by decide +kernel
theorem dX2_reduceNormal_39 : decode cX2_reduceNormal 39 = .ok (.lconst 0, 1) := by decide +kernel
theorem dX2_reduceNormal_40 : decode cX2_reduceNormal 40 = .ok (.lcmp, 1) := by decide +kernel
theorem dX2_reduceNormal_41 : decode cX2_reduceNormal 41 = .ok (.ifCond .eq 10, 3) := by decide +kernel
theorem dX2_reduceNormal_44 : decode cX2_reduceNormal 44 = .ok (.aload_n 0, 1) := by decide +kernel
theorem dX2_reduceNormal_45 : decode cX2_reduceNormal 45 = .ok (.getfield 37, 3) := by decide +kernel
theorem dX2_reduceNormal_48 : decode cX2_reduceNormal 48 = .ok (.goto 7, 3) := by decide +kernel
theorem dX2_reduceNormal_51 : decode cX2_reduceNormal 51 = .ok (.aload_n 0, 1) := by decide +kernel
theorem dX2_reduceNormal_52 : decode cX2_reduceNormal 52 = .ok (.getfield 41, 3) := by decide +kernel
theorem dX2_reduceNormal_55 : decode cX2_reduceNormal 55 = .ok (.lstore_n 3, 1) := by decide +kernel
theorem dX2_reduceNormal_56 : decode cX2_reduceNormal 56 = .ok (.lload_n 3, 1) := by decide +kernel
theorem dX2_reduceNormal_57 : decode cX2_reduceNormal 57 = .ok (.lconst 0, 1) := by decide +kernel
theorem dX2_reduceNormal_58 : decode cX2_reduceNormal 58 = .ok (.lcmp, 1) := by decide +kernel
theorem dX2_reduceNormal_59 : decode cX2_reduceNormal 59 = .ok (.ifCond .ge 6, 3) := by decide +kernel
theorem dX2_reduceNormal_62 : decode cX2_reduceNormal 62 = .ok (.lload_n 1, 1) := by decide +kernel
theorem dX2_reduceNormal_63 : decode cX2_reduceNormal 63 = .ok (.lneg, 1) := by decide +kernel
theorem dX2_reduceNormal_64 : decode cX2_reduceNormal 64 = .ok (.lstore_n 1, 1) := by decide +kernel
theorem dX2_reduceNormal_65 : decode cX2_reduceNormal 65 = .ok (.lload_n 1, 1) := by decide +kernel
theorem dX2_reduceNormal_66 : decode cX2_reduceNormal 66 = .ok (.lconst 0, 1) := by decide +kernel
theorem dX2_reduceNormal_67 : decode cX2_reduceNormal 67 = .ok (.lcmp, 1) := by decide +kernel
theorem dX2_reduceNormal_68 : decode cX2_reduceNormal 68 = .ok (.ifCond .eq 33, 3) := by decide +kernel
theorem dX2_reduceNormal_71 : decode cX2_reduceNormal 71 = .ok (.aload_n 0, 1) := by decide +kernel
theorem dX2_reduceNormal_72 : decode cX2_reduceNormal 72 = .ok (.dup, 1) := by decide +kernel
theorem dX2_reduceNormal_73 : decode cX2_reduceNormal 73 = .ok (.getfield 37, 3) := by decide +kernel
theorem dX2_reduceNormal_76 : decode cX2_reduceNormal 76 = .ok (.lload_n 1, 1) := by decide +kernel
theorem dX2_reduceNormal_77 : decode cX2_reduceNormal 77 = .ok (.ldiv, 1) := by decide +kernel
theorem dX2_reduceNormal_78 : decode cX2_reduceNormal 78 = .ok (.putfield 37, 3) := by decide +kernel
theorem dX2_reduceNormal_81 : decode cX2_reduceNormal 81 = .ok (.aload_n 0, 1) := by decide +kernel
theorem dX2_reduceNormal_82 : decode cX2_reduceNormal 82 = .ok (.dup, 1) := by decide +kernel
theorem dX2_reduceNormal_83 : decode cX2_reduceNormal 83 = .ok (.getfield 41, 3) := by decide +kernel
theorem dX2_reduceNormal_86 : decode cX2_reduceNormal 86 = .ok (.lload_n 1, 1) := by decide +kernel
theorem dX2_reduceNormal_87 : decode cX2_reduceNormal 87 = .ok (.ldiv, 1) := by decide +kernel
theorem dX2_reduceNormal_88 : decode cX2_reduceNormal 88 = .ok (.putfield 41, 3) := by decide +kernel
theorem dX2_reduceNormal_91 : decode cX2_reduceNormal 91 = .ok (.aload_n 0, 1) := by decide +kernel
theorem dX2_reduceNormal_92 : decode cX2_reduceNormal 92 = .ok (.dup, 1) := by decide +kernel
theorem dX2_reduceNormal_93 : decode cX2_reduceNormal 93 = .ok (.getfield 44, 3) := by decide +kernel
theorem dX2_reduceNormal_96 : decode cX2_reduceNormal 96 = .ok (.lload_n 1, 1) := by decide +kernel
theorem dX2_reduceNormal_97 : decode cX2_reduceNormal 97 = .ok (.ldiv, 1) := by decide +kernel
theorem dX2_reduceNormal_98 : decode cX2_reduceNormal 98 = .ok (.putfield 44, 3) := by decide +kernel
theorem dX2_reduceNormal_101 : decode cX2_reduceNormal 101 = .ok (.return_, 1) := by decide +kernel
theorem dX2_bound_0 : decode cX2_bound 0 = .ok (.aload_n 0, 1) := by decide +kernel
theorem dX2_bound_1 : decode cX2_bound 1 = .ok (.iconst 0, 1) := by decide +kernel
theorem dX2_bound_2 : decode cX2_bound 2 = .ok (.putfield 34, 3) := by decide +kernel
theorem dX2_bound_5 : decode cX2_bound 5 = .ok (.aload_n 0, 1) := by decide +kernel
theorem dX2_bound_6 : decode cX2_bound 6 = .ok (.invokevirtual 71, 3) := by decide +kernel
theorem dX2_bound_9 : decode cX2_bound 9 = .ok (.tableswitch 65 0 2 #[27, 51, 58], 27) := by decide +kernel
theorem dX2_bound_36 : decode cX2_bound 36 = .ok (.aload_n 0, 1) := by decide +kernel
theorem dX2_bound_37 : decode cX2_bound 37 = .ok (.lconst 1, 1) := by decide +kernel
theorem dX2_bound_38 : decode cX2_bound 38 = .ok (.lconst 0, 1) := by decide +kernel
theorem dX2_bound_39 : decode cX2_bound 39 = .ok (.lconst 0, 1) := by decide +kernel
theorem dX2_bound_40 : decode cX2_bound 40 = .ok (.invokevirtual 75, 3) := by decide +kernel
theorem dX2_bound_43 : decode cX2_bound 43 = .ok (.aload_n 0, 1) := by decide +kernel
theorem dX2_bound_44 : decode cX2_bound 44 = .ok (.lconst 0, 1) := by decide +kernel
theorem dX2_bound_45 : decode cX2_bound 45 = .ok (.lconst 1, 1) := by decide +kernel
theorem dX2_bound_46 : decode cX2_bound 46 = .ok (.lconst 0, 1) := by decide +kernel
theorem dX2_bound_47 : decode cX2_bound 47 = .ok (.invokevirtual 75, 3) := by decide +kernel
theorem dX2_bound_50 : decode cX2_bound 50 = .ok (.aload_n 0, 1) := by decide +kernel
theorem dX2_bound_51 : decode cX2_bound 51 = .ok (.lconst 0, 1) := by decide +kernel
theorem dX2_bound_52 : decode cX2_bound 52 = .ok (.lconst 0, 1) := by decide +kernel
theorem dX2_bound_53 : decode cX2_bound 53 = .ok (.lconst 1, 1) := by decide +kernel
theorem dX2_bound_54 : decode cX2_bound 54 = .ok (.invokevirtual 75, 3) := by decide +kernel
theorem dX2_bound_57 : decode cX2_bound 57 = .ok (.goto 21, 3) := by decide +kernel
theorem dX2_bound_60 : decode cX2_bound 60 = .ok (.aload_n 0, 1) := by decide +kernel
theorem dX2_bound_61 : decode cX2_bound 61 = .ok (.invokevirtual 79, 3) := by decide +kernel
theorem dX2_bound_64 : decode cX2_bound 64 = .ok (.goto 14, 3) := by decide +kernel
theorem dX2_bound_67 : decode cX2_bound 67 = .ok (.aload_n 0, 1) := by decide +kernel
theorem dX2_bound_68 : decode cX2_bound 68 = .ok (.invokevirtual 82, 3) := by decide +kernel
theorem dX2_bound_71 : decode cX2_bound 71 = .ok (.goto 7, 3) := by decide +kernel
theorem dX2_bound_74 : decode cX2_bound 74 = .ok (.aload_n 0, 1) := by decide +kernel
theorem dX2_bound_75 : decode cX2_bound 75 = .ok (.invokevirtual 85, 3) := by decide +kernel
theorem dX2_bound_78 : decode cX2_bound 78 = .ok (.return_, 1) := by decide +kernel
theorem dX2_contains_0 : decode cX2_contains 0 = .ok (.iconst 0, 1) := by decide +kernel
theorem dX2_contains_1 : decode cX2_contains 1 = .ok (.istore 7, 2) := by decide +kernel
theorem dX2_contains_3 : decode cX2_contains 3 = .ok (.iload 7, 2) := by decide +kernel
theorem dX2_contains_5 : decode cX2_contains 5 = .ok (.aload_n 0, 1) := by decide +kernel
theorem dX2_contains_6 : decode cX2_contains 6 = .ok (.getfield 34, 3) := by decide +kernel
theorem dX2_contains_9 : decode cX2_contains 9 = .ok (.if_icmp .ge 26, 3) := by decide +kernel
theorem dX2_contains_12 : decode cX2_contains 12 = .ok (.aload_n 0, 1) := by decide +kernel
theorem dX2_contains_13 : decode cX2_contains 13 = .ok (.iload 7, 2) := by decide +kernel
theorem dX2_contains_15 : decode cX2_contains 15 = .ok (.lload_n 1, 1) := by decide +kernel
theorem dX2_contains_16 : decode cX2_contains 16 = .ok (.lload_n 3, 1) := by decide +kernel
theorem dX2_contains_17 : decode cX2_contains 17 = .ok (.lload 5, 2) := by decide +kernel
theorem dX2_contains_19 : decode cX2_contains 19 = .ok (.invokevirtual 88, 3) := by decide +kernel
theorem dX2_contains_22 : decode cX2_contains 22 = .ok (.lconst 0, 1) := by decide +kernel
theorem dX2_contains_23 : decode cX2_contains 23 = .ok (.lcmp, 1) := by decide +kernel
theorem dX2_contains_24 : decode cX2_contains 24 = .ok (.ifCond .ge 5, 3) := by decide +kernel
theorem dX2_contains_27 : decode cX2_contains 27 = .ok (.iconst 0, 1) := by decide +kernel
theorem dX2_contains_28 : decode cX2_contains 28 = .ok (.ireturn, 1) := by decide +kernel
theorem dX2_contains_29 : decode cX2_contains 29 = .ok (.iinc 7 1, 3) := by decide +kernel
theorem dX2_contains_32 : decode cX2_contains 32 = .ok (.goto (-29), 3) := by decide +kernel
theorem dX2_contains_35 : decode cX2_contains 35 = .ok (.iconst 1, 1) := by decide +kernel
theorem dX2_contains_36 : decode cX2_contains 36 = .ok (.ireturn, 1) := by decide +kernel
theorem dX2_along_0 : decode cX2_along 0 = .ok (.iload_n 1, 1) := by decide +kernel
theorem dX2_along_1 : decode cX2_along 1 = .ok (.ifCond .lt 17, 3) := by decide +kernel
theorem dX2_along_4 : decode cX2_along 4 = .ok (.iload_n 1, 1) := by decide +kernel
theorem dX2_along_5 : decode cX2_along 5 = .ok (.aload_n 0, 1) := by decide +kernel
theorem dX2_along_6 : decode cX2_along 6 = .ok (.getfield 34, 3) := by decide +kernel
theorem dX2_along_9 : decode cX2_along 9 = .ok (.if_icmp .ge 9, 3) := by decide +kernel
theorem dX2_along_12 : decode cX2_along 12 = .ok (.iload_n 1, 1) := by decide +kernel
theorem dX2_along_13 : decode cX2_along 13 = .ok (.bipush 32, 2) := by decide +kernel
theorem dX2_along_15 : decode cX2_along 15 = .ok (.if_icmp .lt 5, 3) := by decide +kernel
theorem dX2_along_18 : decode cX2_along 18 = .ok (.lconst 0, 1) := by decide +kernel
theorem dX2_along_19 : decode cX2_along 19 = .ok (.lreturn, 1) := by decide +kernel
theorem dX2_along_20 : decode cX2_along 20 = .ok (.aload_n 0, 1) := by decide +kernel
theorem dX2_along_21 : decode cX2_along 21 = .ok (.getfield 25, 3) := by decide +kernel
theorem dX2_along_24 : decode cX2_along 24 = .ok (.iload_n 1, 1) := by decide +kernel
theorem dX2_along_25 : decode cX2_along 25 = .ok (.laload, 1) := by decide +kernel
theorem dX2_along_26 : decode cX2_along 26 = .ok (.lload_n 2, 1) := by decide +kernel
theorem dX2_along_27 : decode cX2_along 27 = .ok (.lmul, 1) := by decide +kernel
theorem dX2_along_28 : decode cX2_along 28 = .ok (.aload_n 0, 1) := by decide +kernel
theorem dX2_along_29 : decode cX2_along 29 = .ok (.getfield 28, 3) := by decide +kernel
theorem dX2_along_32 : decode cX2_along 32 = .ok (.iload_n 1, 1) := by decide +kernel
theorem dX2_along_33 : decode cX2_along 33 = .ok (.laload, 1) := by decide +kernel
theorem dX2_along_34 : decode cX2_along 34 = .ok (.lload 4, 2) := by decide +kernel
theorem dX2_along_36 : decode cX2_along 36 = .ok (.lmul, 1) := by decide +kernel
theorem dX2_along_37 : decode cX2_along 37 = .ok (.ladd, 1) := by decide +kernel
theorem dX2_along_38 : decode cX2_along 38 = .ok (.aload_n 0, 1) := by decide +kernel
theorem dX2_along_39 : decode cX2_along 39 = .ok (.getfield 31, 3) := by decide +kernel
theorem dX2_along_42 : decode cX2_along 42 = .ok (.iload_n 1, 1) := by decide +kernel
theorem dX2_along_43 : decode cX2_along 43 = .ok (.laload, 1) := by decide +kernel
theorem dX2_along_44 : decode cX2_along 44 = .ok (.lload 6, 2) := by decide +kernel
theorem dX2_along_46 : decode cX2_along 46 = .ok (.lmul, 1) := by decide +kernel
theorem dX2_along_47 : decode cX2_along 47 = .ok (.ladd, 1) := by decide +kernel
theorem dX2_along_48 : decode cX2_along 48 = .ok (.lreturn, 1) := by decide +kernel
theorem dX2_boundLine_0 : decode cX2_boundLine 0 = .ok (.aload_n 0, 1) := by decide +kernel
theorem dX2_boundLine_1 : decode cX2_boundLine 1 = .ok (.lconst 0, 1) := by decide +kernel
theorem dX2_boundLine_2 : decode cX2_boundLine 2 = .ok (.aload_n 0, 1) := by decide +kernel
theorem dX2_boundLine_3 : decode cX2_boundLine 3 = .ok (.getfield 18, 3) := by decide +kernel
theorem dX2_boundLine_6 : decode cX2_boundLine 6 = .ok (.iconst 0, 1) := by decide +kernel
theorem dX2_boundLine_7 : decode cX2_boundLine 7 = .ok (.laload, 1) := by decide +kernel
theorem dX2_boundLine_8 : decode cX2_boundLine 8 = .ok (.aload_n 0, 1) := by decide +kernel
theorem dX2_boundLine_9 : decode cX2_boundLine 9 = .ok (.getfield 15, 3) := by decide +kernel
theorem dX2_boundLine_12 : decode cX2_boundLine 12 = .ok (.iconst 0, 1) := by decide +kernel
theorem dX2_boundLine_13 : decode cX2_boundLine 13 = .ok (.laload, 1) := by decide +kernel
theorem dX2_boundLine_14 : decode cX2_boundLine 14 = .ok (.lneg, 1) := by decide +kernel
theorem dX2_boundLine_15 : decode cX2_boundLine 15 = .ok (.invokevirtual 75, 3) := by decide +kernel
theorem dX2_boundLine_18 : decode cX2_boundLine 18 = .ok (.aload_n 0, 1) := by decide +kernel
theorem dX2_boundLine_19 : decode cX2_boundLine 19 = .ok (.aload_n 0, 1) := by decide +kernel
theorem dX2_boundLine_20 : decode cX2_boundLine 20 = .ok (.getfield 18, 3) := by decide +kernel
theorem dX2_boundLine_23 : decode cX2_boundLine 23 = .ok (.iconst 0, 1) := by decide +kernel
theorem dX2_boundLine_24 : decode cX2_boundLine 24 = .ok (.laload, 1) := by decide +kernel
theorem dX2_boundLine_25 : decode cX2_boundLine 25 = .ok (.lneg, 1) := by decide +kernel
theorem dX2_boundLine_26 : decode cX2_boundLine 26 = .ok (.lconst 0, 1) := by decide +kernel
theorem dX2_boundLine_27 : decode cX2_boundLine 27 = .ok (.aload_n 0, 1) := by decide +kernel
theorem dX2_boundLine_28 : decode cX2_boundLine 28 = .ok (.getfield 9, 3) := by decide +kernel
theorem dX2_boundLine_31 : decode cX2_boundLine 31 = .ok (.iconst 0, 1) := by decide +kernel
theorem dX2_boundLine_32 : decode cX2_boundLine 32 = .ok (.laload, 1) := by decide +kernel
theorem dX2_boundLine_33 : decode cX2_boundLine 33 = .ok (.invokevirtual 75, 3) := by decide +kernel
theorem dX2_boundLine_36 : decode cX2_boundLine 36 = .ok (.aload_n 0, 1) := by decide +kernel
theorem dX2_boundLine_37 : decode cX2_boundLine 37 = .ok (.aload_n 0, 1) := by decide +kernel
theorem dX2_boundLine_38 : decode cX2_boundLine 38 = .ok (.getfield 15, 3) := by decide +kernel
theorem dX2_boundLine_41 : decode cX2_boundLine 41 = .ok (.iconst 0, 1) := by decide +kernel
theorem dX2_boundLine_42 : decode cX2_boundLine 42 = .ok (.laload, 1) := by decide +kernel
theorem dX2_boundLine_43 : decode cX2_boundLine 43 = .ok (.aload_n 0, 1) := by decide +kernel
theorem dX2_boundLine_44 : decode cX2_boundLine 44 = .ok (.getfield 9, 3) := by decide +kernel
theorem dX2_boundLine_47 : decode cX2_boundLine 47 = .ok (.iconst 0, 1) := by decide +kernel
theorem dX2_boundLine_48 : decode cX2_boundLine 48 = .ok (.laload, 1) := by decide +kernel
theorem dX2_boundLine_49 : decode cX2_boundLine 49 = .ok (.lneg, 1) := by decide +kernel
theorem dX2_boundLine_50 : decode cX2_boundLine 50 = .ok (.lconst 0, 1) := by decide +kernel
theorem dX2_boundLine_51 : decode cX2_boundLine 51 = .ok (.invokevirtual 75, 3) := by decide +kernel
theorem dX2_boundLine_54 : decode cX2_boundLine 54 = .ok (.aload_n 0, 1) := by decide +kernel
theorem dX2_boundLine_55 : decode cX2_boundLine 55 = .ok (.aload_n 0, 1) := by decide +kernel
theorem dX2_boundLine_56 : decode cX2_boundLine 56 = .ok (.getfield 9, 3) := by decide +kernel
theorem dX2_boundLine_59 : decode cX2_boundLine 59 = .ok (.iconst 0, 1) := by decide +kernel
theorem dX2_boundLine_60 : decode cX2_boundLine 60 = .ok (.laload, 1) := by decide +kernel
theorem dX2_boundLine_61 : decode cX2_boundLine 61 = .ok (.putfield 37, 3) := by decide +kernel
theorem dX2_boundLine_64 : decode cX2_boundLine 64 = .ok (.aload_n 0, 1) := by decide +kernel
theorem dX2_boundLine_65 : decode cX2_boundLine 65 = .ok (.aload_n 0, 1) := by decide +kernel
theorem dX2_boundLine_66 : decode cX2_boundLine 66 = .ok (.getfield 15, 3) := by decide +kernel
theorem dX2_boundLine_69 : decode cX2_boundLine 69 = .ok (.iconst 0, 1) := by decide +kernel
theorem dX2_boundLine_70 : decode cX2_boundLine 70 = .ok (.laload, 1) := by decide +kernel
theorem dX2_boundLine_71 : decode cX2_boundLine 71 = .ok (.putfield 41, 3) := by decide +kernel
theorem dX2_boundLine_74 : decode cX2_boundLine 74 = .ok (.aload_n 0, 1) := by decide +kernel
theorem dX2_boundLine_75 : decode cX2_boundLine 75 = .ok (.aload_n 0, 1) := by decide +kernel
theorem dX2_boundLine_76 : decode cX2_boundLine 76 = .ok (.getfield 18, 3) := by decide +kernel
theorem dX2_boundLine_79 : decode cX2_boundLine 79 = .ok (.iconst 0, 1) := by decide +kernel
theorem dX2_boundLine_80 : decode cX2_boundLine 80 = .ok (.laload, 1) := by decide +kernel
theorem dX2_boundLine_81 : decode cX2_boundLine 81 = .ok (.putfield 44, 3) := by decide +kernel
theorem dX2_boundLine_84 : decode cX2_boundLine 84 = .ok (.aload_n 0, 1) := by decide +kernel
theorem dX2_boundLine_85 : decode cX2_boundLine 85 = .ok (.invokevirtual 92, 3) := by decide +kernel
theorem dX2_boundLine_88 : decode cX2_boundLine 88 = .ok (.return_, 1) := by decide +kernel
theorem dX2_boundPlane_0 : decode cX2_boundPlane 0 = .ok (.aload_n 0, 1) := by decide +kernel
theorem dX2_boundPlane_1 : decode cX2_boundPlane 1 = .ok (.getfield 37, 3) := by decide +kernel
theorem dX2_boundPlane_4 : decode cX2_boundPlane 4 = .ok (.lstore_n 1, 1) := by decide +kernel
theorem dX2_boundPlane_5 : decode cX2_boundPlane 5 = .ok (.aload_n 0, 1) := by decide +kernel
theorem dX2_boundPlane_6 : decode cX2_boundPlane 6 = .ok (.getfield 41, 3) := by decide +kernel
theorem dX2_boundPlane_9 : decode cX2_boundPlane 9 = .ok (.lstore_n 3, 1) := by decide +kernel
theorem dX2_boundPlane_10 : decode cX2_boundPlane 10 = .ok (.aload_n 0, 1) := by decide +kernel
theorem dX2_boundPlane_11 : decode cX2_boundPlane 11 = .ok (.getfield 44, 3) := by decide +kernel
theorem dX2_boundPlane_14 : decode cX2_boundPlane 14 = .ok (.lstore 5, 2) := by decide +kernel
theorem dX2_boundPlane_16 : decode cX2_boundPlane 16 = .ok (.aload_n 0, 1) := by decide +kernel
theorem dX2_boundPlane_17 : decode cX2_boundPlane 17 = .ok (.lload_n 1, 1) := by decide +kernel
theorem dX2_boundPlane_18 : decode cX2_boundPlane 18 = .ok (.lload_n 3, 1) := by decide +kernel
theorem dX2_boundPlane_19 : decode cX2_boundPlane 19 = .ok (.lload 5, 2) := by decide +kernel
theorem dX2_boundPlane_21 : decode cX2_boundPlane 21 = .ok (.invokevirtual 75, 3) := by decide +kernel
theorem dX2_boundPlane_24 : decode cX2_boundPlane 24 = .ok (.iconst 0, 1) := by decide +kernel
theorem dX2_boundPlane_25 : decode cX2_boundPlane 25 = .ok (.istore 7, 2) := by decide +kernel
theorem dX2_boundPlane_27 : decode cX2_boundPlane 27 = .ok (.iload 7, 2) := by decide +kernel
theorem dX2_boundPlane_29 : decode cX2_boundPlane 29 = .ok (.aload_n 0, 1) := by decide +kernel
theorem dX2_boundPlane_30 : decode cX2_boundPlane 30 = .ok (.getfield 21, 3) := by decide +kernel
theorem dX2_boundPlane_33 : decode cX2_boundPlane 33 = .ok (.if_icmp .ge 23, 3) := by decide +kernel
theorem dX2_boundPlane_36 : decode cX2_boundPlane 36 = .ok (.aload_n 0, 1) := by decide +kernel
theorem dX2_boundPlane_37 : decode cX2_boundPlane 37 = .ok (.lload_n 1, 1) := by decide +kernel
theorem dX2_boundPlane_38 : decode cX2_boundPlane 38 = .ok (.lload_n 3, 1) := by decide +kernel
theorem dX2_boundPlane_39 : decode cX2_boundPlane 39 = .ok (.lload 5, 2) := by decide +kernel
theorem dX2_boundPlane_41 : decode cX2_boundPlane 41 = .ok (.iload 7, 2) := by decide +kernel
theorem dX2_boundPlane_43 : decode cX2_boundPlane 43 = .ok (.invokevirtual 59, 3) := by decide +kernel
theorem dX2_boundPlane_46 : decode cX2_boundPlane 46 = .ok (.aload_n 0, 1) := by decide +kernel
theorem dX2_boundPlane_47 : decode cX2_boundPlane 47 = .ok (.invokevirtual 92, 3) := by decide +kernel
theorem dX2_boundPlane_50 : decode cX2_boundPlane 50 = .ok (.iinc 7 1, 3) := by decide +kernel
theorem dX2_boundPlane_53 : decode cX2_boundPlane 53 = .ok (.goto (-26), 3) := by decide +kernel
theorem dX2_boundPlane_56 : decode cX2_boundPlane 56 = .ok (.return_, 1) := by decide +kernel
theorem dX2_boundSpace_0 : decode cX2_boundSpace 0 = .ok (.iconst 0, 1) := by decide +kernel
theorem dX2_boundSpace_1 : decode cX2_boundSpace 1 = .ok (.istore_n 1, 1) := by decide +kernel
theorem dX2_boundSpace_2 : decode cX2_boundSpace 2 = .ok (.iload_n 1, 1) := by decide +kernel
theorem dX2_boundSpace_3 : decode cX2_boundSpace 3 = .ok (.aload_n 0, 1) := by decide +kernel
theorem dX2_boundSpace_4 : decode cX2_boundSpace 4 = .ok (.getfield 21, 3) := by decide +kernel
theorem dX2_boundSpace_7 : decode cX2_boundSpace 7 = .ok (.if_icmp .ge 93, 3) := by decide +kernel
theorem dX2_boundSpace_10 : decode cX2_boundSpace 10 = .ok (.iload_n 1, 1) := by decide +kernel
theorem dX2_boundSpace_11 : decode cX2_boundSpace 11 = .ok (.iconst 1, 1) := by decide +kernel
theorem dX2_boundSpace_12 : decode cX2_boundSpace 12 = .ok (.iadd, 1) := by decide +kernel
theorem dX2_boundSpace_13 : decode cX2_boundSpace 13 = .ok (.istore_n 2, 1) := by decide +kernel
theorem dX2_boundSpace_14 : decode cX2_boundSpace 14 = .ok (.iload_n 2, 1) := by decide +kernel
theorem dX2_boundSpace_15 : decode cX2_boundSpace 15 = .ok (.aload_n 0, 1) := by decide +kernel
theorem dX2_boundSpace_16 : decode cX2_boundSpace 16 = .ok (.getfield 21, 3) := by decide +kernel
theorem dX2_boundSpace_19 : decode cX2_boundSpace 19 = .ok (.if_icmp .ge 75, 3) := by decide +kernel
theorem dX2_boundSpace_22 : decode cX2_boundSpace 22 = .ok (.aload_n 0, 1) := by decide +kernel
theorem dX2_boundSpace_23 : decode cX2_boundSpace 23 = .ok (.iload_n 1, 1) := by decide +kernel
theorem dX2_boundSpace_24 : decode cX2_boundSpace 24 = .ok (.iload_n 2, 1) := by decide +kernel
theorem dX2_boundSpace_25 : decode cX2_boundSpace 25 = .ok (.invokevirtual 95, 3) := by decide +kernel
theorem dX2_boundSpace_28 : decode cX2_boundSpace 28 = .ok (.ifCond .eq 6, 3) := by decide +kernel
theorem dX2_boundSpace_31 : decode cX2_boundSpace 31 = .ok (.goto 57, 3) := by decide +kernel
theorem dX2_boundSpace_34 : decode cX2_boundSpace 34 = .ok (.aload_n 0, 1) := by decide +kernel
theorem dX2_boundSpace_35 : decode cX2_boundSpace 35 = .ok (.aload_n 0, 1) := by decide +kernel
theorem dX2_boundSpace_36 : decode cX2_boundSpace 36 = .ok (.getfield 9, 3) := by decide +kernel
theorem dX2_boundSpace_39 : decode cX2_boundSpace 39 = .ok (.iload_n 1, 1) := by decide +kernel
theorem dX2_boundSpace_40 : decode cX2_boundSpace 40 = .ok (.laload, 1) := by decide +kernel
theorem dX2_boundSpace_41 : decode cX2_boundSpace 41 = .ok (.aload_n 0, 1) := by decide +kernel
theorem dX2_boundSpace_42 : decode cX2_boundSpace 42 = .ok (.getfield 15, 3) := by decide +kernel
theorem dX2_boundSpace_45 : decode cX2_boundSpace 45 = .ok (.iload_n 1, 1) := by decide +kernel
theorem dX2_boundSpace_46 : decode cX2_boundSpace 46 = .ok (.laload, 1) := by decide +kernel
theorem dX2_boundSpace_47 : decode cX2_boundSpace 47 = .ok (.aload_n 0, 1) := by decide +kernel
theorem dX2_boundSpace_48 : decode cX2_boundSpace 48 = .ok (.getfield 18, 3) := by decide +kernel
theorem dX2_boundSpace_51 : decode cX2_boundSpace 51 = .ok (.iload_n 1, 1) := by decide +kernel
theorem dX2_boundSpace_52 : decode cX2_boundSpace 52 = .ok (.laload, 1) := by decide +kernel
theorem dX2_boundSpace_53 : decode cX2_boundSpace 53 = .ok (.iload_n 2, 1) := by decide +kernel
theorem dX2_boundSpace_54 : decode cX2_boundSpace 54 = .ok (.invokevirtual 59, 3) := by decide +kernel
theorem dX2_boundSpace_57 : decode cX2_boundSpace 57 = .ok (.aload_n 0, 1) := by decide +kernel
theorem dX2_boundSpace_58 : decode cX2_boundSpace 58 = .ok (.getfield 37, 3) := by decide +kernel
theorem dX2_boundSpace_61 : decode cX2_boundSpace 61 = .ok (.lconst 0, 1) := by decide +kernel
theorem dX2_boundSpace_62 : decode cX2_boundSpace 62 = .ok (.lcmp, 1) := by decide +kernel
theorem dX2_boundSpace_63 : decode cX2_boundSpace 63 = .ok (.ifCond .ne 21, 3) := by decide +kernel
theorem dX2_boundSpace_66 : decode cX2_boundSpace 66 = .ok (.aload_n 0, 1) := by decide +kernel
theorem dX2_boundSpace_67 : decode cX2_boundSpace 67 = .ok (.getfield 41, 3) := by decide +kernel
theorem dX2_boundSpace_70 : decode cX2_boundSpace 70 = .ok (.lconst 0, 1) := by decide +kernel
theorem dX2_boundSpace_71 : decode cX2_boundSpace 71 = .ok (.lcmp, 1) := by decide +kernel
theorem dX2_boundSpace_72 : decode cX2_boundSpace 72 = .ok (.ifCond .ne 12, 3) := by decide +kernel
theorem dX2_boundSpace_75 : decode cX2_boundSpace 75 = .ok (.aload_n 0, 1) := by decide +kernel
theorem dX2_boundSpace_76 : decode cX2_boundSpace 76 = .ok (.getfield 44, 3) := by decide +kernel
theorem dX2_boundSpace_79 : decode cX2_boundSpace 79 = .ok (.lconst 0, 1) := by decide +kernel
theorem dX2_boundSpace_80 : decode cX2_boundSpace 80 = .ok (.lcmp, 1) := by decide +kernel
theorem dX2_boundSpace_81 : decode cX2_boundSpace 81 = .ok (.ifCond .eq 7, 3) := by decide +kernel
theorem dX2_boundSpace_84 : decode cX2_boundSpace 84 = .ok (.aload_n 0, 1) := by decide +kernel
theorem dX2_boundSpace_85 : decode cX2_boundSpace 85 = .ok (.invokevirtual 92, 3) := by decide +kernel
theorem dX2_boundSpace_88 : decode cX2_boundSpace 88 = .ok (.iinc 2 1, 3) := by decide +kernel
theorem dX2_boundSpace_91 : decode cX2_boundSpace 91 = .ok (.goto (-77), 3) := by decide +kernel
theorem dX2_boundSpace_94 : decode cX2_boundSpace 94 = .ok (.iinc 1 1, 3) := by decide +kernel
theorem dX2_boundSpace_97 : decode cX2_boundSpace 97 = .ok (.goto (-95), 3) := by decide +kernel
theorem dX2_boundSpace_100 : decode cX2_boundSpace 100 = .ok (.return_, 1) := by decide +kernel
theorem dX2_isBoundBy_0 : decode cX2_isBoundBy 0 = .ok (.iconst 0, 1) := by decide +kernel
theorem dX2_isBoundBy_1 : decode cX2_isBoundBy 1 = .ok (.istore_n 3, 1) := by decide +kernel
theorem dX2_isBoundBy_2 : decode cX2_isBoundBy 2 = .ok (.iload_n 3, 1) := by decide +kernel
theorem dX2_isBoundBy_3 : decode cX2_isBoundBy 3 = .ok (.aload_n 0, 1) := by decide +kernel
theorem dX2_isBoundBy_4 : decode cX2_isBoundBy 4 = .ok (.getfield 34, 3) := by decide +kernel
theorem dX2_isBoundBy_7 : decode cX2_isBoundBy 7 = .ok (.if_icmp .ge 67, 3) := by decide +kernel
theorem dX2_isBoundBy_10 : decode cX2_isBoundBy 10 = .ok (.aload_n 0, 1) := by decide +kernel
theorem dX2_isBoundBy_11 : decode cX2_isBoundBy 11 = .ok (.iload_n 3, 1) := by decide +kernel
theorem dX2_isBoundBy_12 : decode cX2_isBoundBy 12 = .ok (.aload_n 0, 1) := by decide +kernel
theorem dX2_isBoundBy_13 : decode cX2_isBoundBy 13 = .ok (.getfield 9, 3) := by decide +kernel
theorem dX2_isBoundBy_16 : decode cX2_isBoundBy 16 = .ok (.iload_n 1, 1) := by decide +kernel
theorem dX2_isBoundBy_17 : decode cX2_isBoundBy 17 = .ok (.laload, 1) := by decide +kernel
theorem dX2_isBoundBy_18 : decode cX2_isBoundBy 18 = .ok (.aload_n 0, 1) := by decide +kernel
theorem dX2_isBoundBy_19 : decode cX2_isBoundBy 19 = .ok (.getfield 15, 3) := by decide +kernel
theorem dX2_isBoundBy_22 : decode cX2_isBoundBy 22 = .ok (.iload_n 1, 1) := by decide +kernel
theorem dX2_isBoundBy_23 : decode cX2_isBoundBy 23 = .ok (.laload, 1) := by decide +kernel
theorem dX2_isBoundBy_24 : decode cX2_isBoundBy 24 = .ok (.aload_n 0, 1) := by decide +kernel
theorem dX2_isBoundBy_25 : decode cX2_isBoundBy 25 = .ok (.getfield 18, 3) := by decide +kernel
theorem dX2_isBoundBy_28 : decode cX2_isBoundBy 28 = .ok (.iload_n 1, 1) := by decide +kernel
theorem dX2_isBoundBy_29 : decode cX2_isBoundBy 29 = .ok (.laload, 1) := by decide +kernel
theorem dX2_isBoundBy_30 : decode cX2_isBoundBy 30 = .ok (.invokevirtual 88, 3) := by decide +kernel
theorem dX2_isBoundBy_33 : decode cX2_isBoundBy 33 = .ok (.lconst 0, 1) := by decide +kernel
theorem dX2_isBoundBy_34 : decode cX2_isBoundBy 34 = .ok (.lcmp, 1) := by decide +kernel
theorem dX2_isBoundBy_35 : decode cX2_isBoundBy 35 = .ok (.ifCond .ne 33, 3) := by decide +kernel
theorem dX2_isBoundBy_38 : decode cX2_isBoundBy 38 = .ok (.aload_n 0, 1) := by decide +kernel
theorem dX2_isBoundBy_39 : decode cX2_isBoundBy 39 = .ok (.iload_n 3, 1) := by decide +kernel
theorem dX2_isBoundBy_40 : decode cX2_isBoundBy 40 = .ok (.aload_n 0, 1) := by decide +kernel
theorem dX2_isBoundBy_41 : decode cX2_isBoundBy 41 = .ok (.getfield 9, 3) := by decide +kernel
theorem dX2_isBoundBy_44 : decode cX2_isBoundBy 44 = .ok (.iload_n 2, 1) := by decide +kernel
theorem dX2_isBoundBy_45 : decode cX2_isBoundBy 45 = .ok (.laload, 1) := by decide +kernel
theorem dX2_isBoundBy_46 : decode cX2_isBoundBy 46 = .ok (.aload_n 0, 1) := by decide +kernel
theorem dX2_isBoundBy_47 : decode cX2_isBoundBy 47 = .ok (.getfield 15, 3) := by decide +kernel
theorem dX2_isBoundBy_50 : decode cX2_isBoundBy 50 = .ok (.iload_n 2, 1) := by decide +kernel
theorem dX2_isBoundBy_51 : decode cX2_isBoundBy 51 = .ok (.laload, 1) := by decide +kernel
theorem dX2_isBoundBy_52 : decode cX2_isBoundBy 52 = .ok (.aload_n 0, 1) := by decide +kernel
theorem dX2_isBoundBy_53 : decode cX2_isBoundBy 53 = .ok (.getfield 18, 3) := by decide +kernel
theorem dX2_isBoundBy_56 : decode cX2_isBoundBy 56 = .ok (.iload_n 2, 1) := by decide +kernel
theorem dX2_isBoundBy_57 : decode cX2_isBoundBy 57 = .ok (.laload, 1) := by decide +kernel
theorem dX2_isBoundBy_58 : decode cX2_isBoundBy 58 = .ok (.invokevirtual 88, 3) := by decide +kernel
theorem dX2_isBoundBy_61 : decode cX2_isBoundBy 61 = .ok (.lconst 0, 1) := by decide +kernel
theorem dX2_isBoundBy_62 : decode cX2_isBoundBy 62 = .ok (.lcmp, 1) := by decide +kernel
theorem dX2_isBoundBy_63 : decode cX2_isBoundBy 63 = .ok (.ifCond .ne 5, 3) := by decide +kernel
theorem dX2_isBoundBy_66 : decode cX2_isBoundBy 66 = .ok (.iconst 1, 1) := by decide +kernel
theorem dX2_isBoundBy_67 : decode cX2_isBoundBy 67 = .ok (.ireturn, 1) := by decide +kernel
theorem dX2_isBoundBy_68 : decode cX2_isBoundBy 68 = .ok (.iinc 3 1, 3) := by decide +kernel
theorem dX2_isBoundBy_71 : decode cX2_isBoundBy 71 = .ok (.goto (-69), 3) := by decide +kernel
theorem dX2_isBoundBy_74 : decode cX2_isBoundBy 74 = .ok (.iconst 0, 1) := by decide +kernel
theorem dX2_isBoundBy_75 : decode cX2_isBoundBy 75 = .ok (.ireturn, 1) := by decide +kernel
theorem dX2_boundIfOneSided_0 : decode cX2_boundIfOneSided 0 = .ok (.iconst 0, 1) := by decide +kernel
theorem dX2_boundIfOneSided_1 : decode cX2_boundIfOneSided 1 = .ok (.istore_n 1, 1) := by decide +kernel
theorem dX2_boundIfOneSided_2 : decode cX2_boundIfOneSided 2 = .ok (.iconst 0, 1) := by decide +kernel
theorem dX2_boundIfOneSided_3 : decode cX2_boundIfOneSided 3 = .ok (.istore_n 2, 1) := by decide +kernel
theorem dX2_boundIfOneSided_4 : decode cX2_boundIfOneSided 4 = .ok (.iconst 0, 1) := by decide +kernel
theorem dX2_boundIfOneSided_5 : decode cX2_boundIfOneSided 5 = .ok (.istore_n 3, 1) := by decide +kernel
theorem dX2_boundIfOneSided_6 : decode cX2_boundIfOneSided 6 = .ok (.iload_n 3, 1) := by decide +kernel
theorem dX2_boundIfOneSided_7 : decode cX2_boundIfOneSided 7 = .ok (.aload_n 0, 1) := by decide +kernel
theorem dX2_boundIfOneSided_8 : decode cX2_boundIfOneSided 8 = .ok (.getfield 21, 3) := by decide +kernel
theorem dX2_boundIfOneSided_11 : decode cX2_boundIfOneSided 11 = .ok (.if_icmp .ge 54, 3) := by decide +kernel
theorem dX2_boundIfOneSided_14 : decode cX2_boundIfOneSided 14 = .ok (.iload_n 1, 1) := by decide +kernel
theorem dX2_boundIfOneSided_15 : decode cX2_boundIfOneSided 15 = .ok (.ifCond .eq 7, 3) := by decide +kernel
theorem dX2_boundIfOneSided_18 : decode cX2_boundIfOneSided 18 = .ok (.iload_n 2, 1) := by decide +kernel
theorem dX2_boundIfOneSided_19 : decode cX2_boundIfOneSided 19 = .ok (.ifCond .ne 46, 3) := by decide +kernel
theorem dX2_boundIfOneSided_22 : decode cX2_boundIfOneSided 22 = .ok (.aload_n 0, 1) := by decide +kernel
theorem dX2_boundIfOneSided_23 : decode cX2_boundIfOneSided 23 = .ok (.iload_n 3, 1) := by decide +kernel
theorem dX2_boundIfOneSided_24 : decode cX2_boundIfOneSided 24 = .ok (.invokevirtual 63, 3) := by decide +kernel
theorem dX2_boundIfOneSided_27 : decode cX2_boundIfOneSided 27 = .ok (.lstore 4, 2) := by decide +kernel
theorem dX2_boundIfOneSided_29 : decode cX2_boundIfOneSided 29 = .ok (.iload_n 1, 1) := by decide +kernel
theorem dX2_boundIfOneSided_30 : decode cX2_boundIfOneSided 30 = .ok (.lload 4, 2) := by decide +kernel
theorem dX2_boundIfOneSided_32 : decode cX2_boundIfOneSided 32 = .ok (.lconst 0, 1) := by decide +kernel
theorem dX2_boundIfOneSided_33 : decode cX2_boundIfOneSided 33 = .ok (.lcmp, 1) := by decide +kernel
theorem dX2_boundIfOneSided_34 : decode cX2_boundIfOneSided 34 = .ok (.ifCond .le 7, 3) := by decide +kernel
theorem dX2_boundIfOneSided_37 : decode cX2_boundIfOneSided 37 = .ok (.iconst 1, 1) := by decide +kernel
theorem dX2_boundIfOneSided_38 : decode cX2_boundIfOneSided 38 = .ok (.goto 4, 3) := by decide +kernel
theorem dX2_boundIfOneSided_41 : decode cX2_boundIfOneSided 41 = .ok (.iconst 0, 1) := by decide +kernel
theorem dX2_boundIfOneSided_42 : decode cX2_boundIfOneSided 42 = .ok (.ior, 1) := by decide +kernel
theorem dX2_boundIfOneSided_43 : decode cX2_boundIfOneSided 43 = .ok (.istore_n 1, 1) := by decide +kernel
theorem dX2_boundIfOneSided_44 : decode cX2_boundIfOneSided 44 = .ok (.iload_n 2, 1) := by decide +kernel
theorem dX2_boundIfOneSided_45 : decode cX2_boundIfOneSided 45 = .ok (.lload 4, 2) := by decide +kernel
theorem dX2_boundIfOneSided_47 : decode cX2_boundIfOneSided 47 = .ok (.lconst 0, 1) := by decide +kernel
theorem dX2_boundIfOneSided_48 : decode cX2_boundIfOneSided 48 = .ok (.lcmp, 1) := by decide +kernel
theorem dX2_boundIfOneSided_49 : decode cX2_boundIfOneSided 49 = .ok (.ifCond .ge 7, 3) := by decide +kernel
theorem dX2_boundIfOneSided_52 : decode cX2_boundIfOneSided 52 = .ok (.iconst 1, 1) := by decide +kernel
theorem dX2_boundIfOneSided_53 : decode cX2_boundIfOneSided 53 = .ok (.goto 4, 3) := by decide +kernel
theorem dX2_boundIfOneSided_56 : decode cX2_boundIfOneSided 56 = .ok (.iconst 0, 1) := by decide +kernel
theorem dX2_boundIfOneSided_57 : decode cX2_boundIfOneSided 57 = .ok (.ior, 1) := by decide +kernel
theorem dX2_boundIfOneSided_58 : decode cX2_boundIfOneSided 58 = .ok (.istore_n 2, 1) := by decide +kernel
theorem dX2_boundIfOneSided_59 : decode cX2_boundIfOneSided 59 = .ok (.iinc 3 1, 3) := by decide +kernel
theorem dX2_boundIfOneSided_62 : decode cX2_boundIfOneSided 62 = .ok (.goto (-56), 3) := by decide +kernel
theorem dX2_boundIfOneSided_65 : decode cX2_boundIfOneSided 65 = .ok (.iload_n 2, 1) := by decide +kernel
theorem dX2_boundIfOneSided_66 : decode cX2_boundIfOneSided 66 = .ok (.ifCond .ne 22, 3) := by decide +kernel
theorem dX2_boundIfOneSided_69 : decode cX2_boundIfOneSided 69 = .ok (.aload_n 0, 1) := by decide +kernel
theorem dX2_boundIfOneSided_70 : decode cX2_boundIfOneSided 70 = .ok (.aload_n 0, 1) := by decide +kernel
theorem dX2_boundIfOneSided_71 : decode cX2_boundIfOneSided 71 = .ok (.getfield 37, 3) := by decide +kernel
theorem dX2_boundIfOneSided_74 : decode cX2_boundIfOneSided 74 = .ok (.aload_n 0, 1) := by decide +kernel
theorem dX2_boundIfOneSided_75 : decode cX2_boundIfOneSided 75 = .ok (.getfield 41, 3) := by decide +kernel
theorem dX2_boundIfOneSided_78 : decode cX2_boundIfOneSided 78 = .ok (.aload_n 0, 1) := by decide +kernel
theorem dX2_boundIfOneSided_79 : decode cX2_boundIfOneSided 79 = .ok (.getfield 44, 3) := by decide +kernel
theorem dX2_boundIfOneSided_82 : decode cX2_boundIfOneSided 82 = .ok (.invokevirtual 99, 3) := by decide +kernel
theorem dX2_boundIfOneSided_85 : decode cX2_boundIfOneSided 85 = .ok (.goto 26, 3) := by decide +kernel
theorem dX2_boundIfOneSided_88 : decode cX2_boundIfOneSided 88 = .ok (.iload_n 1, 1) := by decide +kernel
theorem dX2_boundIfOneSided_89 : decode cX2_boundIfOneSided 89 = .ok (.ifCond .ne 22, 3) := by decide +kernel
theorem dX2_boundIfOneSided_92 : decode cX2_boundIfOneSided 92 = .ok (.aload_n 0, 1) := by decide +kernel
theorem dX2_boundIfOneSided_93 : decode cX2_boundIfOneSided 93 = .ok (.aload_n 0, 1) := by decide +kernel
theorem dX2_boundIfOneSided_94 : decode cX2_boundIfOneSided 94 = .ok (.getfield 37, 3) := by decide +kernel
theorem dX2_boundIfOneSided_97 : decode cX2_boundIfOneSided 97 = .ok (.lneg, 1) := by decide +kernel
theorem dX2_boundIfOneSided_98 : decode cX2_boundIfOneSided 98 = .ok (.aload_n 0, 1) := by decide +kernel
theorem dX2_boundIfOneSided_99 : decode cX2_boundIfOneSided 99 = .ok (.getfield 41, 3) := by decide +kernel
theorem dX2_boundIfOneSided_102 : decode cX2_boundIfOneSided 102 = .ok (.lneg, 1) := by decide +kernel
theorem dX2_boundIfOneSided_103 : decode cX2_boundIfOneSided 103 = .ok (.aload_n 0, 1) := by decide +kernel
theorem dX2_boundIfOneSided_104 : decode cX2_boundIfOneSided 104 = .ok (.getfield 44, 3) := by decide +kernel
theorem dX2_boundIfOneSided_107 : decode cX2_boundIfOneSided 107 = .ok (.lneg, 1) := by decide +kernel
theorem dX2_boundIfOneSided_108 : decode cX2_boundIfOneSided 108 = .ok (.invokevirtual 99, 3) := by decide +kernel
theorem dX2_boundIfOneSided_111 : decode cX2_boundIfOneSided 111 = .ok (.return_, 1) := by decide +kernel
theorem dX2_boundBoth_0 : decode cX2_boundBoth 0 = .ok (.aload_n 0, 1) := by decide +kernel
theorem dX2_boundBoth_1 : decode cX2_boundBoth 1 = .ok (.lload_n 1, 1) := by decide +kernel
theorem dX2_boundBoth_2 : decode cX2_boundBoth 2 = .ok (.lload_n 3, 1) := by decide +kernel
theorem dX2_boundBoth_3 : decode cX2_boundBoth 3 = .ok (.lload 5, 2) := by decide +kernel
theorem dX2_boundBoth_5 : decode cX2_boundBoth 5 = .ok (.invokevirtual 99, 3) := by decide +kernel
theorem dX2_boundBoth_8 : decode cX2_boundBoth 8 = .ok (.aload_n 0, 1) := by decide +kernel
theorem dX2_boundBoth_9 : decode cX2_boundBoth 9 = .ok (.lload_n 1, 1) := by decide +kernel
theorem dX2_boundBoth_10 : decode cX2_boundBoth 10 = .ok (.lneg, 1) := by decide +kernel
theorem dX2_boundBoth_11 : decode cX2_boundBoth 11 = .ok (.lload_n 3, 1) := by decide +kernel
theorem dX2_boundBoth_12 : decode cX2_boundBoth 12 = .ok (.lneg, 1) := by decide +kernel
theorem dX2_boundBoth_13 : decode cX2_boundBoth 13 = .ok (.lload 5, 2) := by decide +kernel
theorem dX2_boundBoth_15 : decode cX2_boundBoth 15 = .ok (.lneg, 1) := by decide +kernel
theorem dX2_boundBoth_16 : decode cX2_boundBoth 16 = .ok (.invokevirtual 99, 3) := by decide +kernel
theorem dX2_boundBoth_19 : decode cX2_boundBoth 19 = .ok (.return_, 1) := by decide +kernel
theorem dX2_boundOnce_0 : decode cX2_boundOnce 0 = .ok (.aload_n 0, 1) := by decide +kernel
theorem dX2_boundOnce_1 : decode cX2_boundOnce 1 = .ok (.getfield 34, 3) := by decide +kernel
theorem dX2_boundOnce_4 : decode cX2_boundOnce 4 = .ok (.bipush 32, 2) := by decide +kernel
theorem dX2_boundOnce_6 : decode cX2_boundOnce 6 = .ok (.if_icmp .ge 44, 3) := by decide +kernel
theorem dX2_boundOnce_9 : decode cX2_boundOnce 9 = .ok (.aload_n 0, 1) := by decide +kernel
theorem dX2_boundOnce_10 : decode cX2_boundOnce 10 = .ok (.getfield 25, 3) := by decide +kernel
theorem dX2_boundOnce_13 : decode cX2_boundOnce 13 = .ok (.aload_n 0, 1) := by decide +kernel
theorem dX2_boundOnce_14 : decode cX2_boundOnce 14 = .ok (.getfield 34, 3) := by decide +kernel
theorem dX2_boundOnce_17 : decode cX2_boundOnce 17 = .ok (.lload_n 1, 1) := by decide +kernel
theorem dX2_boundOnce_18 : decode cX2_boundOnce 18 = .ok (.lastore, 1) := by decide +kernel
theorem dX2_boundOnce_19 : decode cX2_boundOnce 19 = .ok (.aload_n 0, 1) := by decide +kernel
theorem dX2_boundOnce_20 : decode cX2_boundOnce 20 = .ok (.getfield 28, 3) := by decide +kernel
theorem dX2_boundOnce_23 : decode cX2_boundOnce 23 = .ok (.aload_n 0, 1) := by decide +kernel
theorem dX2_boundOnce_24 : decode cX2_boundOnce 24 = .ok (.getfield 34, 3) := by decide +kernel
theorem dX2_boundOnce_27 : decode cX2_boundOnce 27 = .ok (.lload_n 3, 1) := by decide +kernel
theorem dX2_boundOnce_28 : decode cX2_boundOnce 28 = .ok (.lastore, 1) := by decide +kernel
theorem dX2_boundOnce_29 : decode cX2_boundOnce 29 = .ok (.aload_n 0, 1) := by decide +kernel
theorem dX2_boundOnce_30 : decode cX2_boundOnce 30 = .ok (.getfield 31, 3) := by decide +kernel
theorem dX2_boundOnce_33 : decode cX2_boundOnce 33 = .ok (.aload_n 0, 1) := by decide +kernel
theorem dX2_boundOnce_34 : decode cX2_boundOnce 34 = .ok (.getfield 34, 3) := by decide +kernel
theorem dX2_boundOnce_37 : decode cX2_boundOnce 37 = .ok (.lload 5, 2) := by decide +kernel
theorem dX2_boundOnce_39 : decode cX2_boundOnce 39 = .ok (.lastore, 1) := by decide +kernel
theorem dX2_boundOnce_40 : decode cX2_boundOnce 40 = .ok (.aload_n 0, 1) := by decide +kernel
theorem dX2_boundOnce_41 : decode cX2_boundOnce 41 = .ok (.dup, 1) := by decide +kernel
theorem dX2_boundOnce_42 : decode cX2_boundOnce 42 = .ok (.getfield 34, 3) := by decide +kernel
theorem dX2_boundOnce_45 : decode cX2_boundOnce 45 = .ok (.iconst 1, 1) := by decide +kernel
theorem dX2_boundOnce_46 : decode cX2_boundOnce 46 = .ok (.iadd, 1) := by decide +kernel
theorem dX2_boundOnce_47 : decode cX2_boundOnce 47 = .ok (.putfield 34, 3) := by decide +kernel
theorem dX2_boundOnce_50 : decode cX2_boundOnce 50 = .ok (.return_, 1) := by decide +kernel
theorem dX2_takeCross_0 : decode cX2_takeCross 0 = .ok (.iload 7, 2) := by decide +kernel
theorem dX2_takeCross_2 : decode cX2_takeCross 2 = .ok (.ifCond .lt 81, 3) := by decide +kernel
theorem dX2_takeCross_5 : decode cX2_takeCross 5 = .ok (.iload 7, 2) := by decide +kernel
theorem dX2_takeCross_7 : decode cX2_takeCross 7 = .ok (.bipush 30, 2) := by decide +kernel
theorem dX2_takeCross_9 : decode cX2_takeCross 9 = .ok (.if_icmp .ge 74, 3) := by decide +kernel
theorem dX2_takeCross_12 : decode cX2_takeCross 12 = .ok (.aload_n 0, 1) := by decide +kernel
theorem dX2_takeCross_13 : decode cX2_takeCross 13 = .ok (.lload_n 3, 1) := by decide +kernel
theorem dX2_takeCross_14 : decode cX2_takeCross 14 = .ok (.aload_n 0, 1) := by decide +kernel
theorem dX2_takeCross_15 : decode cX2_takeCross 15 = .ok (.getfield 18, 3) := by decide +kernel
theorem dX2_takeCross_18 : decode cX2_takeCross 18 = .ok (.iload 7, 2) := by decide +kernel
theorem dX2_takeCross_20 : decode cX2_takeCross 20 = .ok (.laload, 1) := by decide +kernel
theorem dX2_takeCross_21 : decode cX2_takeCross 21 = .ok (.lmul, 1) := by decide +kernel
theorem dX2_takeCross_22 : decode cX2_takeCross 22 = .ok (.lload 5, 2) := by decide +kernel
theorem dX2_takeCross_24 : decode cX2_takeCross 24 = .ok (.aload_n 0, 1) := by decide +kernel
theorem dX2_takeCross_25 : decode cX2_takeCross 25 = .ok (.getfield 15, 3) := by decide +kernel
theorem dX2_takeCross_28 : decode cX2_takeCross 28 = .ok (.iload 7, 2) := by decide +kernel
theorem dX2_takeCross_30 : decode cX2_takeCross 30 = .ok (.laload, 1) := by decide +kernel
theorem dX2_takeCross_31 : decode cX2_takeCross 31 = .ok (.lmul, 1) := by decide +kernel
theorem dX2_takeCross_32 : decode cX2_takeCross 32 = .ok (.lsub, 1) := by decide +kernel
theorem dX2_takeCross_33 : decode cX2_takeCross 33 = .ok (.putfield 37, 3) := by decide +kernel
theorem dX2_takeCross_36 : decode cX2_takeCross 36 = .ok (.aload_n 0, 1) := by decide +kernel
theorem dX2_takeCross_37 : decode cX2_takeCross 37 = .ok (.lload 5, 2) := by decide +kernel
theorem dX2_takeCross_39 : decode cX2_takeCross 39 = .ok (.aload_n 0, 1) := by decide +kernel
theorem dX2_takeCross_40 : decode cX2_takeCross 40 = .ok (.getfield 9, 3) := by decide +kernel
theorem dX2_takeCross_43 : decode cX2_takeCross 43 = .ok (.iload 7, 2) := by decide +kernel
theorem dX2_takeCross_45 : decode cX2_takeCross 45 = .ok (.laload, 1) := by decide +kernel
theorem dX2_takeCross_46 : decode cX2_takeCross 46 = .ok (.lmul, 1) := by decide +kernel
theorem dX2_takeCross_47 : decode cX2_takeCross 47 = .ok (.lload_n 1, 1) := by decide +kernel
theorem dX2_takeCross_48 : decode cX2_takeCross 48 = .ok (.aload_n 0, 1) := by decide +kernel
theorem dX2_takeCross_49 : decode cX2_takeCross 49 = .ok (.getfield 18, 3) := by decide +kernel
theorem dX2_takeCross_52 : decode cX2_takeCross 52 = .ok (.iload 7, 2) := by decide +kernel
theorem dX2_takeCross_54 : decode cX2_takeCross 54 = .ok (.laload, 1) := by decide +kernel
theorem dX2_takeCross_55 : decode cX2_takeCross 55 = .ok (.lmul, 1) := by decide +kernel
theorem dX2_takeCross_56 : decode cX2_takeCross 56 = .ok (.lsub, 1) := by decide +kernel
theorem dX2_takeCross_57 : decode cX2_takeCross 57 = .ok (.putfield 41, 3) := by decide +kernel
theorem dX2_takeCross_60 : decode cX2_takeCross 60 = .ok (.aload_n 0, 1) := by decide +kernel
theorem dX2_takeCross_61 : decode cX2_takeCross 61 = .ok (.lload_n 1, 1) := by decide +kernel
theorem dX2_takeCross_62 : decode cX2_takeCross 62 = .ok (.aload_n 0, 1) := by decide +kernel
theorem dX2_takeCross_63 : decode cX2_takeCross 63 = .ok (.getfield 15, 3) := by decide +kernel
theorem dX2_takeCross_66 : decode cX2_takeCross 66 = .ok (.iload 7, 2) := by decide +kernel
theorem dX2_takeCross_68 : decode cX2_takeCross 68 = .ok (.laload, 1) := by decide +kernel
theorem dX2_takeCross_69 : decode cX2_takeCross 69 = .ok (.lmul, 1) := by decide +kernel
theorem dX2_takeCross_70 : decode cX2_takeCross 70 = .ok (.lload_n 3, 1) := by decide +kernel
theorem dX2_takeCross_71 : decode cX2_takeCross 71 = .ok (.aload_n 0, 1) := by decide +kernel
theorem dX2_takeCross_72 : decode cX2_takeCross 72 = .ok (.getfield 9, 3) := by decide +kernel
theorem dX2_takeCross_75 : decode cX2_takeCross 75 = .ok (.iload 7, 2) := by decide +kernel
theorem dX2_takeCross_77 : decode cX2_takeCross 77 = .ok (.laload, 1) := by decide +kernel
theorem dX2_takeCross_78 : decode cX2_takeCross 78 = .ok (.lmul, 1) := by decide +kernel
theorem dX2_takeCross_79 : decode cX2_takeCross 79 = .ok (.lsub, 1) := by decide +kernel
theorem dX2_takeCross_80 : decode cX2_takeCross 80 = .ok (.putfield 44, 3) := by decide +kernel
theorem dX2_takeCross_83 : decode cX2_takeCross 83 = .ok (.return_, 1) := by decide +kernel
theorem dX2_alongNormal_0 : decode cX2_alongNormal 0 = .ok (.iload_n 1, 1) := by decide +kernel
theorem dX2_alongNormal_1 : decode cX2_alongNormal 1 = .ok (.ifCond .lt 9, 3) := by decide +kernel
theorem dX2_alongNormal_4 : decode cX2_alongNormal 4 = .ok (.iload_n 1, 1) := by decide +kernel
theorem dX2_alongNormal_5 : decode cX2_alongNormal 5 = .ok (.bipush 30, 2) := by decide +kernel
theorem dX2_alongNormal_7 : decode cX2_alongNormal 7 = .ok (.if_icmp .lt 5, 3) := by decide +kernel
theorem dX2_alongNormal_10 : decode cX2_alongNormal 10 = .ok (.lconst 0, 1) := by decide +kernel
theorem dX2_alongNormal_11 : decode cX2_alongNormal 11 = .ok (.lreturn, 1) := by decide +kernel
theorem dX2_alongNormal_12 : decode cX2_alongNormal 12 = .ok (.aload_n 0, 1) := by decide +kernel
theorem dX2_alongNormal_13 : decode cX2_alongNormal 13 = .ok (.getfield 37, 3) := by decide +kernel
theorem dX2_alongNormal_16 : decode cX2_alongNormal 16 = .ok (.aload_n 0, 1) := by decide +kernel
theorem dX2_alongNormal_17 : decode cX2_alongNormal 17 = .ok (.getfield 9, 3) := by decide +kernel
theorem dX2_alongNormal_20 : decode cX2_alongNormal 20 = .ok (.iload_n 1, 1) := by decide +kernel
theorem dX2_alongNormal_21 : decode cX2_alongNormal 21 = .ok (.laload, 1) := by decide +kernel
theorem dX2_alongNormal_22 : decode cX2_alongNormal 22 = .ok (.lmul, 1) := by decide +kernel
theorem dX2_alongNormal_23 : decode cX2_alongNormal 23 = .ok (.aload_n 0, 1) := by decide +kernel
theorem dX2_alongNormal_24 : decode cX2_alongNormal 24 = .ok (.getfield 41, 3) := by decide +kernel
theorem dX2_alongNormal_27 : decode cX2_alongNormal 27 = .ok (.aload_n 0, 1) := by decide +kernel
theorem dX2_alongNormal_28 : decode cX2_alongNormal 28 = .ok (.getfield 15, 3) := by decide +kernel
theorem dX2_alongNormal_31 : decode cX2_alongNormal 31 = .ok (.iload_n 1, 1) := by decide +kernel
theorem dX2_alongNormal_32 : decode cX2_alongNormal 32 = .ok (.laload, 1) := by decide +kernel
theorem dX2_alongNormal_33 : decode cX2_alongNormal 33 = .ok (.lmul, 1) := by decide +kernel
theorem dX2_alongNormal_34 : decode cX2_alongNormal 34 = .ok (.ladd, 1) := by decide +kernel
theorem dX2_alongNormal_35 : decode cX2_alongNormal 35 = .ok (.aload_n 0, 1) := by decide +kernel
theorem dX2_alongNormal_36 : decode cX2_alongNormal 36 = .ok (.getfield 44, 3) := by decide +kernel
theorem dX2_alongNormal_39 : decode cX2_alongNormal 39 = .ok (.aload_n 0, 1) := by decide +kernel
theorem dX2_alongNormal_40 : decode cX2_alongNormal 40 = .ok (.getfield 18, 3) := by decide +kernel
theorem dX2_alongNormal_43 : decode cX2_alongNormal 43 = .ok (.iload_n 1, 1) := by decide +kernel
theorem dX2_alongNormal_44 : decode cX2_alongNormal 44 = .ok (.laload, 1) := by decide +kernel
theorem dX2_alongNormal_45 : decode cX2_alongNormal 45 = .ok (.lmul, 1) := by decide +kernel
theorem dX2_alongNormal_46 : decode cX2_alongNormal 46 = .ok (.ladd, 1) := by decide +kernel
theorem dX2_alongNormal_47 : decode cX2_alongNormal 47 = .ok (.lreturn, 1) := by decide +kernel
theorem dX3_init_0 : decode cX3_init 0 = .ok (.aload_n 0, 1) := by decide +kernel
theorem dX3_init_1 : decode cX3_init 1 = .ok (.invokespecial 3, 3) := by decide +kernel
theorem dX3_init_4 : decode cX3_init 4 = .ok (.aload_n 0, 1) := by decide +kernel
theorem dX3_init_5 : decode cX3_init 5 = .ok (.bipush 16, 2) := by decide +kernel
theorem dX3_init_7 : decode cX3_init 7 = .ok (.newarray .int, 2) := by decide +kernel
theorem dX3_init_9 : decode cX3_init 9 = .ok (.putfield 9, 3) := by decide +kernel
theorem dX3_init_12 : decode cX3_init 12 = .ok (.aload_n 0, 1) := by decide +kernel
theorem dX3_init_13 : decode cX3_init 13 = .ok (.bipush 16, 2) := by decide +kernel
theorem dX3_init_15 : decode cX3_init 15 = .ok (.newarray .int, 2) := by decide +kernel
theorem dX3_init_17 : decode cX3_init 17 = .ok (.putfield 15, 3) := by decide +kernel
theorem dX3_init_20 : decode cX3_init 20 = .ok (.aload_n 0, 1) := by decide +kernel
theorem dX3_init_21 : decode cX3_init 21 = .ok (.bipush 16, 2) := by decide +kernel
theorem dX3_init_23 : decode cX3_init 23 = .ok (.newarray .int, 2) := by decide +kernel
theorem dX3_init_25 : decode cX3_init 25 = .ok (.putfield 18, 3) := by decide +kernel
theorem dX3_init_28 : decode cX3_init 28 = .ok (.aload_n 0, 1) := by decide +kernel
theorem dX3_init_29 : decode cX3_init 29 = .ok (.iconst 0, 1) := by decide +kernel
theorem dX3_init_30 : decode cX3_init 30 = .ok (.putfield 21, 3) := by decide +kernel
theorem dX3_init_33 : decode cX3_init 33 = .ok (.aload_n 0, 1) := by decide +kernel
theorem dX3_init_34 : decode cX3_init 34 = .ok (.lconst 0, 1) := by decide +kernel
theorem dX3_init_35 : decode cX3_init 35 = .ok (.putfield 25, 3) := by decide +kernel
theorem dX3_init_38 : decode cX3_init 38 = .ok (.aload_n 0, 1) := by decide +kernel
theorem dX3_init_39 : decode cX3_init 39 = .ok (.lconst 0, 1) := by decide +kernel
theorem dX3_init_40 : decode cX3_init 40 = .ok (.putfield 29, 3) := by decide +kernel
theorem dX3_init_43 : decode cX3_init 43 = .ok (.return_, 1) := by decide +kernel
theorem dX3_taken_0 : decode cX3_taken 0 = .ok (.aload_n 0, 1) := by decide +kernel
theorem dX3_taken_1 : decode cX3_taken 1 = .ok (.getfield 21, 3) := by decide +kernel
theorem dX3_taken_4 : decode cX3_taken 4 = .ok (.bipush 16, 2) := by decide +kernel
theorem dX3_taken_6 : decode cX3_taken 6 = .ok (.if_icmp .lt 5, 3) := by decide +kernel
theorem dX3_taken_9 : decode cX3_taken 9 = .ok (.iconst 0, 1) := by decide +kernel
theorem dX3_taken_10 : decode cX3_taken 10 = .ok (.ireturn, 1) := by decide +kernel
theorem dX3_taken_11 : decode cX3_taken 11 = .ok (.aload_n 0, 1) := by decide +kernel
theorem dX3_taken_12 : decode cX3_taken 12 = .ok (.getfield 9, 3) := by decide +kernel
theorem dX3_taken_15 : decode cX3_taken 15 = .ok (.aload_n 0, 1) := by decide +kernel
theorem dX3_taken_16 : decode cX3_taken 16 = .ok (.getfield 21, 3) := by decide +kernel
theorem dX3_taken_19 : decode cX3_taken 19 = .ok (.iload_n 1, 1) := by decide +kernel
theorem dX3_taken_20 : decode cX3_taken 20 = .ok (.iastore, 1) := by decide +kernel
theorem dX3_taken_21 : decode cX3_taken 21 = .ok (.aload_n 0, 1) := by decide +kernel
theorem dX3_taken_22 : decode cX3_taken 22 = .ok (.getfield 15, 3) := by decide +kernel
theorem dX3_taken_25 : decode cX3_taken 25 = .ok (.aload_n 0, 1) := by decide +kernel
theorem dX3_taken_26 : decode cX3_taken 26 = .ok (.getfield 21, 3) := by decide +kernel
theorem dX3_taken_29 : decode cX3_taken 29 = .ok (.iload_n 2, 1) := by decide +kernel
theorem dX3_taken_30 : decode cX3_taken 30 = .ok (.iastore, 1) := by decide +kernel
theorem dX3_taken_31 : decode cX3_taken 31 = .ok (.aload_n 0, 1) := by decide +kernel
theorem dX3_taken_32 : decode cX3_taken 32 = .ok (.getfield 18, 3) := by decide +kernel
theorem dX3_taken_35 : decode cX3_taken 35 = .ok (.aload_n 0, 1) := by decide +kernel
theorem dX3_taken_36 : decode cX3_taken 36 = .ok (.getfield 21, 3) := by decide +kernel
theorem dX3_taken_39 : decode cX3_taken 39 = .ok (.iload_n 3, 1) := by decide +kernel
theorem dX3_taken_40 : decode cX3_taken 40 = .ok (.iastore, 1) := by decide +kernel
theorem dX3_taken_41 : decode cX3_taken 41 = .ok (.aload_n 0, 1) := by decide +kernel
theorem dX3_taken_42 : decode cX3_taken 42 = .ok (.dup, 1) := by decide +kernel
theorem dX3_taken_43 : decode cX3_taken 43 = .ok (.getfield 21, 3) := by decide +kernel
theorem dX3_taken_46 : decode cX3_taken 46 = .ok (.iconst 1, 1) := by decide +kernel
theorem dX3_taken_47 : decode cX3_taken 47 = .ok (.iadd, 1) := by decide +kernel
theorem dX3_taken_48 : decode cX3_taken 48 = .ok (.putfield 21, 3) := by decide +kernel
theorem dX3_taken_51 : decode cX3_taken 51 = .ok (.iconst 1, 1) := by decide +kernel
theorem dX3_taken_52 : decode cX3_taken 52 = .ok (.ireturn, 1) := by decide +kernel
theorem dX3_leastPull_0 : decode cX3_leastPull 0 = .ok (.aload_n 1, 1) := by decide +kernel
theorem dX3_leastPull_1 : decode cX3_leastPull 1 = .ok (.ifnull 13, 3) := by decide +kernel
theorem dX3_leastPull_4 : decode cX3_leastPull 4 = .ok (.aload_n 2, 1) := by decide +kernel
theorem dX3_leastPull_5 : decode cX3_leastPull 5 = .ok (.ifnull 9, 3) := by decide +kernel
theorem dX3_leastPull_8 : decode cX3_leastPull 8 = .ok (.aload_n 2, 1) := by decide +kernel
theorem dX3_leastPull_9 : decode cX3_leastPull 9 = .ok (.arraylength, 1) := by decide +kernel
theorem dX3_leastPull_10 : decode cX3_leastPull 10 = .ok (.iconst 3, 1) := by decide +kernel
theorem dX3_leastPull_11 : decode cX3_leastPull 11 = .ok (.if_icmp .ge 5, 3) := by decide +kernel
theorem dX3_leastPull_14 : decode cX3_leastPull 14 = .ok (.iconst (-1), 1) := by decide +kernel
theorem dX3_leastPull_15 : decode cX3_leastPull 15 = .ok (.ireturn, 1) := by decide +kernel
theorem dX3_leastPull_16 : decode cX3_leastPull 16 = .ok (.aload_n 0, 1) := by decide +kernel
theorem dX3_leastPull_17 : decode cX3_leastPull 17 = .ok (.lconst 0, 1) := by decide +kernel
theorem dX3_leastPull_18 : decode cX3_leastPull 18 = .ok (.putfield 25, 3) := by decide +kernel
theorem dX3_leastPull_21 : decode cX3_leastPull 21 = .ok (.aload_n 0, 1) := by decide +kernel
theorem dX3_leastPull_22 : decode cX3_leastPull 22 = .ok (.ldc2_w 32, 3) := by decide +kernel
theorem dX3_leastPull_25 : decode cX3_leastPull 25 = .ok (.putfield 29, 3) := by decide +kernel
theorem dX3_leastPull_28 : decode cX3_leastPull 28 = .ok (.iconst 0, 1) := by decide +kernel
theorem dX3_leastPull_29 : decode cX3_leastPull 29 = .ok (.istore_n 3, 1) := by decide +kernel
theorem dX3_leastPull_30 : decode cX3_leastPull 30 = .ok (.iload_n 3, 1) := by decide +kernel
theorem dX3_leastPull_31 : decode cX3_leastPull 31 = .ok (.aload_n 0, 1) := by decide +kernel
theorem dX3_leastPull_32 : decode cX3_leastPull 32 = .ok (.getfield 21, 3) := by decide +kernel
theorem dX3_leastPull_35 : decode cX3_leastPull 35 = .ok (.if_icmp .ge 79, 3) := by decide +kernel
theorem dX3_leastPull_38 : decode cX3_leastPull 38 = .ok (.iload_n 3, 1) := by decide +kernel
theorem dX3_leastPull_39 : decode cX3_leastPull 39 = .ok (.bipush 16, 2) := by decide +kernel
theorem dX3_leastPull_41 : decode cX3_leastPull 41 = .ok (.if_icmp .ge 73, 3) := by decide +kernel
theorem dX3_leastPull_44 : decode cX3_leastPull 44 = .ok (.iconst 0, 1) := by decide +kernel
theorem dX3_leastPull_45 : decode cX3_leastPull 45 = .ok (.istore 4, 2) := by decide +kernel
theorem dX3_leastPull_47 : decode cX3_leastPull 47 = .ok (.iload 4, 2) := by decide +kernel
theorem dX3_leastPull_49 : decode cX3_leastPull 49 = .ok (.aload_n 1, 1) := by decide +kernel
theorem dX3_leastPull_50 : decode cX3_leastPull 50 = .ok (.getfield 34, 3) := by decide +kernel
theorem dX3_leastPull_53 : decode cX3_leastPull 53 = .ok (.if_icmp .ge 55, 3) := by decide +kernel
theorem dX3_leastPull_56 : decode cX3_leastPull 56 = .ok (.aload_n 0, 1) := by decide +kernel
theorem dX3_leastPull_57 : decode cX3_leastPull 57 = .ok (.aload_n 1, 1) := by decide +kernel
theorem dX3_leastPull_58 : decode cX3_leastPull 58 = .ok (.iload 4, 2) := by decide +kernel
theorem dX3_leastPull_60 : decode cX3_leastPull 60 = .ok (.aload_n 0, 1) := by decide +kernel
theorem dX3_leastPull_61 : decode cX3_leastPull 61 = .ok (.getfield 9, 3) := by decide +kernel
theorem dX3_leastPull_64 : decode cX3_leastPull 64 = .ok (.iload_n 3, 1) := by decide +kernel
theorem dX3_leastPull_65 : decode cX3_leastPull 65 = .ok (.iaload, 1) := by decide +kernel
theorem dX3_leastPull_66 : decode cX3_leastPull 66 = .ok (.i2l, 1) := by decide +kernel
theorem dX3_leastPull_67 : decode cX3_leastPull 67 = .ok (.aload_n 0, 1) := by decide +kernel
theorem dX3_leastPull_68 : decode cX3_leastPull 68 = .ok (.getfield 15, 3) := by decide +kernel
theorem dX3_leastPull_71 : decode cX3_leastPull 71 = .ok (.iload_n 3, 1) := by decide +kernel
theorem dX3_leastPull_72 : decode cX3_leastPull 72 = .ok (.iaload, 1) := by decide +kernel
theorem dX3_leastPull_73 : decode cX3_leastPull 73 = .ok (.i2l, 1) := by decide +kernel
theorem dX3_leastPull_74 : decode cX3_leastPull 74 = .ok (.aload_n 0, 1) := by decide +kernel
theorem dX3_leastPull_75 : decode cX3_leastPull 75 = .ok (.getfield 18, 3) := by decide +kernel
theorem dX3_leastPull_78 : decode cX3_leastPull 78 = .ok (.iload_n 3, 1) := by decide +kernel
theorem dX3_leastPull_79 : decode cX3_leastPull 79 = .ok (.iaload, 1) := by decide +kernel
theorem dX3_leastPull_80 : decode cX3_leastPull 80 = .ok (.i2l, 1) := by decide +kernel
theorem dX3_leastPull_81 : decode cX3_leastPull 81 = .ok (.invokevirtual 39, 3) := by decide +kernel
theorem dX3_leastPull_84 : decode cX3_leastPull 84 = .ok (.aload_n 1, 1) := by decide +kernel
theorem dX3_leastPull_85 : decode cX3_leastPull 85 = .ok (.iload 4, 2) := by decide +kernel
theorem dX3_leastPull_87 : decode cX3_leastPull 87 = .ok (.aload_n 2, 1) := by decide +kernel
theorem dX3_leastPull_88 : decode cX3_leastPull 88 = .ok (.iconst 0, 1) := by decide +kernel
theorem dX3_leastPull_89 : decode cX3_leastPull 89 = .ok (.laload, 1) := by decide +kernel
theorem dX3_leastPull_90 : decode cX3_leastPull 90 = .ok (.aload_n 2, 1) := by decide +kernel
theorem dX3_leastPull_91 : decode cX3_leastPull 91 = .ok (.iconst 1, 1) := by decide +kernel
theorem dX3_leastPull_92 : decode cX3_leastPull 92 = .ok (.laload, 1) := by decide +kernel
theorem dX3_leastPull_93 : decode cX3_leastPull 93 = .ok (.aload_n 2, 1) := by decide +kernel
theorem dX3_leastPull_94 : decode cX3_leastPull 94 = .ok (.iconst 2, 1) := by decide +kernel
theorem dX3_leastPull_95 : decode cX3_leastPull 95 = .ok (.laload, 1) := by decide +kernel
theorem dX3_leastPull_96 : decode cX3_leastPull 96 = .ok (.invokevirtual 39, 3) := by decide +kernel
theorem dX3_leastPull_99 : decode cX3_leastPull 99 = .ok (.invokevirtual 43, 3) := by decide +kernel
theorem dX3_leastPull_102 : decode cX3_leastPull 102 = .ok (.iinc 4 1, 3) := by decide +kernel
theorem dX3_leastPull_105 : decode cX3_leastPull 105 = .ok (.goto (-58), 3) := by decide +kernel
theorem dX3_leastPull_108 : decode cX3_leastPull 108 = .ok (.iinc 3 1, 3) := by decide +kernel
theorem dX3_leastPull_111 : decode cX3_leastPull 111 = .ok (.goto (-81), 3) := by decide +kernel
theorem dX3_leastPull_114 : decode cX3_leastPull 114 = .ok (.aload_n 0, 1) := by decide +kernel
theorem dX3_leastPull_115 : decode cX3_leastPull 115 = .ok (.getfield 25, 3) := by decide +kernel
theorem dX3_leastPull_118 : decode cX3_leastPull 118 = .ok (.aload_n 0, 1) := by decide +kernel
theorem dX3_leastPull_119 : decode cX3_leastPull 119 = .ok (.getfield 29, 3) := by decide +kernel
theorem dX3_leastPull_122 : decode cX3_leastPull 122 = .ok (.lcmp, 1) := by decide +kernel
theorem dX3_leastPull_123 : decode cX3_leastPull 123 = .ok (.ifCond .gt 11, 3) := by decide +kernel
theorem dX3_leastPull_126 : decode cX3_leastPull 126 = .ok (.aload_n 0, 1) := by decide +kernel
theorem dX3_leastPull_127 : decode cX3_leastPull 127 = .ok (.getfield 25, 3) := by decide +kernel
theorem dX3_leastPull_130 : decode cX3_leastPull 130 = .ok (.l2i, 1) := by decide +kernel
theorem dX3_leastPull_131 : decode cX3_leastPull 131 = .ok (.goto 4, 3) := by decide +kernel
theorem dX3_leastPull_134 : decode cX3_leastPull 134 = .ok (.iconst (-1), 1) := by decide +kernel
theorem dX3_leastPull_135 : decode cX3_leastPull 135 = .ok (.ireturn, 1) := by decide +kernel
theorem dX3_narrow_0 : decode cX3_narrow 0 = .ok (.lload_n 3, 1) := by decide +kernel
theorem dX3_narrow_1 : decode cX3_narrow 1 = .ok (.lconst 0, 1) := by decide +kernel
theorem dX3_narrow_2 : decode cX3_narrow 2 = .ok (.lcmp, 1) := by decide +kernel
theorem dX3_narrow_3 : decode cX3_narrow 3 = .ok (.ifCond .le 23, 3) := by decide +kernel
theorem dX3_narrow_6 : decode cX3_narrow 6 = .ok (.aload_n 0, 1) := by decide +kernel
theorem dX3_narrow_7 : decode cX3_narrow 7 = .ok (.aload_n 0, 1) := by decide +kernel
theorem dX3_narrow_8 : decode cX3_narrow 8 = .ok (.getfield 29, 3) := by decide +kernel
theorem dX3_narrow_11 : decode cX3_narrow 11 = .ok (.lload_n 1, 1) := by decide +kernel
theorem dX3_narrow_12 : decode cX3_narrow 12 = .ok (.lneg, 1) := by decide +kernel
theorem dX3_narrow_13 : decode cX3_narrow 13 = .ok (.lload_n 3, 1) := by decide +kernel
theorem dX3_narrow_14 : decode cX3_narrow 14 = .ok (.invokestatic 47, 3) := by decide +kernel
theorem dX3_narrow_17 : decode cX3_narrow 17 = .ok (.invokestatic 53, 3) := by decide +kernel
theorem dX3_narrow_20 : decode cX3_narrow 20 = .ok (.putfield 29, 3) := by decide +kernel
theorem dX3_narrow_23 : decode cX3_narrow 23 = .ok (.goto 42, 3) := by decide +kernel
theorem dX3_narrow_26 : decode cX3_narrow 26 = .ok (.lload_n 3, 1) := by decide +kernel
theorem dX3_narrow_27 : decode cX3_narrow 27 = .ok (.lconst 0, 1) := by decide +kernel
theorem dX3_narrow_28 : decode cX3_narrow 28 = .ok (.lcmp, 1) := by decide +kernel
theorem dX3_narrow_29 : decode cX3_narrow 29 = .ok (.ifCond .ge 23, 3) := by decide +kernel
theorem dX3_narrow_32 : decode cX3_narrow 32 = .ok (.aload_n 0, 1) := by decide +kernel
theorem dX3_narrow_33 : decode cX3_narrow 33 = .ok (.aload_n 0, 1) := by decide +kernel
theorem dX3_narrow_34 : decode cX3_narrow 34 = .ok (.getfield 25, 3) := by decide +kernel
theorem dX3_narrow_37 : decode cX3_narrow 37 = .ok (.lload_n 1, 1) := by decide +kernel
theorem dX3_narrow_38 : decode cX3_narrow 38 = .ok (.lload_n 3, 1) := by decide +kernel
theorem dX3_narrow_39 : decode cX3_narrow 39 = .ok (.invokestatic 47, 3) := by decide +kernel
theorem dX3_narrow_42 : decode cX3_narrow 42 = .ok (.lneg, 1) := by decide +kernel
theorem dX3_narrow_43 : decode cX3_narrow 43 = .ok (.invokestatic 56, 3) := by decide +kernel
theorem dX3_narrow_46 : decode cX3_narrow 46 = .ok (.putfield 25, 3) := by decide +kernel
theorem dX3_narrow_49 : decode cX3_narrow 49 = .ok (.goto 16, 3) := by decide +kernel
theorem dX3_narrow_52 : decode cX3_narrow 52 = .ok (.lload_n 1, 1) := by decide +kernel
theorem dX3_narrow_53 : decode cX3_narrow 53 = .ok (.lconst 0, 1) := by decide +kernel
theorem dX3_narrow_54 : decode cX3_narrow 54 = .ok (.lcmp, 1) := by decide +kernel
theorem dX3_narrow_55 : decode cX3_narrow 55 = .ok (.ifCond .le 10, 3) := by decide +kernel
theorem dX3_narrow_58 : decode cX3_narrow 58 = .ok (.aload_n 0, 1) := by decide +kernel
theorem dX3_narrow_59 : decode cX3_narrow 59 = .ok (.ldc2_w 59, 3) := by decide +kernel
theorem dX3_narrow_62 : decode cX3_narrow 62 = .ok (.putfield 29, 3) := by decide +kernel
theorem dX3_narrow_65 : decode cX3_narrow 65 = .ok (.return_, 1) := by decide +kernel
theorem dX4_init_0 : decode cX4_init 0 = .ok (.aload_n 0, 1) := by decide +kernel
theorem dX4_init_1 : decode cX4_init 1 = .ok (.invokespecial 3, 3) := by decide +kernel
theorem dX4_init_4 : decode cX4_init 4 = .ok (.aload_n 0, 1) := by decide +kernel
theorem dX4_init_5 : decode cX4_init 5 = .ok (.iconst 3, 1) := by decide +kernel
theorem dX4_init_6 : decode cX4_init 6 = .ok (.newarray .long, 2) := by decide +kernel
theorem dX4_init_8 : decode cX4_init 8 = .ok (.putfield 9, 3) := by decide +kernel
theorem dX4_init_11 : decode cX4_init 11 = .ok (.aload_n 0, 1) := by decide +kernel
theorem dX4_init_12 : decode cX4_init 12 = .ok (.iconst 3, 1) := by decide +kernel
theorem dX4_init_13 : decode cX4_init 13 = .ok (.newarray .long, 2) := by decide +kernel
theorem dX4_init_15 : decode cX4_init 15 = .ok (.putfield 15, 3) := by decide +kernel
theorem dX4_init_18 : decode cX4_init 18 = .ok (.aload_n 0, 1) := by decide +kernel
theorem dX4_init_19 : decode cX4_init 19 = .ok (.iconst 3, 1) := by decide +kernel
theorem dX4_init_20 : decode cX4_init 20 = .ok (.newarray .long, 2) := by decide +kernel
theorem dX4_init_22 : decode cX4_init 22 = .ok (.putfield 18, 3) := by decide +kernel
theorem dX4_init_25 : decode cX4_init 25 = .ok (.aload_n 0, 1) := by decide +kernel
theorem dX4_init_26 : decode cX4_init 26 = .ok (.iconst 3, 1) := by decide +kernel
theorem dX4_init_27 : decode cX4_init 27 = .ok (.newarray .long, 2) := by decide +kernel
theorem dX4_init_29 : decode cX4_init 29 = .ok (.putfield 21, 3) := by decide +kernel
theorem dX4_init_32 : decode cX4_init 32 = .ok (.aload_n 0, 1) := by decide +kernel
theorem dX4_init_33 : decode cX4_init 33 = .ok (.lconst 0, 1) := by decide +kernel
theorem dX4_init_34 : decode cX4_init 34 = .ok (.putfield 24, 3) := by decide +kernel
theorem dX4_init_37 : decode cX4_init 37 = .ok (.aload_n 0, 1) := by decide +kernel
theorem dX4_init_38 : decode cX4_init 38 = .ok (.lconst 1, 1) := by decide +kernel
theorem dX4_init_39 : decode cX4_init 39 = .ok (.putfield 28, 3) := by decide +kernel
theorem dX4_init_42 : decode cX4_init 42 = .ok (.aload_n 0, 1) := by decide +kernel
theorem dX4_init_43 : decode cX4_init 43 = .ok (.lconst 0, 1) := by decide +kernel
theorem dX4_init_44 : decode cX4_init 44 = .ok (.putfield 31, 3) := by decide +kernel
theorem dX4_init_47 : decode cX4_init 47 = .ok (.aload_n 0, 1) := by decide +kernel
theorem dX4_init_48 : decode cX4_init 48 = .ok (.lconst 1, 1) := by decide +kernel
theorem dX4_init_49 : decode cX4_init 49 = .ok (.putfield 34, 3) := by decide +kernel
theorem dX4_init_52 : decode cX4_init 52 = .ok (.aload_n 0, 1) := by decide +kernel
theorem dX4_init_53 : decode cX4_init 53 = .ok (.iconst (-1), 1) := by decide +kernel
theorem dX4_init_54 : decode cX4_init 54 = .ok (.putfield 37, 3) := by decide +kernel
theorem dX4_init_57 : decode cX4_init 57 = .ok (.return_, 1) := by decide +kernel
theorem dX4_aim_0 : decode cX4_aim 0 = .ok (.iload_n 3, 1) := by decide +kernel
theorem dX4_aim_1 : decode cX4_aim 1 = .ok (.invokestatic 41, 3) := by decide +kernel
theorem dX4_aim_4 : decode cX4_aim 4 = .ok (.ifCond .eq 52, 3) := by decide +kernel
theorem dX4_aim_7 : decode cX4_aim 7 = .ok (.aload_n 0, 1) := by decide +kernel
theorem dX4_aim_8 : decode cX4_aim 8 = .ok (.getfield 9, 3) := by decide +kernel
theorem dX4_aim_11 : decode cX4_aim 11 = .ok (.iconst 0, 1) := by decide +kernel
theorem dX4_aim_12 : decode cX4_aim 12 = .ok (.getstatic 45, 3) := by decide +kernel
theorem dX4_aim_15 : decode cX4_aim 15 = .ok (.iload_n 3, 1) := by decide +kernel
theorem dX4_aim_16 : decode cX4_aim 16 = .ok (.iaload, 1) := by decide +kernel
theorem dX4_aim_17 : decode cX4_aim 17 = .ok (.i2l, 1) := by decide +kernel
theorem dX4_aim_18 : decode cX4_aim 18 = .ok (.lastore, 1) := by decide +kernel
theorem dX4_aim_19 : decode cX4_aim 19 = .ok (.aload_n 0, 1) := by decide +kernel
theorem dX4_aim_20 : decode cX4_aim 20 = .ok (.getfield 9, 3) := by decide +kernel
theorem dX4_aim_23 : decode cX4_aim 23 = .ok (.iconst 1, 1) := by decide +kernel
theorem dX4_aim_24 : decode cX4_aim 24 = .ok (.getstatic 49, 3) := by decide +kernel
theorem dX4_aim_27 : decode cX4_aim 27 = .ok (.iload_n 3, 1) := by decide +kernel
theorem dX4_aim_28 : decode cX4_aim 28 = .ok (.iaload, 1) := by decide +kernel
theorem dX4_aim_29 : decode cX4_aim 29 = .ok (.i2l, 1) := by decide +kernel
theorem dX4_aim_30 : decode cX4_aim 30 = .ok (.lastore, 1) := by decide +kernel
theorem dX4_aim_31 : decode cX4_aim 31 = .ok (.aload_n 0, 1) := by decide +kernel
theorem dX4_aim_32 : decode cX4_aim 32 = .ok (.getfield 9, 3) := by decide +kernel
theorem dX4_aim_35 : decode cX4_aim 35 = .ok (.iconst 2, 1) := by decide +kernel
theorem dX4_aim_36 : decode cX4_aim 36 = .ok (.iload_n 1, 1) := by decide +kernel
theorem dX4_aim_37 : decode cX4_aim 37 = .ok (.i2l, 1) := by decide +kernel
theorem dX4_aim_38 : decode cX4_aim 38 = .ok (.aload_n 0, 1) := by decide +kernel
theorem dX4_aim_39 : decode cX4_aim 39 = .ok (.getfield 9, 3) := by decide +kernel
theorem dX4_aim_42 : decode cX4_aim 42 = .ok (.iconst 1, 1) := by decide +kernel
theorem dX4_aim_43 : decode cX4_aim 43 = .ok (.laload, 1) := by decide +kernel
theorem dX4_aim_44 : decode cX4_aim 44 = .ok (.lmul, 1) := by decide +kernel
theorem dX4_aim_45 : decode cX4_aim 45 = .ok (.iload_n 2, 1) := by decide +kernel
theorem dX4_aim_46 : decode cX4_aim 46 = .ok (.i2l, 1) := by decide +kernel
theorem dX4_aim_47 : decode cX4_aim 47 = .ok (.aload_n 0, 1) := by decide +kernel
theorem dX4_aim_48 : decode cX4_aim 48 = .ok (.getfield 9, 3) := by decide +kernel
theorem dX4_aim_51 : decode cX4_aim 51 = .ok (.iconst 0, 1) := by decide +kernel
theorem dX4_aim_52 : decode cX4_aim 52 = .ok (.laload, 1) := by decide +kernel
theorem dX4_aim_53 : decode cX4_aim 53 = .ok (.lmul, 1) := by decide +kernel
theorem dX4_aim_54 : decode cX4_aim 54 = .ok (.lsub, 1) := by decide +kernel
theorem dX4_aim_55 : decode cX4_aim 55 = .ok (.lastore, 1) := by decide +kernel
theorem dX4_aim_56 : decode cX4_aim 56 = .ok (.return_, 1) := by decide +kernel
theorem dX4_forgetBest_0 : decode cX4_forgetBest 0 = .ok (.aload_n 0, 1) := by decide +kernel
theorem dX4_forgetBest_1 : decode cX4_forgetBest 1 = .ok (.iconst (-1), 1) := by decide +kernel
theorem dX4_forgetBest_2 : decode cX4_forgetBest 2 = .ok (.putfield 37, 3) := by decide +kernel
theorem dX4_forgetBest_5 : decode cX4_forgetBest 5 = .ok (.return_, 1) := by decide +kernel
theorem dX4_isWeighed_0 : decode cX4_isWeighed 0 = .ok (.aload_n 0, 1) := by decide +kernel
theorem dX4_isWeighed_1 : decode cX4_isWeighed 1 = .ok (.getfield 15, 3) := by decide +kernel
theorem dX4_isWeighed_4 : decode cX4_isWeighed 4 = .ok (.aload_n 1, 1) := by decide +kernel
theorem dX4_isWeighed_5 : decode cX4_isWeighed 5 = .ok (.invokestatic 52, 3) := by decide +kernel
theorem dX4_isWeighed_8 : decode cX4_isWeighed 8 = .ok (.aload_n 0, 1) := by decide +kernel
theorem dX4_isWeighed_9 : decode cX4_isWeighed 9 = .ok (.getfield 18, 3) := by decide +kernel
theorem dX4_isWeighed_12 : decode cX4_isWeighed 12 = .ok (.aload_n 2, 1) := by decide +kernel
theorem dX4_isWeighed_13 : decode cX4_isWeighed 13 = .ok (.invokestatic 52, 3) := by decide +kernel
theorem dX4_isWeighed_16 : decode cX4_isWeighed 16 = .ok (.aload_n 0, 1) := by decide +kernel
theorem dX4_isWeighed_17 : decode cX4_isWeighed 17 = .ok (.getfield 21, 3) := by decide +kernel
theorem dX4_isWeighed_20 : decode cX4_isWeighed 20 = .ok (.aload_n 3, 1) := by decide +kernel
theorem dX4_isWeighed_21 : decode cX4_isWeighed 21 = .ok (.invokestatic 52, 3) := by decide +kernel
theorem dX4_isWeighed_24 : decode cX4_isWeighed 24 = .ok (.aload_n 0, 1) := by decide +kernel
theorem dX4_isWeighed_25 : decode cX4_isWeighed 25 = .ok (.aload_n 0, 1) := by decide +kernel
theorem dX4_isWeighed_26 : decode cX4_isWeighed 26 = .ok (.getfield 15, 3) := by decide +kernel
theorem dX4_isWeighed_29 : decode cX4_isWeighed 29 = .ok (.aload_n 0, 1) := by decide +kernel
theorem dX4_isWeighed_30 : decode cX4_isWeighed 30 = .ok (.getfield 18, 3) := by decide +kernel
theorem dX4_isWeighed_33 : decode cX4_isWeighed 33 = .ok (.aload_n 0, 1) := by decide +kernel
theorem dX4_isWeighed_34 : decode cX4_isWeighed 34 = .ok (.getfield 21, 3) := by decide +kernel
theorem dX4_isWeighed_37 : decode cX4_isWeighed 37 = .ok (.invokestatic 56, 3) := by decide +kernel
theorem dX4_isWeighed_40 : decode cX4_isWeighed 40 = .ok (.invokestatic 60, 3) := by decide +kernel
theorem dX4_isWeighed_43 : decode cX4_isWeighed 43 = .ok (.putfield 28, 3) := by decide +kernel
theorem dX4_isWeighed_46 : decode cX4_isWeighed 46 = .ok (.aload_n 0, 1) := by decide +kernel
theorem dX4_isWeighed_47 : decode cX4_isWeighed 47 = .ok (.aload_n 0, 1) := by decide +kernel
theorem dX4_isWeighed_48 : decode cX4_isWeighed 48 = .ok (.getfield 9, 3) := by decide +kernel
theorem dX4_isWeighed_51 : decode cX4_isWeighed 51 = .ok (.aload_n 0, 1) := by decide +kernel
theorem dX4_isWeighed_52 : decode cX4_isWeighed 52 = .ok (.getfield 18, 3) := by decide +kernel
theorem dX4_isWeighed_55 : decode cX4_isWeighed 55 = .ok (.aload_n 0, 1) := by decide +kernel
theorem dX4_isWeighed_56 : decode cX4_isWeighed 56 = .ok (.getfield 21, 3) := by decide +kernel
theorem dX4_isWeighed_59 : decode cX4_isWeighed 59 = .ok (.invokestatic 56, 3) := by decide +kernel
theorem dX4_isWeighed_62 : decode cX4_isWeighed 62 = .ok (.invokestatic 60, 3) := by decide +kernel
theorem dX4_isWeighed_65 : decode cX4_isWeighed 65 = .ok (.aload_n 1, 1) := by decide +kernel
theorem dX4_isWeighed_66 : decode cX4_isWeighed 66 = .ok (.getfield 66, 3) := by decide +kernel
theorem dX4_isWeighed_69 : decode cX4_isWeighed 69 = .ok (.i2l, 1) := by decide +kernel
theorem dX4_isWeighed_70 : decode cX4_isWeighed 70 = .ok (.lmul, 1) := by decide +kernel
theorem dX4_isWeighed_71 : decode cX4_isWeighed 71 = .ok (.aload_n 0, 1) := by decide +kernel
theorem dX4_isWeighed_72 : decode cX4_isWeighed 72 = .ok (.getfield 15, 3) := by decide +kernel
theorem dX4_isWeighed_75 : decode cX4_isWeighed 75 = .ok (.aload_n 0, 1) := by decide +kernel
theorem dX4_isWeighed_76 : decode cX4_isWeighed 76 = .ok (.getfield 9, 3) := by decide +kernel
theorem dX4_isWeighed_79 : decode cX4_isWeighed 79 = .ok (.aload_n 0, 1) := by decide +kernel
theorem dX4_isWeighed_80 : decode cX4_isWeighed 80 = .ok (.getfield 21, 3) := by decide +kernel
theorem dX4_isWeighed_83 : decode cX4_isWeighed 83 = .ok (.invokestatic 56, 3) := by decide +kernel
theorem dX4_isWeighed_86 : decode cX4_isWeighed 86 = .ok (.invokestatic 60, 3) := by decide +kernel
theorem dX4_isWeighed_89 : decode cX4_isWeighed 89 = .ok (.aload_n 2, 1) := by decide +kernel
theorem dX4_isWeighed_90 : decode cX4_isWeighed 90 = .ok (.getfield 66, 3) := by decide +kernel
theorem dX4_isWeighed_93 : decode cX4_isWeighed 93 = .ok (.i2l, 1) := by decide +kernel
theorem dX4_isWeighed_94 : decode cX4_isWeighed 94 = .ok (.lmul, 1) := by decide +kernel
theorem dX4_isWeighed_95 : decode cX4_isWeighed 95 = .ok (.ladd, 1) := by decide +kernel
theorem dX4_isWeighed_96 : decode cX4_isWeighed 96 = .ok (.aload_n 0, 1) := by decide +kernel
theorem dX4_isWeighed_97 : decode cX4_isWeighed 97 = .ok (.getfield 15, 3) := by decide +kernel
theorem dX4_isWeighed_100 : decode cX4_isWeighed 100 = .ok (.aload_n 0, 1) := by decide +kernel
theorem dX4_isWeighed_101 : decode cX4_isWeighed 101 = .ok (.getfield 18, 3) := by decide +kernel
theorem dX4_isWeighed_104 : decode cX4_isWeighed 104 = .ok (.aload_n 0, 1) := by decide +kernel
theorem dX4_isWeighed_105 : decode cX4_isWeighed 105 = .ok (.getfield 9, 3) := by decide +kernel
theorem dX4_isWeighed_108 : decode cX4_isWeighed 108 = .ok (.invokestatic 56, 3) := by decide +kernel
theorem dX4_isWeighed_111 : decode cX4_isWeighed 111 = .ok (.invokestatic 60, 3) := by decide +kernel
theorem dX4_isWeighed_114 : decode cX4_isWeighed 114 = .ok (.aload_n 3, 1) := by decide +kernel
theorem dX4_isWeighed_115 : decode cX4_isWeighed 115 = .ok (.getfield 66, 3) := by decide +kernel
theorem dX4_isWeighed_118 : decode cX4_isWeighed 118 = .ok (.i2l, 1) := by decide +kernel
theorem dX4_isWeighed_119 : decode cX4_isWeighed 119 = .ok (.lmul, 1) := by decide +kernel
theorem dX4_isWeighed_120 : decode cX4_isWeighed 120 = .ok (.ladd, 1) := by decide +kernel
theorem dX4_isWeighed_121 : decode cX4_isWeighed 121 = .ok (.putfield 24, 3) := by decide +kernel
theorem dX4_isWeighed_124 : decode cX4_isWeighed 124 = .ok (.aload_n 0, 1) := by decide +kernel
theorem dX4_isWeighed_125 : decode cX4_isWeighed 125 = .ok (.getfield 28, 3) := by decide +kernel
theorem dX4_isWeighed_128 : decode cX4_isWeighed 128 = .ok (.lconst 0, 1) := by decide +kernel
theorem dX4_isWeighed_129 : decode cX4_isWeighed 129 = .ok (.lcmp, 1) := by decide +kernel
theorem dX4_isWeighed_130 : decode cX4_isWeighed 130 = .ok (.ifCond .eq 7, 3) := by decide +kernel
theorem dX4_isWeighed_133 : decode cX4_isWeighed 133 = .ok (.iconst 1, 1) := by decide +kernel
theorem dX4_isWeighed_134 : decode cX4_isWeighed 134 = .ok (.goto 4, 3) := by decide +kernel
theorem dX4_isWeighed_137 : decode cX4_isWeighed 137 = .ok (.iconst 0, 1) := by decide +kernel
theorem dX4_isWeighed_138 : decode cX4_isWeighed 138 = .ok (.ireturn, 1) := by decide +kernel
theorem dX4_rememberIfBetter_0 : decode cX4_rememberIfBetter 0 = .ok (.aload_n 0, 1) := by decide +kernel
theorem dX4_rememberIfBetter_1 : decode cX4_rememberIfBetter 1 = .ok (.getfield 37, 3) := by decide +kernel
theorem dX4_rememberIfBetter_4 : decode cX4_rememberIfBetter 4 = .ok (.ifCond .lt 25, 3) := by decide +kernel
theorem dX4_rememberIfBetter_7 : decode cX4_rememberIfBetter 7 = .ok (.aload_n 0, 1) := by decide +kernel
theorem dX4_rememberIfBetter_8 : decode cX4_rememberIfBetter 8 = .ok (.getfield 24, 3) := by decide +kernel
theorem dX4_rememberIfBetter_11 : decode cX4_rememberIfBetter 11 = .ok (.aload_n 0, 1) := by decide +kernel
theorem dX4_rememberIfBetter_12 : decode cX4_rememberIfBetter 12 = .ok (.getfield 34, 3) := by decide +kernel
theorem dX4_rememberIfBetter_15 : decode cX4_rememberIfBetter 15 = .ok (.lmul, 1) := by decide +kernel
theorem dX4_rememberIfBetter_16 : decode cX4_rememberIfBetter 16 = .ok (.aload_n 0, 1) := by decide +kernel
theorem dX4_rememberIfBetter_17 : decode cX4_rememberIfBetter 17 = .ok (.getfield 31, 3) := by decide +kernel
theorem dX4_rememberIfBetter_20 : decode cX4_rememberIfBetter 20 = .ok (.aload_n 0, 1) := by decide +kernel
theorem dX4_rememberIfBetter_21 : decode cX4_rememberIfBetter 21 = .ok (.getfield 28, 3) := by decide +kernel
theorem dX4_rememberIfBetter_24 : decode cX4_rememberIfBetter 24 = .ok (.lmul, 1) := by decide +kernel
theorem dX4_rememberIfBetter_25 : decode cX4_rememberIfBetter 25 = .ok (.lcmp, 1) := by decide +kernel
theorem dX4_rememberIfBetter_26 : decode cX4_rememberIfBetter 26 = .ok (.ifCond .ge 24, 3) := by decide +kernel
theorem dX4_rememberIfBetter_29 : decode cX4_rememberIfBetter 29 = .ok (.aload_n 0, 1) := by decide +kernel
theorem dX4_rememberIfBetter_30 : decode cX4_rememberIfBetter 30 = .ok (.iload_n 1, 1) := by decide +kernel
theorem dX4_rememberIfBetter_31 : decode cX4_rememberIfBetter 31 = .ok (.putfield 37, 3) := by decide +kernel
theorem dX4_rememberIfBetter_34 : decode cX4_rememberIfBetter 34 = .ok (.aload_n 0, 1) := by decide +kernel
theorem dX4_rememberIfBetter_35 : decode cX4_rememberIfBetter 35 = .ok (.aload_n 0, 1) := by decide +kernel
theorem dX4_rememberIfBetter_36 : decode cX4_rememberIfBetter 36 = .ok (.getfield 24, 3) := by decide +kernel
theorem dX4_rememberIfBetter_39 : decode cX4_rememberIfBetter 39 = .ok (.putfield 31, 3) := by decide +kernel
theorem dX4_rememberIfBetter_42 : decode cX4_rememberIfBetter 42 = .ok (.aload_n 0, 1) := by decide +kernel
theorem dX4_rememberIfBetter_43 : decode cX4_rememberIfBetter 43 = .ok (.aload_n 0, 1) := by decide +kernel
theorem dX4_rememberIfBetter_44 : decode cX4_rememberIfBetter 44 = .ok (.getfield 28, 3) := by decide +kernel
theorem dX4_rememberIfBetter_47 : decode cX4_rememberIfBetter 47 = .ok (.putfield 34, 3) := by decide +kernel
theorem dX4_rememberIfBetter_50 : decode cX4_rememberIfBetter 50 = .ok (.return_, 1) := by decide +kernel
theorem dX4_fill_0 : decode cX4_fill 0 = .ok (.aload_n 0, 1) := by decide +kernel
theorem dX4_fill_1 : decode cX4_fill 1 = .ok (.arraylength, 1) := by decide +kernel
theorem dX4_fill_2 : decode cX4_fill 2 = .ok (.iconst 2, 1) := by decide +kernel
theorem dX4_fill_3 : decode cX4_fill 3 = .ok (.if_icmp .le 30, 3) := by decide +kernel
theorem dX4_fill_6 : decode cX4_fill 6 = .ok (.aload_n 0, 1) := by decide +kernel
theorem dX4_fill_7 : decode cX4_fill 7 = .ok (.iconst 0, 1) := by decide +kernel
theorem dX4_fill_8 : decode cX4_fill 8 = .ok (.aload_n 1, 1) := by decide +kernel
theorem dX4_fill_9 : decode cX4_fill 9 = .ok (.iconst (-1), 1) := by decide +kernel
theorem dX4_fill_10 : decode cX4_fill 10 = .ok (.invokevirtual 71, 3) := by decide +kernel
theorem dX4_fill_13 : decode cX4_fill 13 = .ok (.i2l, 1) := by decide +kernel
theorem dX4_fill_14 : decode cX4_fill 14 = .ok (.lastore, 1) := by decide +kernel
theorem dX4_fill_15 : decode cX4_fill 15 = .ok (.aload_n 0, 1) := by decide +kernel
theorem dX4_fill_16 : decode cX4_fill 16 = .ok (.iconst 1, 1) := by decide +kernel
theorem dX4_fill_17 : decode cX4_fill 17 = .ok (.aload_n 1, 1) := by decide +kernel
theorem dX4_fill_18 : decode cX4_fill 18 = .ok (.iconst (-1), 1) := by decide +kernel
theorem dX4_fill_19 : decode cX4_fill 19 = .ok (.invokevirtual 75, 3) := by decide +kernel
theorem dX4_fill_22 : decode cX4_fill 22 = .ok (.i2l, 1) := by decide +kernel
theorem dX4_fill_23 : decode cX4_fill 23 = .ok (.lastore, 1) := by decide +kernel
theorem dX4_fill_24 : decode cX4_fill 24 = .ok (.aload_n 0, 1) := by decide +kernel
theorem dX4_fill_25 : decode cX4_fill 25 = .ok (.iconst 2, 1) := by decide +kernel
theorem dX4_fill_26 : decode cX4_fill 26 = .ok (.aload_n 1, 1) := by decide +kernel
theorem dX4_fill_27 : decode cX4_fill 27 = .ok (.iconst (-1), 1) := by decide +kernel
theorem dX4_fill_28 : decode cX4_fill 28 = .ok (.invokevirtual 78, 3) := by decide +kernel
theorem dX4_fill_31 : decode cX4_fill 31 = .ok (.i2l, 1) := by decide +kernel
theorem dX4_fill_32 : decode cX4_fill 32 = .ok (.lastore, 1) := by decide +kernel
theorem dX4_fill_33 : decode cX4_fill 33 = .ok (.return_, 1) := by decide +kernel
theorem dX4_determinant_0 : decode cX4_determinant 0 = .ok (.aload_n 0, 1) := by decide +kernel
theorem dX4_determinant_1 : decode cX4_determinant 1 = .ok (.arraylength, 1) := by decide +kernel
theorem dX4_determinant_2 : decode cX4_determinant 2 = .ok (.iconst 3, 1) := by decide +kernel
theorem dX4_determinant_3 : decode cX4_determinant 3 = .ok (.if_icmp .lt 15, 3) := by decide +kernel
theorem dX4_determinant_6 : decode cX4_determinant 6 = .ok (.aload_n 1, 1) := by decide +kernel
theorem dX4_determinant_7 : decode cX4_determinant 7 = .ok (.arraylength, 1) := by decide +kernel
theorem dX4_determinant_8 : decode cX4_determinant 8 = .ok (.iconst 3, 1) := by decide +kernel
theorem dX4_determinant_9 : decode cX4_determinant 9 = .ok (.if_icmp .lt 9, 3) := by decide +kernel
theorem dX4_determinant_12 : decode cX4_determinant 12 = .ok (.aload_n 2, 1) := by decide +kernel
theorem dX4_determinant_13 : decode cX4_determinant 13 = .ok (.arraylength, 1) := by decide +kernel
theorem dX4_determinant_14 : decode cX4_determinant 14 = .ok (.iconst 3, 1) := by decide +kernel
theorem dX4_determinant_15 : decode cX4_determinant 15 = .ok (.if_icmp .ge 5, 3) := by decide +kernel
theorem dX4_determinant_18 : decode cX4_determinant 18 = .ok (.lconst 0, 1) := by decide +kernel
theorem dX4_determinant_19 : decode cX4_determinant 19 = .ok (.lreturn, 1) := by decide +kernel
theorem dX4_determinant_20 : decode cX4_determinant 20 = .ok (.aload_n 0, 1) := by decide +kernel
theorem dX4_determinant_21 : decode cX4_determinant 21 = .ok (.iconst 0, 1) := by decide +kernel
theorem dX4_determinant_22 : decode cX4_determinant 22 = .ok (.laload, 1) := by decide +kernel
theorem dX4_determinant_23 : decode cX4_determinant 23 = .ok (.aload_n 1, 1) := by decide +kernel
theorem dX4_determinant_24 : decode cX4_determinant 24 = .ok (.iconst 1, 1) := by decide +kernel
theorem dX4_determinant_25 : decode cX4_determinant 25 = .ok (.laload, 1) := by decide +kernel
theorem dX4_determinant_26 : decode cX4_determinant 26 = .ok (.aload_n 2, 1) := by decide +kernel
theorem dX4_determinant_27 : decode cX4_determinant 27 = .ok (.iconst 2, 1) := by decide +kernel
theorem dX4_determinant_28 : decode cX4_determinant 28 = .ok (.laload, 1) := by decide +kernel
theorem dX4_determinant_29 : decode cX4_determinant 29 = .ok (.lmul, 1) := by decide +kernel
theorem dX4_determinant_30 : decode cX4_determinant 30 = .ok (.aload_n 1, 1) := by decide +kernel
theorem dX4_determinant_31 : decode cX4_determinant 31 = .ok (.iconst 2, 1) := by decide +kernel
theorem dX4_determinant_32 : decode cX4_determinant 32 = .ok (.laload, 1) := by decide +kernel
theorem dX4_determinant_33 : decode cX4_determinant 33 = .ok (.aload_n 2, 1) := by decide +kernel
theorem dX4_determinant_34 : decode cX4_determinant 34 = .ok (.iconst 1, 1) := by decide +kernel
theorem dX4_determinant_35 : decode cX4_determinant 35 = .ok (.laload, 1) := by decide +kernel
theorem dX4_determinant_36 : decode cX4_determinant 36 = .ok (.lmul, 1) := by decide +kernel
theorem dX4_determinant_37 : decode cX4_determinant 37 = .ok (.lsub, 1) := by decide +kernel
theorem dX4_determinant_38 : decode cX4_determinant 38 = .ok (.lmul, 1) := by decide +kernel
theorem dX4_determinant_39 : decode cX4_determinant 39 = .ok (.aload_n 0, 1) := by decide +kernel
theorem dX4_determinant_40 : decode cX4_determinant 40 = .ok (.iconst 1, 1) := by decide +kernel
theorem dX4_determinant_41 : decode cX4_determinant 41 = .ok (.laload, 1) := by decide +kernel
theorem dX4_determinant_42 : decode cX4_determinant 42 = .ok (.aload_n 1, 1) := by decide +kernel
theorem dX4_determinant_43 : decode cX4_determinant 43 = .ok (.iconst 2, 1) := by decide +kernel
theorem dX4_determinant_44 : decode cX4_determinant 44 = .ok (.laload, 1) := by decide +kernel
theorem dX4_determinant_45 : decode cX4_determinant 45 = .ok (.aload_n 2, 1) := by decide +kernel
theorem dX4_determinant_46 : decode cX4_determinant 46 = .ok (.iconst 0, 1) := by decide +kernel
theorem dX4_determinant_47 : decode cX4_determinant 47 = .ok (.laload, 1) := by decide +kernel
theorem dX4_determinant_48 : decode cX4_determinant 48 = .ok (.lmul, 1) := by decide +kernel
theorem dX4_determinant_49 : decode cX4_determinant 49 = .ok (.aload_n 1, 1) := by decide +kernel
theorem dX4_determinant_50 : decode cX4_determinant 50 = .ok (.iconst 0, 1) := by decide +kernel
theorem dX4_determinant_51 : decode cX4_determinant 51 = .ok (.laload, 1) := by decide +kernel
theorem dX4_determinant_52 : decode cX4_determinant 52 = .ok (.aload_n 2, 1) := by decide +kernel
theorem dX4_determinant_53 : decode cX4_determinant 53 = .ok (.iconst 2, 1) := by decide +kernel
theorem dX4_determinant_54 : decode cX4_determinant 54 = .ok (.laload, 1) := by decide +kernel
theorem dX4_determinant_55 : decode cX4_determinant 55 = .ok (.lmul, 1) := by decide +kernel
theorem dX4_determinant_56 : decode cX4_determinant 56 = .ok (.lsub, 1) := by decide +kernel
theorem dX4_determinant_57 : decode cX4_determinant 57 = .ok (.lmul, 1) := by decide +kernel
theorem dX4_determinant_58 : decode cX4_determinant 58 = .ok (.ladd, 1) := by decide +kernel
theorem dX4_determinant_59 : decode cX4_determinant 59 = .ok (.aload_n 0, 1) := by decide +kernel
theorem dX4_determinant_60 : decode cX4_determinant 60 = .ok (.iconst 2, 1) := by decide +kernel
theorem dX4_determinant_61 : decode cX4_determinant 61 = .ok (.laload, 1) := by decide +kernel
theorem dX4_determinant_62 : decode cX4_determinant 62 = .ok (.aload_n 1, 1) := by decide +kernel
theorem dX4_determinant_63 : decode cX4_determinant 63 = .ok (.iconst 0, 1) := by decide +kernel
theorem dX4_determinant_64 : decode cX4_determinant 64 = .ok (.laload, 1) := by decide +kernel
theorem dX4_determinant_65 : decode cX4_determinant 65 = .ok (.aload_n 2, 1) := by decide +kernel
theorem dX4_determinant_66 : decode cX4_determinant 66 = .ok (.iconst 1, 1) := by decide +kernel
theorem dX4_determinant_67 : decode cX4_determinant 67 = .ok (.laload, 1) := by decide +kernel
theorem dX4_determinant_68 : decode cX4_determinant 68 = .ok (.lmul, 1) := by decide +kernel
theorem dX4_determinant_69 : decode cX4_determinant 69 = .ok (.aload_n 1, 1) := by decide +kernel
theorem dX4_determinant_70 : decode cX4_determinant 70 = .ok (.iconst 1, 1) := by decide +kernel
theorem dX4_determinant_71 : decode cX4_determinant 71 = .ok (.laload, 1) := by decide +kernel
theorem dX4_determinant_72 : decode cX4_determinant 72 = .ok (.aload_n 2, 1) := by decide +kernel
theorem dX4_determinant_73 : decode cX4_determinant 73 = .ok (.iconst 0, 1) := by decide +kernel
theorem dX4_determinant_74 : decode cX4_determinant 74 = .ok (.laload, 1) := by decide +kernel
theorem dX4_determinant_75 : decode cX4_determinant 75 = .ok (.lmul, 1) := by decide +kernel
theorem dX4_determinant_76 : decode cX4_determinant 76 = .ok (.lsub, 1) := by decide +kernel
theorem dX4_determinant_77 : decode cX4_determinant 77 = .ok (.lmul, 1) := by decide +kernel
theorem dX4_determinant_78 : decode cX4_determinant 78 = .ok (.ladd, 1) := by decide +kernel
theorem dX4_determinant_79 : decode cX4_determinant 79 = .ok (.lreturn, 1) := by decide +kernel
theorem dX5_init_0 : decode cX5_init 0 = .ok (.aload_n 0, 1) := by decide +kernel
theorem dX5_init_1 : decode cX5_init 1 = .ok (.iload_n 1, 1) := by decide +kernel
theorem dX5_init_2 : decode cX5_init 2 = .ok (.iload_n 2, 1) := by decide +kernel
theorem dX5_init_3 : decode cX5_init 3 = .ok (.iload_n 3, 1) := by decide +kernel
theorem dX5_init_4 : decode cX5_init 4 = .ok (.iload 5, 2) := by decide +kernel
theorem dX5_init_6 : decode cX5_init 6 = .ok (.invokespecial 3, 3) := by decide +kernel
theorem dX5_init_9 : decode cX5_init 9 = .ok (.aload_n 0, 1) := by decide +kernel
theorem dX5_init_10 : decode cX5_init 10 = .ok (.iload 4, 2) := by decide +kernel
theorem dX5_init_12 : decode cX5_init 12 = .ok (.putfield 9, 3) := by decide +kernel
theorem dX5_init_15 : decode cX5_init 15 = .ok (.return_, 1) := by decide +kernel
theorem dX5_kind_0 : decode cX5_kind 0 = .ok (.iconst 1, 1) := by decide +kernel
theorem dX5_kind_1 : decode cX5_kind 1 = .ok (.ireturn, 1) := by decide +kernel
theorem dX5_gripped_0 : decode cX5_gripped 0 = .ok (.aload_n 0, 1) := by decide +kernel
theorem dX5_gripped_1 : decode cX5_gripped 1 = .ok (.getfield 9, 3) := by decide +kernel
theorem dX5_gripped_4 : decode cX5_gripped 4 = .ok (.ireturn, 1) := by decide +kernel
theorem dX5_pushCount_0 : decode cX5_pushCount 0 = .ok (.iconst 2, 1) := by decide +kernel
theorem dX5_pushCount_1 : decode cX5_pushCount 1 = .ok (.ireturn, 1) := by decide +kernel
theorem dX5_leans_0 : decode cX5_leans 0 = .ok (.iconst 1, 1) := by decide +kernel
theorem dX5_leans_1 : decode cX5_leans 1 = .ok (.iconst 2, 1) := by decide +kernel
theorem dX5_leans_2 : decode cX5_leans 2 = .ok (.iload_n 1, 1) := by decide +kernel
theorem dX5_leans_3 : decode cX5_leans 3 = .ok (.imul, 1) := by decide +kernel
theorem dX5_leans_4 : decode cX5_leans 4 = .ok (.isub, 1) := by decide +kernel
theorem dX5_leans_5 : decode cX5_leans 5 = .ok (.ireturn, 1) := by decide +kernel
theorem dX5_weighs_0 : decode cX5_weighs 0 = .ok (.bipush 10, 2) := by decide +kernel
theorem dX5_weighs_2 : decode cX5_weighs 2 = .ok (.aload_n 0, 1) := by decide +kernel
theorem dX5_weighs_3 : decode cX5_weighs 3 = .ok (.getfield 15, 3) := by decide +kernel
theorem dX5_weighs_6 : decode cX5_weighs 6 = .ok (.iadd, 1) := by decide +kernel
theorem dX5_weighs_7 : decode cX5_weighs 7 = .ok (.aload_n 0, 1) := by decide +kernel
theorem dX5_weighs_8 : decode cX5_weighs 8 = .ok (.getfield 9, 3) := by decide +kernel
theorem dX5_weighs_11 : decode cX5_weighs 11 = .ok (.iadd, 1) := by decide +kernel
theorem dX5_weighs_12 : decode cX5_weighs 12 = .ok (.bipush 100, 2) := by decide +kernel
theorem dX5_weighs_14 : decode cX5_weighs 14 = .ok (.iadd, 1) := by decide +kernel
theorem dX5_weighs_15 : decode cX5_weighs 15 = .ok (.ireturn, 1) := by decide +kernel
theorem dX5_fail_0 : decode cX5_fail 0 = .ok (.new 18, 3) := by decide +kernel
theorem dX5_fail_3 : decode cX5_fail 3 = .ok (.dup, 1) := by decide +kernel
theorem dX5_fail_4 : decode cX5_fail 4 = .ok (.ldc 20, 2) := by decide +kernel
theorem dX5_fail_6 : decode cX5_fail 6 = .ok (.invokespecial 22, 3) := by decide +kernel
theorem dX5_fail_9 : decode cX5_fail 9 = .ok (.athrow, 1) := by decide +kernel
theorem dX6_init_0 : decode cX6_init 0 = .ok (.aload_n 0, 1) := by decide +kernel
theorem dX6_init_1 : decode cX6_init 1 = .ok (.invokespecial 3, 3) := by decide +kernel
theorem dX6_init_4 : decode cX6_init 4 = .ok (.aload_n 0, 1) := by decide +kernel
theorem dX6_init_5 : decode cX6_init 5 = .ok (.bipush 40, 2) := by decide +kernel
theorem dX6_init_7 : decode cX6_init 7 = .ok (.newarray .int, 2) := by decide +kernel
theorem dX6_init_9 : decode cX6_init 9 = .ok (.putfield 9, 3) := by decide +kernel
theorem dX6_init_12 : decode cX6_init 12 = .ok (.aload_n 0, 1) := by decide +kernel
theorem dX6_init_13 : decode cX6_init 13 = .ok (.bipush 40, 2) := by decide +kernel
theorem dX6_init_15 : decode cX6_init 15 = .ok (.newarray .int, 2) := by decide +kernel
theorem dX6_init_17 : decode cX6_init 17 = .ok (.putfield 15, 3) := by decide +kernel
theorem dX6_init_20 : decode cX6_init 20 = .ok (.aload_n 0, 1) := by decide +kernel
theorem dX6_init_21 : decode cX6_init 21 = .ok (.iconst 0, 1) := by decide +kernel
theorem dX6_init_22 : decode cX6_init 22 = .ok (.putfield 18, 3) := by decide +kernel
theorem dX6_init_25 : decode cX6_init 25 = .ok (.aload_n 0, 1) := by decide +kernel
theorem dX6_init_26 : decode cX6_init 26 = .ok (.iconst 0, 1) := by decide +kernel
theorem dX6_init_27 : decode cX6_init 27 = .ok (.putfield 22, 3) := by decide +kernel
theorem dX6_init_30 : decode cX6_init 30 = .ok (.return_, 1) := by decide +kernel
theorem dX6_taken_0 : decode cX6_taken 0 = .ok (.aload_n 0, 1) := by decide +kernel
theorem dX6_taken_1 : decode cX6_taken 1 = .ok (.getfield 18, 3) := by decide +kernel
theorem dX6_taken_4 : decode cX6_taken 4 = .ok (.bipush 40, 2) := by decide +kernel
theorem dX6_taken_6 : decode cX6_taken 6 = .ok (.if_icmp .lt 5, 3) := by decide +kernel
theorem dX6_taken_9 : decode cX6_taken 9 = .ok (.iconst 0, 1) := by decide +kernel
theorem dX6_taken_10 : decode cX6_taken 10 = .ok (.ireturn, 1) := by decide +kernel
theorem dX6_taken_11 : decode cX6_taken 11 = .ok (.aload_n 0, 1) := by decide +kernel
theorem dX6_taken_12 : decode cX6_taken 12 = .ok (.getfield 9, 3) := by decide +kernel
theorem dX6_taken_15 : decode cX6_taken 15 = .ok (.aload_n 0, 1) := by decide +kernel
theorem dX6_taken_16 : decode cX6_taken 16 = .ok (.getfield 18, 3) := by decide +kernel
theorem dX6_taken_19 : decode cX6_taken 19 = .ok (.iload_n 1, 1) := by decide +kernel
theorem dX6_taken_20 : decode cX6_taken 20 = .ok (.iastore, 1) := by decide +kernel
theorem dX6_taken_21 : decode cX6_taken 21 = .ok (.aload_n 0, 1) := by decide +kernel
theorem dX6_taken_22 : decode cX6_taken 22 = .ok (.getfield 15, 3) := by decide +kernel
theorem dX6_taken_25 : decode cX6_taken 25 = .ok (.aload_n 0, 1) := by decide +kernel
theorem dX6_taken_26 : decode cX6_taken 26 = .ok (.getfield 18, 3) := by decide +kernel
theorem dX6_taken_29 : decode cX6_taken 29 = .ok (.iload_n 2, 1) := by decide +kernel
theorem dX6_taken_30 : decode cX6_taken 30 = .ok (.iastore, 1) := by decide +kernel
theorem dX6_taken_31 : decode cX6_taken 31 = .ok (.aload_n 0, 1) := by decide +kernel
theorem dX6_taken_32 : decode cX6_taken 32 = .ok (.dup, 1) := by decide +kernel
theorem dX6_taken_33 : decode cX6_taken 33 = .ok (.getfield 18, 3) := by decide +kernel
theorem dX6_taken_36 : decode cX6_taken 36 = .ok (.iconst 1, 1) := by decide +kernel
theorem dX6_taken_37 : decode cX6_taken 37 = .ok (.iadd, 1) := by decide +kernel
theorem dX6_taken_38 : decode cX6_taken 38 = .ok (.putfield 18, 3) := by decide +kernel
theorem dX6_taken_41 : decode cX6_taken 41 = .ok (.iconst 1, 1) := by decide +kernel
theorem dX6_taken_42 : decode cX6_taken 42 = .ok (.ireturn, 1) := by decide +kernel
theorem dX6_firstLineNear_0 : decode cX6_firstLineNear 0 = .ok (.aload_n 0, 1) := by decide +kernel
theorem dX6_firstLineNear_1 : decode cX6_firstLineNear 1 = .ok (.getfield 18, 3) := by decide +kernel
theorem dX6_firstLineNear_4 : decode cX6_firstLineNear 4 = .ok (.iconst 1, 1) := by decide +kernel
theorem dX6_firstLineNear_5 : decode cX6_firstLineNear 5 = .ok (.if_icmp .ne 7, 3) := by decide +kernel
theorem dX6_firstLineNear_8 : decode cX6_firstLineNear 8 = .ok (.iconst 1, 1) := by decide +kernel
theorem dX6_firstLineNear_9 : decode cX6_firstLineNear 9 = .ok (.goto 9, 3) := by decide +kernel
theorem dX6_firstLineNear_12 : decode cX6_firstLineNear 12 = .ok (.aload_n 0, 1) := by decide +kernel
theorem dX6_firstLineNear_13 : decode cX6_firstLineNear 13 = .ok (.getfield 18, 3) := by decide +kernel
theorem dX6_firstLineNear_16 : decode cX6_firstLineNear 16 = .ok (.iconst 1, 1) := by decide +kernel
theorem dX6_firstLineNear_17 : decode cX6_firstLineNear 17 = .ok (.isub, 1) := by decide +kernel
theorem dX6_firstLineNear_18 : decode cX6_firstLineNear 18 = .ok (.istore_n 2, 1) := by decide +kernel
theorem dX6_firstLineNear_19 : decode cX6_firstLineNear 19 = .ok (.iconst 0, 1) := by decide +kernel
theorem dX6_firstLineNear_20 : decode cX6_firstLineNear 20 = .ok (.istore_n 3, 1) := by decide +kernel
theorem dX6_firstLineNear_21 : decode cX6_firstLineNear 21 = .ok (.iload_n 3, 1) := by decide +kernel
theorem dX6_firstLineNear_22 : decode cX6_firstLineNear 22 = .ok (.iload_n 2, 1) := by decide +kernel
theorem dX6_firstLineNear_23 : decode cX6_firstLineNear 23 = .ok (.if_icmp .ge 35, 3) := by decide +kernel
theorem dX6_firstLineNear_26 : decode cX6_firstLineNear 26 = .ok (.aload_n 0, 1) := by decide +kernel
theorem dX6_firstLineNear_27 : decode cX6_firstLineNear 27 = .ok (.iload_n 3, 1) := by decide +kernel
theorem dX6_firstLineNear_28 : decode cX6_firstLineNear 28 = .ok (.aload_n 0, 1) := by decide +kernel
theorem dX6_firstLineNear_29 : decode cX6_firstLineNear 29 = .ok (.getfield 18, 3) := by decide +kernel
theorem dX6_firstLineNear_32 : decode cX6_firstLineNear 32 = .ok (.iconst 1, 1) := by decide +kernel
theorem dX6_firstLineNear_33 : decode cX6_firstLineNear 33 = .ok (.if_icmp .ne 7, 3) := by decide +kernel
theorem dX6_firstLineNear_36 : decode cX6_firstLineNear 36 = .ok (.iload_n 3, 1) := by decide +kernel
theorem dX6_firstLineNear_37 : decode cX6_firstLineNear 37 = .ok (.goto 6, 3) := by decide +kernel
theorem dX6_firstLineNear_40 : decode cX6_firstLineNear 40 = .ok (.iload_n 3, 1) := by decide +kernel
theorem dX6_firstLineNear_41 : decode cX6_firstLineNear 41 = .ok (.iconst 1, 1) := by decide +kernel
theorem dX6_firstLineNear_42 : decode cX6_firstLineNear 42 = .ok (.iadd, 1) := by decide +kernel
theorem dX6_firstLineNear_43 : decode cX6_firstLineNear 43 = .ok (.aload_n 1, 1) := by decide +kernel
theorem dX6_firstLineNear_44 : decode cX6_firstLineNear 44 = .ok (.invokevirtual 25, 3) := by decide +kernel
theorem dX6_firstLineNear_47 : decode cX6_firstLineNear 47 = .ok (.ifCond .eq 5, 3) := by decide +kernel
theorem dX6_firstLineNear_50 : decode cX6_firstLineNear 50 = .ok (.iload_n 3, 1) := by decide +kernel
theorem dX6_firstLineNear_51 : decode cX6_firstLineNear 51 = .ok (.ireturn, 1) := by decide +kernel
theorem dX6_firstLineNear_52 : decode cX6_firstLineNear 52 = .ok (.iinc 3 1, 3) := by decide +kernel
theorem dX6_firstLineNear_55 : decode cX6_firstLineNear 55 = .ok (.goto (-34), 3) := by decide +kernel
theorem dX6_firstLineNear_58 : decode cX6_firstLineNear 58 = .ok (.iconst (-1), 1) := by decide +kernel
theorem dX6_firstLineNear_59 : decode cX6_firstLineNear 59 = .ok (.ireturn, 1) := by decide +kernel
theorem dX6_isNear_0 : decode cX6_isNear 0 = .ok (.iload_n 1, 1) := by decide +kernel
theorem dX6_isNear_1 : decode cX6_isNear 1 = .ok (.ifCond .lt 19, 3) := by decide +kernel
theorem dX6_isNear_4 : decode cX6_isNear 4 = .ok (.iload_n 2, 1) := by decide +kernel
theorem dX6_isNear_5 : decode cX6_isNear 5 = .ok (.ifCond .lt 15, 3) := by decide +kernel
theorem dX6_isNear_8 : decode cX6_isNear 8 = .ok (.iload_n 1, 1) := by decide +kernel
theorem dX6_isNear_9 : decode cX6_isNear 9 = .ok (.bipush 40, 2) := by decide +kernel
theorem dX6_isNear_11 : decode cX6_isNear 11 = .ok (.if_icmp .ge 9, 3) := by decide +kernel
theorem dX6_isNear_14 : decode cX6_isNear 14 = .ok (.iload_n 2, 1) := by decide +kernel
theorem dX6_isNear_15 : decode cX6_isNear 15 = .ok (.bipush 40, 2) := by decide +kernel
theorem dX6_isNear_17 : decode cX6_isNear 17 = .ok (.if_icmp .lt 5, 3) := by decide +kernel
theorem dX6_isNear_20 : decode cX6_isNear 20 = .ok (.iconst 0, 1) := by decide +kernel
theorem dX6_isNear_21 : decode cX6_isNear 21 = .ok (.ireturn, 1) := by decide +kernel
theorem dX6_isNear_22 : decode cX6_isNear 22 = .ok (.aload_n 0, 1) := by decide +kernel
theorem dX6_isNear_23 : decode cX6_isNear 23 = .ok (.getfield 9, 3) := by decide +kernel
theorem dX6_isNear_26 : decode cX6_isNear 26 = .ok (.iload_n 2, 1) := by decide +kernel
theorem dX6_isNear_27 : decode cX6_isNear 27 = .ok (.iaload, 1) := by decide +kernel
theorem dX6_isNear_28 : decode cX6_isNear 28 = .ok (.aload_n 0, 1) := by decide +kernel
theorem dX6_isNear_29 : decode cX6_isNear 29 = .ok (.getfield 9, 3) := by decide +kernel
theorem dX6_isNear_32 : decode cX6_isNear 32 = .ok (.iload_n 1, 1) := by decide +kernel
theorem dX6_isNear_33 : decode cX6_isNear 33 = .ok (.iaload, 1) := by decide +kernel
theorem dX6_isNear_34 : decode cX6_isNear 34 = .ok (.isub, 1) := by decide +kernel
theorem dX6_isNear_35 : decode cX6_isNear 35 = .ok (.i2l, 1) := by decide +kernel
theorem dX6_isNear_36 : decode cX6_isNear 36 = .ok (.lstore 4, 2) := by decide +kernel
theorem dX6_isNear_38 : decode cX6_isNear 38 = .ok (.aload_n 0, 1) := by decide +kernel
theorem dX6_isNear_39 : decode cX6_isNear 39 = .ok (.getfield 15, 3) := by decide +kernel
theorem dX6_isNear_42 : decode cX6_isNear 42 = .ok (.iload_n 2, 1) := by decide +kernel
theorem dX6_isNear_43 : decode cX6_isNear 43 = .ok (.iaload, 1) := by decide +kernel
theorem dX6_isNear_44 : decode cX6_isNear 44 = .ok (.aload_n 0, 1) := by decide +kernel
theorem dX6_isNear_45 : decode cX6_isNear 45 = .ok (.getfield 15, 3) := by decide +kernel
theorem dX6_isNear_48 : decode cX6_isNear 48 = .ok (.iload_n 1, 1) := by decide +kernel
theorem dX6_isNear_49 : decode cX6_isNear 49 = .ok (.iaload, 1) := by decide +kernel
theorem dX6_isNear_50 : decode cX6_isNear 50 = .ok (.isub, 1) := by decide +kernel
theorem dX6_isNear_51 : decode cX6_isNear 51 = .ok (.i2l, 1) := by decide +kernel
theorem dX6_isNear_52 : decode cX6_isNear 52 = .ok (.lstore 6, 2) := by decide +kernel
theorem dX6_isNear_54 : decode cX6_isNear 54 = .ok (.aload_n 3, 1) := by decide +kernel
theorem dX6_isNear_55 : decode cX6_isNear 55 = .ok (.getfield 29, 3) := by decide +kernel
theorem dX6_isNear_58 : decode cX6_isNear 58 = .ok (.aload_n 0, 1) := by decide +kernel
theorem dX6_isNear_59 : decode cX6_isNear 59 = .ok (.getfield 9, 3) := by decide +kernel
theorem dX6_isNear_62 : decode cX6_isNear 62 = .ok (.iload_n 1, 1) := by decide +kernel
theorem dX6_isNear_63 : decode cX6_isNear 63 = .ok (.iaload, 1) := by decide +kernel
theorem dX6_isNear_64 : decode cX6_isNear 64 = .ok (.isub, 1) := by decide +kernel
theorem dX6_isNear_65 : decode cX6_isNear 65 = .ok (.i2l, 1) := by decide +kernel
theorem dX6_isNear_66 : decode cX6_isNear 66 = .ok (.lstore 8, 2) := by decide +kernel
theorem dX6_isNear_68 : decode cX6_isNear 68 = .ok (.aload_n 3, 1) := by decide +kernel
theorem dX6_isNear_69 : decode cX6_isNear 69 = .ok (.getfield 33, 3) := by decide +kernel
theorem dX6_isNear_72 : decode cX6_isNear 72 = .ok (.aload_n 0, 1) := by decide +kernel
theorem dX6_isNear_73 : decode cX6_isNear 73 = .ok (.getfield 15, 3) := by decide +kernel
theorem dX6_isNear_76 : decode cX6_isNear 76 = .ok (.iload_n 1, 1) := by decide +kernel
theorem dX6_isNear_77 : decode cX6_isNear 77 = .ok (.iaload, 1) := by decide +kernel
theorem dX6_isNear_78 : decode cX6_isNear 78 = .ok (.isub, 1) := by decide +kernel
theorem dX6_isNear_79 : decode cX6_isNear 79 = .ok (.i2l, 1) := by decide +kernel
theorem dX6_isNear_80 : decode cX6_isNear 80 = .ok (.lstore 10, 2) := by decide +kernel
theorem dX6_isNear_82 : decode cX6_isNear 82 = .ok (.aload_n 0, 1) := by decide +kernel
theorem dX6_isNear_83 : decode cX6_isNear 83 = .ok (.getfield 22, 3) := by decide +kernel
theorem dX6_isNear_86 : decode cX6_isNear 86 = .ok (.aload_n 3, 1) := by decide +kernel
theorem dX6_isNear_87 : decode cX6_isNear 87 = .ok (.getfield 35, 3) := by decide +kernel
theorem dX6_isNear_90 : decode cX6_isNear 90 = .ok (.iadd, 1) := by decide +kernel
theorem dX6_isNear_91 : decode cX6_isNear 91 = .ok (.i2l, 1) := by decide +kernel
theorem dX6_isNear_92 : decode cX6_isNear 92 = .ok (.lstore 12, 2) := by decide +kernel
theorem dX6_isNear_94 : decode cX6_isNear 94 = .ok (.lload 4, 2) := by decide +kernel
theorem dX6_isNear_96 : decode cX6_isNear 96 = .ok (.lload 4, 2) := by decide +kernel
theorem dX6_isNear_98 : decode cX6_isNear 98 = .ok (.lmul, 1) := by decide +kernel
theorem dX6_isNear_99 : decode cX6_isNear 99 = .ok (.lload 6, 2) := by decide +kernel
theorem dX6_isNear_101 : decode cX6_isNear 101 = .ok (.lload 6, 2) := by decide +kernel
theorem dX6_isNear_103 : decode cX6_isNear 103 = .ok (.lmul, 1) := by decide +kernel
theorem dX6_isNear_104 : decode cX6_isNear 104 = .ok (.ladd, 1) := by decide +kernel
theorem dX6_isNear_105 : decode cX6_isNear 105 = .ok (.lstore 14, 2) := by decide +kernel
theorem dX6_isNear_107 : decode cX6_isNear 107 = .ok (.lload 8, 2) := by decide +kernel
theorem dX6_isNear_109 : decode cX6_isNear 109 = .ok (.lload 4, 2) := by decide +kernel
theorem dX6_isNear_111 : decode cX6_isNear 111 = .ok (.lmul, 1) := by decide +kernel
theorem dX6_isNear_112 : decode cX6_isNear 112 = .ok (.lload 10, 2) := by decide +kernel
theorem dX6_isNear_114 : decode cX6_isNear 114 = .ok (.lload 6, 2) := by decide +kernel
theorem dX6_isNear_116 : decode cX6_isNear 116 = .ok (.lmul, 1) := by decide +kernel
theorem dX6_isNear_117 : decode cX6_isNear 117 = .ok (.ladd, 1) := by decide +kernel
theorem dX6_isNear_118 : decode cX6_isNear 118 = .ok (.lstore 16, 2) := by decide +kernel
theorem dX6_isNear_120 : decode cX6_isNear 120 = .ok (.lload 16, 2) := by decide +kernel
theorem dX6_isNear_122 : decode cX6_isNear 122 = .ok (.lconst 0, 1) := by decide +kernel
theorem dX6_isNear_123 : decode cX6_isNear 123 = .ok (.lcmp, 1) := by decide +kernel
theorem dX6_isNear_124 : decode cX6_isNear 124 = .ok (.ifCond .gt 29, 3) := by decide +kernel
theorem dX6_isNear_127 : decode cX6_isNear 127 = .ok (.lload 8, 2) := by decide +kernel
theorem dX6_isNear_129 : decode cX6_isNear 129 = .ok (.lload 8, 2) := by decide +kernel
theorem dX6_isNear_131 : decode cX6_isNear 131 = .ok (.lmul, 1) := by decide +kernel
theorem dX6_isNear_132 : decode cX6_isNear 132 = .ok (.lload 10, 2) := by decide +kernel
theorem dX6_isNear_134 : decode cX6_isNear 134 = .ok (.lload 10, 2) := by decide +kernel
theorem dX6_isNear_136 : decode cX6_isNear 136 = .ok (.lmul, 1) := by decide +kernel
theorem dX6_isNear_137 : decode cX6_isNear 137 = .ok (.ladd, 1) := by decide +kernel
theorem dX6_isNear_138 : decode cX6_isNear 138 = .ok (.lload 12, 2) := by decide +kernel
theorem dX6_isNear_140 : decode cX6_isNear 140 = .ok (.lload 12, 2) := by decide +kernel
theorem dX6_isNear_142 : decode cX6_isNear 142 = .ok (.lmul, 1) := by decide +kernel
theorem dX6_isNear_143 : decode cX6_isNear 143 = .ok (.lcmp, 1) := by decide +kernel
theorem dX6_isNear_144 : decode cX6_isNear 144 = .ok (.ifCond .ge 7, 3) := by decide +kernel
theorem dX6_isNear_147 : decode cX6_isNear 147 = .ok (.iconst 1, 1) := by decide +kernel
theorem dX6_isNear_148 : decode cX6_isNear 148 = .ok (.goto 4, 3) := by decide +kernel
theorem dX6_isNear_151 : decode cX6_isNear 151 = .ok (.iconst 0, 1) := by decide +kernel
theorem dX6_isNear_152 : decode cX6_isNear 152 = .ok (.ireturn, 1) := by decide +kernel
theorem dX6_isNear_153 : decode cX6_isNear 153 = .ok (.lload 16, 2) := by decide +kernel
theorem dX6_isNear_155 : decode cX6_isNear 155 = .ok (.lload 14, 2) := by decide +kernel
theorem dX6_isNear_157 : decode cX6_isNear 157 = .ok (.lcmp, 1) := by decide +kernel
theorem dX6_isNear_158 : decode cX6_isNear 158 = .ok (.ifCond .lt 41, 3) := by decide +kernel
theorem dX6_isNear_161 : decode cX6_isNear 161 = .ok (.lload 8, 2) := by decide +kernel
theorem dX6_isNear_163 : decode cX6_isNear 163 = .ok (.lload 4, 2) := by decide +kernel
theorem dX6_isNear_165 : decode cX6_isNear 165 = .ok (.lsub, 1) := by decide +kernel
theorem dX6_isNear_166 : decode cX6_isNear 166 = .ok (.lload 8, 2) := by decide +kernel
theorem dX6_isNear_168 : decode cX6_isNear 168 = .ok (.lload 4, 2) := by decide +kernel
theorem dX6_isNear_170 : decode cX6_isNear 170 = .ok (.lsub, 1) := by decide +kernel
theorem dX6_isNear_171 : decode cX6_isNear 171 = .ok (.lmul, 1) := by decide +kernel
theorem dX6_isNear_172 : decode cX6_isNear 172 = .ok (.lload 10, 2) := by decide +kernel
theorem dX6_isNear_174 : decode cX6_isNear 174 = .ok (.lload 6, 2) := by decide +kernel
theorem dX6_isNear_176 : decode cX6_isNear 176 = .ok (.lsub, 1) := by decide +kernel
theorem dX6_isNear_177 : decode cX6_isNear 177 = .ok (.lload 10, 2) := by decide +kernel
theorem dX6_isNear_179 : decode cX6_isNear 179 = .ok (.lload 6, 2) := by decide +kernel
theorem dX6_isNear_181 : decode cX6_isNear 181 = .ok (.lsub, 1) := by decide +kernel
theorem dX6_isNear_182 : decode cX6_isNear 182 = .ok (.lmul, 1) := by decide +kernel
theorem dX6_isNear_183 : decode cX6_isNear 183 = .ok (.ladd, 1) := by decide +kernel
theorem dX6_isNear_184 : decode cX6_isNear 184 = .ok (.lload 12, 2) := by decide +kernel
theorem dX6_isNear_186 : decode cX6_isNear 186 = .ok (.lload 12, 2) := by decide +kernel
theorem dX6_isNear_188 : decode cX6_isNear 188 = .ok (.lmul, 1) := by decide +kernel
theorem dX6_isNear_189 : decode cX6_isNear 189 = .ok (.lcmp, 1) := by decide +kernel
theorem dX6_isNear_190 : decode cX6_isNear 190 = .ok (.ifCond .ge 7, 3) := by decide +kernel
theorem dX6_isNear_193 : decode cX6_isNear 193 = .ok (.iconst 1, 1) := by decide +kernel
theorem dX6_isNear_194 : decode cX6_isNear 194 = .ok (.goto 4, 3) := by decide +kernel
theorem dX6_isNear_197 : decode cX6_isNear 197 = .ok (.iconst 0, 1) := by decide +kernel
theorem dX6_isNear_198 : decode cX6_isNear 198 = .ok (.ireturn, 1) := by decide +kernel
theorem dX6_isNear_199 : decode cX6_isNear 199 = .ok (.lload 8, 2) := by decide +kernel
theorem dX6_isNear_201 : decode cX6_isNear 201 = .ok (.lload 6, 2) := by decide +kernel
theorem dX6_isNear_203 : decode cX6_isNear 203 = .ok (.lmul, 1) := by decide +kernel
theorem dX6_isNear_204 : decode cX6_isNear 204 = .ok (.lload 10, 2) := by decide +kernel
theorem dX6_isNear_206 : decode cX6_isNear 206 = .ok (.lload 4, 2) := by decide +kernel
theorem dX6_isNear_208 : decode cX6_isNear 208 = .ok (.lmul, 1) := by decide +kernel
theorem dX6_isNear_209 : decode cX6_isNear 209 = .ok (.lsub, 1) := by decide +kernel
theorem dX6_isNear_210 : decode cX6_isNear 210 = .ok (.lstore 18, 2) := by decide +kernel
theorem dX6_isNear_212 : decode cX6_isNear 212 = .ok (.lload 18, 2) := by decide +kernel
theorem dX6_isNear_214 : decode cX6_isNear 214 = .ok (.lload 18, 2) := by decide +kernel
theorem dX6_isNear_216 : decode cX6_isNear 216 = .ok (.lmul, 1) := by decide +kernel
theorem dX6_isNear_217 : decode cX6_isNear 217 = .ok (.lload 12, 2) := by decide +kernel
theorem dX6_isNear_219 : decode cX6_isNear 219 = .ok (.lload 12, 2) := by decide +kernel
theorem dX6_isNear_221 : decode cX6_isNear 221 = .ok (.lmul, 1) := by decide +kernel
theorem dX6_isNear_222 : decode cX6_isNear 222 = .ok (.lload 14, 2) := by decide +kernel
theorem dX6_isNear_224 : decode cX6_isNear 224 = .ok (.lmul, 1) := by decide +kernel
theorem dX6_isNear_225 : decode cX6_isNear 225 = .ok (.lcmp, 1) := by decide +kernel
theorem dX6_isNear_226 : decode cX6_isNear 226 = .ok (.ifCond .ge 7, 3) := by decide +kernel
theorem dX6_isNear_229 : decode cX6_isNear 229 = .ok (.iconst 1, 1) := by decide +kernel
theorem dX6_isNear_230 : decode cX6_isNear 230 = .ok (.goto 4, 3) := by decide +kernel
theorem dX6_isNear_233 : decode cX6_isNear 233 = .ok (.iconst 0, 1) := by decide +kernel
theorem dX6_isNear_234 : decode cX6_isNear 234 = .ok (.ireturn, 1) := by decide +kernel
theorem dX7_init_0 : decode cX7_init 0 = .ok (.aload_n 0, 1) := by decide +kernel
theorem dX7_init_1 : decode cX7_init 1 = .ok (.invokespecial 3, 3) := by decide +kernel
theorem dX7_init_4 : decode cX7_init 4 = .ok (.aload_n 0, 1) := by decide +kernel
theorem dX7_init_5 : decode cX7_init 5 = .ok (.iconst 0, 1) := by decide +kernel
theorem dX7_init_6 : decode cX7_init 6 = .ok (.putfield 9, 3) := by decide +kernel
theorem dX7_init_9 : decode cX7_init 9 = .ok (.aload_n 0, 1) := by decide +kernel
theorem dX7_init_10 : decode cX7_init 10 = .ok (.iconst 0, 1) := by decide +kernel
theorem dX7_init_11 : decode cX7_init 11 = .ok (.putfield 15, 3) := by decide +kernel
theorem dX7_init_14 : decode cX7_init 14 = .ok (.iload_n 1, 1) := by decide +kernel
theorem dX7_init_15 : decode cX7_init 15 = .ok (.invokestatic 18, 3) := by decide +kernel
theorem dX7_init_18 : decode cX7_init 18 = .ok (.istore 5, 2) := by decide +kernel
theorem dX7_init_20 : decode cX7_init 20 = .ok (.aload_n 0, 1) := by decide +kernel
theorem dX7_init_21 : decode cX7_init 21 = .ok (.iload_n 1, 1) := by decide +kernel
theorem dX7_init_22 : decode cX7_init 22 = .ok (.putfield 22, 3) := by decide +kernel
theorem dX7_init_25 : decode cX7_init 25 = .ok (.aload_n 0, 1) := by decide +kernel
theorem dX7_init_26 : decode cX7_init 26 = .ok (.iload 5, 2) := by decide +kernel
theorem dX7_init_28 : decode cX7_init 28 = .ok (.ifCond .eq 11, 3) := by decide +kernel
theorem dX7_init_31 : decode cX7_init 31 = .ok (.getstatic 25, 3) := by decide +kernel
theorem dX7_init_34 : decode cX7_init 34 = .ok (.iload_n 1, 1) := by decide +kernel
theorem dX7_init_35 : decode cX7_init 35 = .ok (.iaload, 1) := by decide +kernel
theorem dX7_init_36 : decode cX7_init 36 = .ok (.goto 4, 3) := by decide +kernel
theorem dX7_init_39 : decode cX7_init 39 = .ok (.iconst 0, 1) := by decide +kernel
theorem dX7_init_40 : decode cX7_init 40 = .ok (.putfield 29, 3) := by decide +kernel
theorem dX7_init_43 : decode cX7_init 43 = .ok (.aload_n 0, 1) := by decide +kernel
theorem dX7_init_44 : decode cX7_init 44 = .ok (.iload 5, 2) := by decide +kernel
theorem dX7_init_46 : decode cX7_init 46 = .ok (.ifCond .eq 11, 3) := by decide +kernel
theorem dX7_init_49 : decode cX7_init 49 = .ok (.getstatic 32, 3) := by decide +kernel
theorem dX7_init_52 : decode cX7_init 52 = .ok (.iload_n 1, 1) := by decide +kernel
theorem dX7_init_53 : decode cX7_init 53 = .ok (.iaload, 1) := by decide +kernel
theorem dX7_init_54 : decode cX7_init 54 = .ok (.goto 4, 3) := by decide +kernel
theorem dX7_init_57 : decode cX7_init 57 = .ok (.iconst 0, 1) := by decide +kernel
theorem dX7_init_58 : decode cX7_init 58 = .ok (.putfield 35, 3) := by decide +kernel
theorem dX7_init_61 : decode cX7_init 61 = .ok (.aload_n 0, 1) := by decide +kernel
theorem dX7_init_62 : decode cX7_init 62 = .ok (.iload_n 2, 1) := by decide +kernel
theorem dX7_init_63 : decode cX7_init 63 = .ok (.putfield 38, 3) := by decide +kernel
theorem dX7_init_66 : decode cX7_init 66 = .ok (.aload_n 0, 1) := by decide +kernel
theorem dX7_init_67 : decode cX7_init 67 = .ok (.iload_n 3, 1) := by decide +kernel
theorem dX7_init_68 : decode cX7_init 68 = .ok (.putfield 41, 3) := by decide +kernel
theorem dX7_init_71 : decode cX7_init 71 = .ok (.aload_n 0, 1) := by decide +kernel
theorem dX7_init_72 : decode cX7_init 72 = .ok (.iload 4, 2) := by decide +kernel
theorem dX7_init_74 : decode cX7_init 74 = .ok (.putfield 44, 3) := by decide +kernel
theorem dX7_init_77 : decode cX7_init 77 = .ok (.return_, 1) := by decide +kernel
theorem dX7_kind_0 : decode cX7_kind 0 = .ok (.iconst 0, 1) := by decide +kernel
theorem dX7_kind_1 : decode cX7_kind 1 = .ok (.ireturn, 1) := by decide +kernel
theorem dX7_gripped_0 : decode cX7_gripped 0 = .ok (.iconst 0, 1) := by decide +kernel
theorem dX7_gripped_1 : decode cX7_gripped 1 = .ok (.ireturn, 1) := by decide +kernel
theorem dX7_places_0 : decode cX7_places 0 = .ok (.iconst 1, 1) := by decide +kernel
theorem dX7_places_1 : decode cX7_places 1 = .ok (.ireturn, 1) := by decide +kernel
theorem dX7_pushCount_0 : decode cX7_pushCount 0 = .ok (.iconst 1, 1) := by decide +kernel
theorem dX7_pushCount_1 : decode cX7_pushCount 1 = .ok (.ireturn, 1) := by decide +kernel
theorem dX7_leans_0 : decode cX7_leans 0 = .ok (.iconst 0, 1) := by decide +kernel
theorem dX7_leans_1 : decode cX7_leans 1 = .ok (.ireturn, 1) := by decide +kernel
theorem dX7_weighs_0 : decode cX7_weighs 0 = .ok (.bipush 10, 2) := by decide +kernel
theorem dX7_weighs_2 : decode cX7_weighs 2 = .ok (.aload_n 0, 1) := by decide +kernel
theorem dX7_weighs_3 : decode cX7_weighs 3 = .ok (.getfield 44, 3) := by decide +kernel
theorem dX7_weighs_6 : decode cX7_weighs 6 = .ok (.iadd, 1) := by decide +kernel
theorem dX7_weighs_7 : decode cX7_weighs 7 = .ok (.ireturn, 1) := by decide +kernel
theorem dX7_fail_0 : decode cX7_fail 0 = .ok (.return_, 1) := by decide +kernel
theorem dX7_pushX_0 : decode cX7_pushX 0 = .ok (.iload_n 1, 1) := by decide +kernel
theorem dX7_pushX_1 : decode cX7_pushX 1 = .ok (.ifCond .ge 10, 3) := by decide +kernel
theorem dX7_pushX_4 : decode cX7_pushX 4 = .ok (.aload_n 0, 1) := by decide +kernel
theorem dX7_pushX_5 : decode cX7_pushX 5 = .ok (.getfield 29, 3) := by decide +kernel
theorem dX7_pushX_8 : decode cX7_pushX 8 = .ok (.goto 26, 3) := by decide +kernel
theorem dX7_pushX_11 : decode cX7_pushX 11 = .ok (.bipush 10, 2) := by decide +kernel
theorem dX7_pushX_13 : decode cX7_pushX 13 = .ok (.aload_n 0, 1) := by decide +kernel
theorem dX7_pushX_14 : decode cX7_pushX 14 = .ok (.getfield 29, 3) := by decide +kernel
theorem dX7_pushX_17 : decode cX7_pushX 17 = .ok (.imul, 1) := by decide +kernel
theorem dX7_pushX_18 : decode cX7_pushX 18 = .ok (.aload_n 0, 1) := by decide +kernel
theorem dX7_pushX_19 : decode cX7_pushX 19 = .ok (.iload_n 1, 1) := by decide +kernel
theorem dX7_pushX_20 : decode cX7_pushX 20 = .ok (.invokevirtual 47, 3) := by decide +kernel
theorem dX7_pushX_23 : decode cX7_pushX 23 = .ok (.aload_n 0, 1) := by decide +kernel
theorem dX7_pushX_24 : decode cX7_pushX 24 = .ok (.invokevirtual 51, 3) := by decide +kernel
theorem dX7_pushX_27 : decode cX7_pushX 27 = .ok (.imul, 1) := by decide +kernel
theorem dX7_pushX_28 : decode cX7_pushX 28 = .ok (.aload_n 0, 1) := by decide +kernel
theorem dX7_pushX_29 : decode cX7_pushX 29 = .ok (.getfield 35, 3) := by decide +kernel
theorem dX7_pushX_32 : decode cX7_pushX 32 = .ok (.imul, 1) := by decide +kernel
theorem dX7_pushX_33 : decode cX7_pushX 33 = .ok (.isub, 1) := by decide +kernel
theorem dX7_pushX_34 : decode cX7_pushX 34 = .ok (.ireturn, 1) := by decide +kernel
theorem dX7_pushY_0 : decode cX7_pushY 0 = .ok (.iload_n 1, 1) := by decide +kernel
theorem dX7_pushY_1 : decode cX7_pushY 1 = .ok (.ifCond .ge 10, 3) := by decide +kernel
theorem dX7_pushY_4 : decode cX7_pushY 4 = .ok (.aload_n 0, 1) := by decide +kernel
theorem dX7_pushY_5 : decode cX7_pushY 5 = .ok (.getfield 35, 3) := by decide +kernel
theorem dX7_pushY_8 : decode cX7_pushY 8 = .ok (.goto 26, 3) := by decide +kernel
theorem dX7_pushY_11 : decode cX7_pushY 11 = .ok (.bipush 10, 2) := by decide +kernel
theorem dX7_pushY_13 : decode cX7_pushY 13 = .ok (.aload_n 0, 1) := by decide +kernel
theorem dX7_pushY_14 : decode cX7_pushY 14 = .ok (.getfield 35, 3) := by decide +kernel
theorem dX7_pushY_17 : decode cX7_pushY 17 = .ok (.imul, 1) := by decide +kernel
theorem dX7_pushY_18 : decode cX7_pushY 18 = .ok (.aload_n 0, 1) := by decide +kernel
theorem dX7_pushY_19 : decode cX7_pushY 19 = .ok (.iload_n 1, 1) := by decide +kernel
theorem dX7_pushY_20 : decode cX7_pushY 20 = .ok (.invokevirtual 47, 3) := by decide +kernel
theorem dX7_pushY_23 : decode cX7_pushY 23 = .ok (.aload_n 0, 1) := by decide +kernel
theorem dX7_pushY_24 : decode cX7_pushY 24 = .ok (.invokevirtual 51, 3) := by decide +kernel
theorem dX7_pushY_27 : decode cX7_pushY 27 = .ok (.imul, 1) := by decide +kernel
theorem dX7_pushY_28 : decode cX7_pushY 28 = .ok (.aload_n 0, 1) := by decide +kernel
theorem dX7_pushY_29 : decode cX7_pushY 29 = .ok (.getfield 29, 3) := by decide +kernel
theorem dX7_pushY_32 : decode cX7_pushY 32 = .ok (.imul, 1) := by decide +kernel
theorem dX7_pushY_33 : decode cX7_pushY 33 = .ok (.iadd, 1) := by decide +kernel
theorem dX7_pushY_34 : decode cX7_pushY 34 = .ok (.ireturn, 1) := by decide +kernel
theorem dX7_turn_0 : decode cX7_turn 0 = .ok (.aload_n 0, 1) := by decide +kernel
theorem dX7_turn_1 : decode cX7_turn 1 = .ok (.getfield 38, 3) := by decide +kernel
theorem dX7_turn_4 : decode cX7_turn 4 = .ok (.aload_n 0, 1) := by decide +kernel
theorem dX7_turn_5 : decode cX7_turn 5 = .ok (.iload_n 1, 1) := by decide +kernel
theorem dX7_turn_6 : decode cX7_turn 6 = .ok (.invokevirtual 55, 3) := by decide +kernel
theorem dX7_turn_9 : decode cX7_turn 9 = .ok (.imul, 1) := by decide +kernel
theorem dX7_turn_10 : decode cX7_turn 10 = .ok (.aload_n 0, 1) := by decide +kernel
theorem dX7_turn_11 : decode cX7_turn 11 = .ok (.getfield 41, 3) := by decide +kernel
theorem dX7_turn_14 : decode cX7_turn 14 = .ok (.aload_n 0, 1) := by decide +kernel
theorem dX7_turn_15 : decode cX7_turn 15 = .ok (.iload_n 1, 1) := by decide +kernel
theorem dX7_turn_16 : decode cX7_turn 16 = .ok (.invokevirtual 58, 3) := by decide +kernel
theorem dX7_turn_19 : decode cX7_turn 19 = .ok (.imul, 1) := by decide +kernel
theorem dX7_turn_20 : decode cX7_turn 20 = .ok (.isub, 1) := by decide +kernel
theorem dX7_turn_21 : decode cX7_turn 21 = .ok (.ireturn, 1) := by decide +kernel
theorem dX8_init_0 : decode cX8_init 0 = .ok (.aload_n 0, 1) := by decide +kernel
theorem dX8_init_1 : decode cX8_init 1 = .ok (.invokespecial 3, 3) := by decide +kernel
theorem dX8_init_4 : decode cX8_init 4 = .ok (.aload_n 0, 1) := by decide +kernel
theorem dX8_init_5 : decode cX8_init 5 = .ok (.bipush 12, 2) := by decide +kernel
theorem dX8_init_7 : decode cX8_init 7 = .ok (.newarray .int, 2) := by decide +kernel
theorem dX8_init_9 : decode cX8_init 9 = .ok (.putfield 9, 3) := by decide +kernel
theorem dX8_init_12 : decode cX8_init 12 = .ok (.aload_n 0, 1) := by decide +kernel
theorem dX8_init_13 : decode cX8_init 13 = .ok (.bipush 12, 2) := by decide +kernel
theorem dX8_init_15 : decode cX8_init 15 = .ok (.newarray .int, 2) := by decide +kernel
theorem dX8_init_17 : decode cX8_init 17 = .ok (.putfield 15, 3) := by decide +kernel
theorem dX8_init_20 : decode cX8_init 20 = .ok (.aload_n 0, 1) := by decide +kernel
theorem dX8_init_21 : decode cX8_init 21 = .ok (.iconst 0, 1) := by decide +kernel
theorem dX8_init_22 : decode cX8_init 22 = .ok (.putfield 18, 3) := by decide +kernel
theorem dX8_init_25 : decode cX8_init 25 = .ok (.aload_n 0, 1) := by decide +kernel
theorem dX8_init_26 : decode cX8_init 26 = .ok (.sipush 4096, 3) := by decide +kernel
theorem dX8_init_29 : decode cX8_init 29 = .ok (.newarray .byte, 2) := by decide +kernel
theorem dX8_init_31 : decode cX8_init 31 = .ok (.putfield 22, 3) := by decide +kernel
theorem dX8_init_34 : decode cX8_init 34 = .ok (.aload_n 0, 1) := by decide +kernel
theorem dX8_init_35 : decode cX8_init 35 = .ok (.bipush 12, 2) := by decide +kernel
theorem dX8_init_37 : decode cX8_init 37 = .ok (.newarray .int, 2) := by decide +kernel
theorem dX8_init_39 : decode cX8_init 39 = .ok (.putfield 26, 3) := by decide +kernel
theorem dX8_init_42 : decode cX8_init 42 = .ok (.aload_n 0, 1) := by decide +kernel
theorem dX8_init_43 : decode cX8_init 43 = .ok (.bipush 12, 2) := by decide +kernel
theorem dX8_init_45 : decode cX8_init 45 = .ok (.newarray .int, 2) := by decide +kernel
theorem dX8_init_47 : decode cX8_init 47 = .ok (.putfield 29, 3) := by decide +kernel
theorem dX8_init_50 : decode cX8_init 50 = .ok (.aload_n 0, 1) := by decide +kernel
theorem dX8_init_51 : decode cX8_init 51 = .ok (.iconst 0, 1) := by decide +kernel
theorem dX8_init_52 : decode cX8_init 52 = .ok (.putfield 32, 3) := by decide +kernel
theorem dX8_init_55 : decode cX8_init 55 = .ok (.aload_n 0, 1) := by decide +kernel
theorem dX8_init_56 : decode cX8_init 56 = .ok (.iconst 1, 1) := by decide +kernel
theorem dX8_init_57 : decode cX8_init 57 = .ok (.putfield 35, 3) := by decide +kernel
theorem dX8_init_60 : decode cX8_init 60 = .ok (.return_, 1) := by decide +kernel
theorem dX8_taken_0 : decode cX8_taken 0 = .ok (.aload_n 0, 1) := by decide +kernel
theorem dX8_taken_1 : decode cX8_taken 1 = .ok (.getfield 18, 3) := by decide +kernel
theorem dX8_taken_4 : decode cX8_taken 4 = .ok (.bipush 12, 2) := by decide +kernel
theorem dX8_taken_6 : decode cX8_taken 6 = .ok (.if_icmp .lt 5, 3) := by decide +kernel
theorem dX8_taken_9 : decode cX8_taken 9 = .ok (.iconst 0, 1) := by decide +kernel
theorem dX8_taken_10 : decode cX8_taken 10 = .ok (.ireturn, 1) := by decide +kernel
theorem dX8_taken_11 : decode cX8_taken 11 = .ok (.aload_n 0, 1) := by decide +kernel
theorem dX8_taken_12 : decode cX8_taken 12 = .ok (.getfield 9, 3) := by decide +kernel
theorem dX8_taken_15 : decode cX8_taken 15 = .ok (.aload_n 0, 1) := by decide +kernel
theorem dX8_taken_16 : decode cX8_taken 16 = .ok (.getfield 18, 3) := by decide +kernel
theorem dX8_taken_19 : decode cX8_taken 19 = .ok (.iload_n 1, 1) := by decide +kernel
theorem dX8_taken_20 : decode cX8_taken 20 = .ok (.iastore, 1) := by decide +kernel
theorem dX8_taken_21 : decode cX8_taken 21 = .ok (.aload_n 0, 1) := by decide +kernel
theorem dX8_taken_22 : decode cX8_taken 22 = .ok (.getfield 15, 3) := by decide +kernel
theorem dX8_taken_25 : decode cX8_taken 25 = .ok (.aload_n 0, 1) := by decide +kernel
theorem dX8_taken_26 : decode cX8_taken 26 = .ok (.getfield 18, 3) := by decide +kernel
theorem dX8_taken_29 : decode cX8_taken 29 = .ok (.iload_n 2, 1) := by decide +kernel
theorem dX8_taken_30 : decode cX8_taken 30 = .ok (.iastore, 1) := by decide +kernel
theorem dX8_taken_31 : decode cX8_taken 31 = .ok (.aload_n 0, 1) := by decide +kernel
theorem dX8_taken_32 : decode cX8_taken 32 = .ok (.dup, 1) := by decide +kernel
theorem dX8_taken_33 : decode cX8_taken 33 = .ok (.getfield 18, 3) := by decide +kernel
theorem dX8_taken_36 : decode cX8_taken 36 = .ok (.iconst 1, 1) := by decide +kernel
theorem dX8_taken_37 : decode cX8_taken 37 = .ok (.iadd, 1) := by decide +kernel
theorem dX8_taken_38 : decode cX8_taken 38 = .ok (.putfield 18, 3) := by decide +kernel
theorem dX8_taken_41 : decode cX8_taken 41 = .ok (.aload_n 0, 1) := by decide +kernel
theorem dX8_taken_42 : decode cX8_taken 42 = .ok (.iconst 0, 1) := by decide +kernel
theorem dX8_taken_43 : decode cX8_taken 43 = .ok (.putfield 35, 3) := by decide +kernel
theorem dX8_taken_46 : decode cX8_taken 46 = .ok (.iconst 1, 1) := by decide +kernel
theorem dX8_taken_47 : decode cX8_taken 47 = .ok (.ireturn, 1) := by decide +kernel
theorem dX8_takenBy_0 : decode cX8_takenBy 0 = .ok (.iconst 1, 1) := by decide +kernel
theorem dX8_takenBy_1 : decode cX8_takenBy 1 = .ok (.aload_n 0, 1) := by decide +kernel
theorem dX8_takenBy_2 : decode cX8_takenBy 2 = .ok (.getfield 18, 3) := by decide +kernel
theorem dX8_takenBy_5 : decode cX8_takenBy 5 = .ok (.ishl, 1) := by decide +kernel
theorem dX8_takenBy_6 : decode cX8_takenBy 6 = .ok (.iconst 1, 1) := by decide +kernel
theorem dX8_takenBy_7 : decode cX8_takenBy 7 = .ok (.isub, 1) := by decide +kernel
theorem dX8_takenBy_8 : decode cX8_takenBy 8 = .ok (.istore_n 3, 1) := by decide +kernel
theorem dX8_takenBy_9 : decode cX8_takenBy 9 = .ok (.iconst 0, 1) := by decide +kernel
theorem dX8_takenBy_10 : decode cX8_takenBy 10 = .ok (.istore 4, 2) := by decide +kernel
theorem dX8_takenBy_12 : decode cX8_takenBy 12 = .ok (.iload_n 1, 1) := by decide +kernel
theorem dX8_takenBy_13 : decode cX8_takenBy 13 = .ok (.istore 5, 2) := by decide +kernel
theorem dX8_takenBy_15 : decode cX8_takenBy 15 = .ok (.iconst 0, 1) := by decide +kernel
theorem dX8_takenBy_16 : decode cX8_takenBy 16 = .ok (.istore 6, 2) := by decide +kernel
theorem dX8_takenBy_18 : decode cX8_takenBy 18 = .ok (.iload 6, 2) := by decide +kernel
theorem dX8_takenBy_20 : decode cX8_takenBy 20 = .ok (.iload_n 2, 1) := by decide +kernel
theorem dX8_takenBy_21 : decode cX8_takenBy 21 = .ok (.if_icmp .ge 38, 3) := by decide +kernel
theorem dX8_takenBy_24 : decode cX8_takenBy 24 = .ok (.iload 4, 2) := by decide +kernel
theorem dX8_takenBy_26 : decode cX8_takenBy 26 = .ok (.iload_n 3, 1) := by decide +kernel
theorem dX8_takenBy_27 : decode cX8_takenBy 27 = .ok (.if_icmp .ne 6, 3) := by decide +kernel
theorem dX8_takenBy_30 : decode cX8_takenBy 30 = .ok (.iload 6, 2) := by decide +kernel
theorem dX8_takenBy_32 : decode cX8_takenBy 32 = .ok (.ireturn, 1) := by decide +kernel
theorem dX8_takenBy_33 : decode cX8_takenBy 33 = .ok (.aload_n 0, 1) := by decide +kernel
theorem dX8_takenBy_34 : decode cX8_takenBy 34 = .ok (.iload 4, 2) := by decide +kernel
theorem dX8_takenBy_36 : decode cX8_takenBy 36 = .ok (.iload 5, 2) := by decide +kernel
theorem dX8_takenBy_38 : decode cX8_takenBy 38 = .ok (.bipush 6, 2) := by decide +kernel
theorem dX8_takenBy_40 : decode cX8_takenBy 40 = .ok (.irem, 1) := by decide +kernel
theorem dX8_takenBy_41 : decode cX8_takenBy 41 = .ok (.invokevirtual 39, 3) := by decide +kernel
theorem dX8_takenBy_44 : decode cX8_takenBy 44 = .ok (.istore 4, 2) := by decide +kernel
theorem dX8_takenBy_46 : decode cX8_takenBy 46 = .ok (.iload 5, 2) := by decide +kernel
theorem dX8_takenBy_48 : decode cX8_takenBy 48 = .ok (.bipush 6, 2) := by decide +kernel
theorem dX8_takenBy_50 : decode cX8_takenBy 50 = .ok (.idiv, 1) := by decide +kernel
theorem dX8_takenBy_51 : decode cX8_takenBy 51 = .ok (.istore 5, 2) := by decide +kernel
theorem dX8_takenBy_53 : decode cX8_takenBy 53 = .ok (.iinc 6 1, 3) := by decide +kernel
theorem dX8_takenBy_56 : decode cX8_takenBy 56 = .ok (.goto (-38), 3) := by decide +kernel
theorem dX8_takenBy_59 : decode cX8_takenBy 59 = .ok (.iload 4, 2) := by decide +kernel
theorem dX8_takenBy_61 : decode cX8_takenBy 61 = .ok (.iload_n 3, 1) := by decide +kernel
theorem dX8_takenBy_62 : decode cX8_takenBy 62 = .ok (.if_icmp .ne 7, 3) := by decide +kernel
theorem dX8_takenBy_65 : decode cX8_takenBy 65 = .ok (.iload_n 2, 1) := by decide +kernel
theorem dX8_takenBy_66 : decode cX8_takenBy 66 = .ok (.goto 4, 3) := by decide +kernel
theorem dX8_takenBy_69 : decode cX8_takenBy 69 = .ok (.iconst (-1), 1) := by decide +kernel
theorem dX8_takenBy_70 : decode cX8_takenBy 70 = .ok (.ireturn, 1) := by decide +kernel
theorem dX8_findFewest_0 : decode cX8_findFewest 0 = .ok (.aload_n 0, 1) := by decide +kernel
theorem dX8_findFewest_1 : decode cX8_findFewest 1 = .ok (.getfield 35, 3) := by decide +kernel
theorem dX8_findFewest_4 : decode cX8_findFewest 4 = .ok (.ifCond .eq 4, 3) := by decide +kernel
theorem dX8_findFewest_7 : decode cX8_findFewest 7 = .ok (.return_, 1) := by decide +kernel
theorem dX8_findFewest_8 : decode cX8_findFewest 8 = .ok (.iconst 1, 1) := by decide +kernel
theorem dX8_findFewest_9 : decode cX8_findFewest 9 = .ok (.aload_n 0, 1) := by decide +kernel
theorem dX8_findFewest_10 : decode cX8_findFewest 10 = .ok (.getfield 18, 3) := by decide +kernel
theorem dX8_findFewest_13 : decode cX8_findFewest 13 = .ok (.ishl, 1) := by decide +kernel
theorem dX8_findFewest_14 : decode cX8_findFewest 14 = .ok (.iconst 1, 1) := by decide +kernel
theorem dX8_findFewest_15 : decode cX8_findFewest 15 = .ok (.isub, 1) := by decide +kernel
theorem dX8_findFewest_16 : decode cX8_findFewest 16 = .ok (.istore_n 1, 1) := by decide +kernel
theorem dX8_findFewest_17 : decode cX8_findFewest 17 = .ok (.iload_n 1, 1) := by decide +kernel
theorem dX8_findFewest_18 : decode cX8_findFewest 18 = .ok (.ifCond .lt 12, 3) := by decide +kernel
theorem dX8_findFewest_21 : decode cX8_findFewest 21 = .ok (.iload_n 1, 1) := by decide +kernel
theorem dX8_findFewest_22 : decode cX8_findFewest 22 = .ok (.aload_n 0, 1) := by decide +kernel
theorem dX8_findFewest_23 : decode cX8_findFewest 23 = .ok (.getfield 22, 3) := by decide +kernel
theorem dX8_findFewest_26 : decode cX8_findFewest 26 = .ok (.arraylength, 1) := by decide +kernel
theorem dX8_findFewest_27 : decode cX8_findFewest 27 = .ok (.if_icmp .lt 4, 3) := by decide +kernel
theorem dX8_findFewest_30 : decode cX8_findFewest 30 = .ok (.return_, 1) := by decide +kernel
theorem dX8_findFewest_31 : decode cX8_findFewest 31 = .ok (.aload_n 0, 1) := by decide +kernel
theorem dX8_findFewest_32 : decode cX8_findFewest 32 = .ok (.iload_n 1, 1) := by decide +kernel
theorem dX8_findFewest_33 : decode cX8_findFewest 33 = .ok (.invokevirtual 43, 3) := by decide +kernel
theorem dX8_findFewest_36 : decode cX8_findFewest 36 = .ok (.aload_n 0, 1) := by decide +kernel
theorem dX8_findFewest_37 : decode cX8_findFewest 37 = .ok (.iload_n 1, 1) := by decide +kernel
theorem dX8_findFewest_38 : decode cX8_findFewest 38 = .ok (.invokevirtual 47, 3) := by decide +kernel
theorem dX8_findFewest_41 : decode cX8_findFewest 41 = .ok (.aload_n 0, 1) := by decide +kernel
theorem dX8_findFewest_42 : decode cX8_findFewest 42 = .ok (.iload_n 1, 1) := by decide +kernel
theorem dX8_findFewest_43 : decode cX8_findFewest 43 = .ok (.invokevirtual 50, 3) := by decide +kernel
theorem dX8_findFewest_46 : decode cX8_findFewest 46 = .ok (.aload_n 0, 1) := by decide +kernel
theorem dX8_findFewest_47 : decode cX8_findFewest 47 = .ok (.iconst 1, 1) := by decide +kernel
theorem dX8_findFewest_48 : decode cX8_findFewest 48 = .ok (.putfield 35, 3) := by decide +kernel
theorem dX8_findFewest_51 : decode cX8_findFewest 51 = .ok (.return_, 1) := by decide +kernel
theorem dX8_sideRow_0 : decode cX8_sideRow 0 = .ok (.aload_n 0, 1) := by decide +kernel
theorem dX8_sideRow_1 : decode cX8_sideRow 1 = .ok (.getfield 32, 3) := by decide +kernel
theorem dX8_sideRow_4 : decode cX8_sideRow 4 = .ok (.ifCond .ge 7, 3) := by decide +kernel
theorem dX8_sideRow_7 : decode cX8_sideRow 7 = .ok (.iconst 0, 1) := by decide +kernel
theorem dX8_sideRow_8 : decode cX8_sideRow 8 = .ok (.goto 12, 3) := by decide +kernel
theorem dX8_sideRow_11 : decode cX8_sideRow 11 = .ok (.aload_n 0, 1) := by decide +kernel
theorem dX8_sideRow_12 : decode cX8_sideRow 12 = .ok (.getfield 32, 3) := by decide +kernel
theorem dX8_sideRow_15 : decode cX8_sideRow 15 = .ok (.bipush 12, 2) := by decide +kernel
theorem dX8_sideRow_17 : decode cX8_sideRow 17 = .ok (.invokestatic 53, 3) := by decide +kernel
theorem dX8_sideRow_20 : decode cX8_sideRow 20 = .ok (.istore_n 1, 1) := by decide +kernel
theorem dX8_sideRow_21 : decode cX8_sideRow 21 = .ok (.iload_n 1, 1) := by decide +kernel
theorem dX8_sideRow_22 : decode cX8_sideRow 22 = .ok (.newarray .byte, 2) := by decide +kernel
theorem dX8_sideRow_24 : decode cX8_sideRow 24 = .ok (.astore_n 2, 1) := by decide +kernel
theorem dX8_sideRow_25 : decode cX8_sideRow 25 = .ok (.iconst 0, 1) := by decide +kernel
theorem dX8_sideRow_26 : decode cX8_sideRow 26 = .ok (.istore_n 3, 1) := by decide +kernel
theorem dX8_sideRow_27 : decode cX8_sideRow 27 = .ok (.iload_n 3, 1) := by decide +kernel
theorem dX8_sideRow_28 : decode cX8_sideRow 28 = .ok (.iload_n 1, 1) := by decide +kernel
theorem dX8_sideRow_29 : decode cX8_sideRow 29 = .ok (.if_icmp .ge 19, 3) := by decide +kernel
theorem dX8_sideRow_32 : decode cX8_sideRow 32 = .ok (.aload_n 2, 1) := by decide +kernel
theorem dX8_sideRow_33 : decode cX8_sideRow 33 = .ok (.iload_n 3, 1) := by decide +kernel
theorem dX8_sideRow_34 : decode cX8_sideRow 34 = .ok (.aload_n 0, 1) := by decide +kernel
theorem dX8_sideRow_35 : decode cX8_sideRow 35 = .ok (.getfield 26, 3) := by decide +kernel
theorem dX8_sideRow_38 : decode cX8_sideRow 38 = .ok (.iload_n 3, 1) := by decide +kernel
theorem dX8_sideRow_39 : decode cX8_sideRow 39 = .ok (.iaload, 1) := by decide +kernel
theorem dX8_sideRow_40 : decode cX8_sideRow 40 = .ok (.i2b, 1) := by decide +kernel
theorem dX8_sideRow_41 : decode cX8_sideRow 41 = .ok (.bastore, 1) := by decide +kernel
theorem dX8_sideRow_42 : decode cX8_sideRow 42 = .ok (.iinc 3 1, 3) := by decide +kernel
theorem dX8_sideRow_45 : decode cX8_sideRow 45 = .ok (.goto (-18), 3) := by decide +kernel
theorem dX8_sideRow_48 : decode cX8_sideRow 48 = .ok (.aload_n 2, 1) := by decide +kernel
theorem dX8_sideRow_49 : decode cX8_sideRow 49 = .ok (.areturn, 1) := by decide +kernel
theorem dX8_after_0 : decode cX8_after 0 = .ok (.iload_n 1, 1) := by decide +kernel
theorem dX8_after_1 : decode cX8_after 1 = .ok (.istore_n 3, 1) := by decide +kernel
theorem dX8_after_2 : decode cX8_after 2 = .ok (.iconst 0, 1) := by decide +kernel
theorem dX8_after_3 : decode cX8_after 3 = .ok (.istore 4, 2) := by decide +kernel
theorem dX8_after_5 : decode cX8_after 5 = .ok (.iload 4, 2) := by decide +kernel
theorem dX8_after_7 : decode cX8_after 7 = .ok (.aload_n 0, 1) := by decide +kernel
theorem dX8_after_8 : decode cX8_after 8 = .ok (.getfield 18, 3) := by decide +kernel
theorem dX8_after_11 : decode cX8_after 11 = .ok (.if_icmp .ge 51, 3) := by decide +kernel
theorem dX8_after_14 : decode cX8_after 14 = .ok (.iload 4, 2) := by decide +kernel
theorem dX8_after_16 : decode cX8_after 16 = .ok (.bipush 12, 2) := by decide +kernel
theorem dX8_after_18 : decode cX8_after 18 = .ok (.if_icmp .ge 44, 3) := by decide +kernel
theorem dX8_after_21 : decode cX8_after 21 = .ok (.aload_n 0, 1) := by decide +kernel
theorem dX8_after_22 : decode cX8_after 22 = .ok (.getfield 9, 3) := by decide +kernel
theorem dX8_after_25 : decode cX8_after 25 = .ok (.iload 4, 2) := by decide +kernel
theorem dX8_after_27 : decode cX8_after 27 = .ok (.iaload, 1) := by decide +kernel
theorem dX8_after_28 : decode cX8_after 28 = .ok (.iload_n 2, 1) := by decide +kernel
theorem dX8_after_29 : decode cX8_after 29 = .ok (.ishr, 1) := by decide +kernel
theorem dX8_after_30 : decode cX8_after 30 = .ok (.iconst 1, 1) := by decide +kernel
theorem dX8_after_31 : decode cX8_after 31 = .ok (.iand, 1) := by decide +kernel
theorem dX8_after_32 : decode cX8_after 32 = .ok (.ifCond .eq 24, 3) := by decide +kernel
theorem dX8_after_35 : decode cX8_after 35 = .ok (.aload_n 0, 1) := by decide +kernel
theorem dX8_after_36 : decode cX8_after 36 = .ok (.getfield 15, 3) := by decide +kernel
theorem dX8_after_39 : decode cX8_after 39 = .ok (.iload 4, 2) := by decide +kernel
theorem dX8_after_41 : decode cX8_after 41 = .ok (.iaload, 1) := by decide +kernel
theorem dX8_after_42 : decode cX8_after 42 = .ok (.iload_n 3, 1) := by decide +kernel
theorem dX8_after_43 : decode cX8_after 43 = .ok (.iconst (-1), 1) := by decide +kernel
theorem dX8_after_44 : decode cX8_after 44 = .ok (.ixor, 1) := by decide +kernel
theorem dX8_after_45 : decode cX8_after 45 = .ok (.iand, 1) := by decide +kernel
theorem dX8_after_46 : decode cX8_after 46 = .ok (.ifCond .ne 10, 3) := by decide +kernel
theorem dX8_after_49 : decode cX8_after 49 = .ok (.iload_n 3, 1) := by decide +kernel
theorem dX8_after_50 : decode cX8_after 50 = .ok (.iconst 1, 1) := by decide +kernel
theorem dX8_after_51 : decode cX8_after 51 = .ok (.iload 4, 2) := by decide +kernel
theorem dX8_after_53 : decode cX8_after 53 = .ok (.ishl, 1) := by decide +kernel
theorem dX8_after_54 : decode cX8_after 54 = .ok (.ior, 1) := by decide +kernel
theorem dX8_after_55 : decode cX8_after 55 = .ok (.istore_n 3, 1) := by decide +kernel
theorem dX8_after_56 : decode cX8_after 56 = .ok (.iinc 4 1, 3) := by decide +kernel
theorem dX8_after_59 : decode cX8_after 59 = .ok (.goto (-54), 3) := by decide +kernel
theorem dX8_after_62 : decode cX8_after 62 = .ok (.iload_n 3, 1) := by decide +kernel
theorem dX8_after_63 : decode cX8_after 63 = .ok (.ireturn, 1) := by decide +kernel
theorem dX8_markReached_0 : decode cX8_markReached 0 = .ok (.iconst 0, 1) := by decide +kernel
theorem dX8_markReached_1 : decode cX8_markReached 1 = .ok (.istore_n 2, 1) := by decide +kernel
theorem dX8_markReached_2 : decode cX8_markReached 2 = .ok (.iload_n 2, 1) := by decide +kernel
theorem dX8_markReached_3 : decode cX8_markReached 3 = .ok (.iload_n 1, 1) := by decide +kernel
theorem dX8_markReached_4 : decode cX8_markReached 4 = .ok (.if_icmp .gt 25, 3) := by decide +kernel
theorem dX8_markReached_7 : decode cX8_markReached 7 = .ok (.iload_n 2, 1) := by decide +kernel
theorem dX8_markReached_8 : decode cX8_markReached 8 = .ok (.aload_n 0, 1) := by decide +kernel
theorem dX8_markReached_9 : decode cX8_markReached 9 = .ok (.getfield 22, 3) := by decide +kernel
theorem dX8_markReached_12 : decode cX8_markReached 12 = .ok (.arraylength, 1) := by decide +kernel
theorem dX8_markReached_13 : decode cX8_markReached 13 = .ok (.if_icmp .ge 16, 3) := by decide +kernel
theorem dX8_markReached_16 : decode cX8_markReached 16 = .ok (.aload_n 0, 1) := by decide +kernel
theorem dX8_markReached_17 : decode cX8_markReached 17 = .ok (.getfield 22, 3) := by decide +kernel
theorem dX8_markReached_20 : decode cX8_markReached 20 = .ok (.iload_n 2, 1) := by decide +kernel
theorem dX8_markReached_21 : decode cX8_markReached 21 = .ok (.iconst 0, 1) := by decide +kernel
theorem dX8_markReached_22 : decode cX8_markReached 22 = .ok (.bastore, 1) := by decide +kernel
theorem dX8_markReached_23 : decode cX8_markReached 23 = .ok (.iinc 2 1, 3) := by decide +kernel
theorem dX8_markReached_26 : decode cX8_markReached 26 = .ok (.goto (-24), 3) := by decide +kernel
theorem dX8_markReached_29 : decode cX8_markReached 29 = .ok (.aload_n 0, 1) := by decide +kernel
theorem dX8_markReached_30 : decode cX8_markReached 30 = .ok (.getfield 22, 3) := by decide +kernel
theorem dX8_markReached_33 : decode cX8_markReached 33 = .ok (.iconst 0, 1) := by decide +kernel
theorem dX8_markReached_34 : decode cX8_markReached 34 = .ok (.iconst 1, 1) := by decide +kernel
theorem dX8_markReached_35 : decode cX8_markReached 35 = .ok (.bastore, 1) := by decide +kernel
theorem dX8_markReached_36 : decode cX8_markReached 36 = .ok (.iconst 0, 1) := by decide +kernel
theorem dX8_markReached_37 : decode cX8_markReached 37 = .ok (.istore_n 2, 1) := by decide +kernel
theorem dX8_markReached_38 : decode cX8_markReached 38 = .ok (.iload_n 2, 1) := by decide +kernel
theorem dX8_markReached_39 : decode cX8_markReached 39 = .ok (.iload_n 1, 1) := by decide +kernel
theorem dX8_markReached_40 : decode cX8_markReached 40 = .ok (.if_icmp .ge 75, 3) := by decide +kernel
theorem dX8_markReached_43 : decode cX8_markReached 43 = .ok (.iload_n 2, 1) := by decide +kernel
theorem dX8_markReached_44 : decode cX8_markReached 44 = .ok (.aload_n 0, 1) := by decide +kernel
theorem dX8_markReached_45 : decode cX8_markReached 45 = .ok (.getfield 22, 3) := by decide +kernel
theorem dX8_markReached_48 : decode cX8_markReached 48 = .ok (.arraylength, 1) := by decide +kernel
theorem dX8_markReached_49 : decode cX8_markReached 49 = .ok (.if_icmp .ge 66, 3) := by decide +kernel
theorem dX8_markReached_52 : decode cX8_markReached 52 = .ok (.aload_n 0, 1) := by decide +kernel
theorem dX8_markReached_53 : decode cX8_markReached 53 = .ok (.getfield 22, 3) := by decide +kernel
theorem dX8_markReached_56 : decode cX8_markReached 56 = .ok (.iload_n 2, 1) := by decide +kernel
theorem dX8_markReached_57 : decode cX8_markReached 57 = .ok (.baload, 1) := by decide +kernel
theorem dX8_markReached_58 : decode cX8_markReached 58 = .ok (.ifCond .ne 6, 3) := by decide +kernel
theorem dX8_markReached_61 : decode cX8_markReached 61 = .ok (.goto 48, 3) := by decide +kernel
theorem dX8_markReached_64 : decode cX8_markReached 64 = .ok (.iconst 0, 1) := by decide +kernel
theorem dX8_markReached_65 : decode cX8_markReached 65 = .ok (.istore_n 3, 1) := by decide +kernel
theorem dX8_markReached_66 : decode cX8_markReached 66 = .ok (.iload_n 3, 1) := by decide +kernel
theorem dX8_markReached_67 : decode cX8_markReached 67 = .ok (.bipush 6, 2) := by decide +kernel
theorem dX8_markReached_69 : decode cX8_markReached 69 = .ok (.if_icmp .ge 40, 3) := by decide +kernel
theorem dX8_markReached_72 : decode cX8_markReached 72 = .ok (.aload_n 0, 1) := by decide +kernel
theorem dX8_markReached_73 : decode cX8_markReached 73 = .ok (.iload_n 2, 1) := by decide +kernel
theorem dX8_markReached_74 : decode cX8_markReached 74 = .ok (.iload_n 3, 1) := by decide +kernel
theorem dX8_markReached_75 : decode cX8_markReached 75 = .ok (.invokevirtual 39, 3) := by decide +kernel
theorem dX8_markReached_78 : decode cX8_markReached 78 = .ok (.istore 4, 2) := by decide +kernel
theorem dX8_markReached_80 : decode cX8_markReached 80 = .ok (.iload 4, 2) := by decide +kernel
theorem dX8_markReached_82 : decode cX8_markReached 82 = .ok (.ifCond .lt 21, 3) := by decide +kernel
theorem dX8_markReached_85 : decode cX8_markReached 85 = .ok (.iload 4, 2) := by decide +kernel
theorem dX8_markReached_87 : decode cX8_markReached 87 = .ok (.aload_n 0, 1) := by decide +kernel
theorem dX8_markReached_88 : decode cX8_markReached 88 = .ok (.getfield 22, 3) := by decide +kernel
theorem dX8_markReached_91 : decode cX8_markReached 91 = .ok (.arraylength, 1) := by decide +kernel
theorem dX8_markReached_92 : decode cX8_markReached 92 = .ok (.if_icmp .ge 11, 3) := by decide +kernel
theorem dX8_markReached_95 : decode cX8_markReached 95 = .ok (.aload_n 0, 1) := by decide +kernel
theorem dX8_markReached_96 : decode cX8_markReached 96 = .ok (.getfield 22, 3) := by decide +kernel
theorem dX8_markReached_99 : decode cX8_markReached 99 = .ok (.iload 4, 2) := by decide +kernel
theorem dX8_markReached_101 : decode cX8_markReached 101 = .ok (.iconst 1, 1) := by decide +kernel
theorem dX8_markReached_102 : decode cX8_markReached 102 = .ok (.bastore, 1) := by decide +kernel
theorem dX8_markReached_103 : decode cX8_markReached 103 = .ok (.iinc 3 1, 3) := by decide +kernel
theorem dX8_markReached_106 : decode cX8_markReached 106 = .ok (.goto (-40), 3) := by decide +kernel
theorem dX8_markReached_109 : decode cX8_markReached 109 = .ok (.iinc 2 1, 3) := by decide +kernel
theorem dX8_markReached_112 : decode cX8_markReached 112 = .ok (.goto (-74), 3) := by decide +kernel
theorem dX8_markReached_115 : decode cX8_markReached 115 = .ok (.return_, 1) := by decide +kernel
theorem dX8_countToGo_0 : decode cX8_countToGo 0 = .ok (.iload_n 1, 1) := by decide +kernel
theorem dX8_countToGo_1 : decode cX8_countToGo 1 = .ok (.aload_n 0, 1) := by decide +kernel
theorem dX8_countToGo_2 : decode cX8_countToGo 2 = .ok (.getfield 22, 3) := by decide +kernel
theorem dX8_countToGo_5 : decode cX8_countToGo 5 = .ok (.arraylength, 1) := by decide +kernel
theorem dX8_countToGo_6 : decode cX8_countToGo 6 = .ok (.invokestatic 53, 3) := by decide +kernel
theorem dX8_countToGo_9 : decode cX8_countToGo 9 = .ok (.iconst 1, 1) := by decide +kernel
theorem dX8_countToGo_10 : decode cX8_countToGo 10 = .ok (.isub, 1) := by decide +kernel
theorem dX8_countToGo_11 : decode cX8_countToGo 11 = .ok (.istore_n 2, 1) := by decide +kernel
theorem dX8_countToGo_12 : decode cX8_countToGo 12 = .ok (.iload_n 2, 1) := by decide +kernel
theorem dX8_countToGo_13 : decode cX8_countToGo 13 = .ok (.ifCond .lt 32, 3) := by decide +kernel
theorem dX8_countToGo_16 : decode cX8_countToGo 16 = .ok (.aload_n 0, 1) := by decide +kernel
theorem dX8_countToGo_17 : decode cX8_countToGo 17 = .ok (.getfield 22, 3) := by decide +kernel
theorem dX8_countToGo_20 : decode cX8_countToGo 20 = .ok (.iload_n 2, 1) := by decide +kernel
theorem dX8_countToGo_21 : decode cX8_countToGo 21 = .ok (.baload, 1) := by decide +kernel
theorem dX8_countToGo_22 : decode cX8_countToGo 22 = .ok (.ifCond .eq 17, 3) := by decide +kernel
theorem dX8_countToGo_25 : decode cX8_countToGo 25 = .ok (.aload_n 0, 1) := by decide +kernel
theorem dX8_countToGo_26 : decode cX8_countToGo 26 = .ok (.getfield 22, 3) := by decide +kernel
theorem dX8_countToGo_29 : decode cX8_countToGo 29 = .ok (.iload_n 2, 1) := by decide +kernel
theorem dX8_countToGo_30 : decode cX8_countToGo 30 = .ok (.iconst 1, 1) := by decide +kernel
theorem dX8_countToGo_31 : decode cX8_countToGo 31 = .ok (.aload_n 0, 1) := by decide +kernel
theorem dX8_countToGo_32 : decode cX8_countToGo 32 = .ok (.iload_n 2, 1) := by decide +kernel
theorem dX8_countToGo_33 : decode cX8_countToGo 33 = .ok (.invokevirtual 58, 3) := by decide +kernel
theorem dX8_countToGo_36 : decode cX8_countToGo 36 = .ok (.iadd, 1) := by decide +kernel
theorem dX8_countToGo_37 : decode cX8_countToGo 37 = .ok (.i2b, 1) := by decide +kernel
theorem dX8_countToGo_38 : decode cX8_countToGo 38 = .ok (.bastore, 1) := by decide +kernel
theorem dX8_countToGo_39 : decode cX8_countToGo 39 = .ok (.iinc 2 (-1), 3) := by decide +kernel
theorem dX8_countToGo_42 : decode cX8_countToGo 42 = .ok (.goto (-30), 3) := by decide +kernel
theorem dX8_countToGo_45 : decode cX8_countToGo 45 = .ok (.return_, 1) := by decide +kernel
theorem dX8_leastBehind_0 : decode cX8_leastBehind 0 = .ok (.bipush 13, 2) := by decide +kernel
theorem dX8_leastBehind_2 : decode cX8_leastBehind 2 = .ok (.istore_n 2, 1) := by decide +kernel
theorem dX8_leastBehind_3 : decode cX8_leastBehind 3 = .ok (.iconst 0, 1) := by decide +kernel
theorem dX8_leastBehind_4 : decode cX8_leastBehind 4 = .ok (.istore_n 3, 1) := by decide +kernel
theorem dX8_leastBehind_5 : decode cX8_leastBehind 5 = .ok (.iload_n 3, 1) := by decide +kernel
theorem dX8_leastBehind_6 : decode cX8_leastBehind 6 = .ok (.bipush 6, 2) := by decide +kernel
theorem dX8_leastBehind_8 : decode cX8_leastBehind 8 = .ok (.if_icmp .ge 45, 3) := by decide +kernel
theorem dX8_leastBehind_11 : decode cX8_leastBehind 11 = .ok (.aload_n 0, 1) := by decide +kernel
theorem dX8_leastBehind_12 : decode cX8_leastBehind 12 = .ok (.iload_n 1, 1) := by decide +kernel
theorem dX8_leastBehind_13 : decode cX8_leastBehind 13 = .ok (.iload_n 3, 1) := by decide +kernel
theorem dX8_leastBehind_14 : decode cX8_leastBehind 14 = .ok (.invokevirtual 39, 3) := by decide +kernel
theorem dX8_leastBehind_17 : decode cX8_leastBehind 17 = .ok (.istore 4, 2) := by decide +kernel
theorem dX8_leastBehind_19 : decode cX8_leastBehind 19 = .ok (.iload 4, 2) := by decide +kernel
theorem dX8_leastBehind_21 : decode cX8_leastBehind 21 = .ok (.iload_n 1, 1) := by decide +kernel
theorem dX8_leastBehind_22 : decode cX8_leastBehind 22 = .ok (.if_icmp .le 25, 3) := by decide +kernel
theorem dX8_leastBehind_25 : decode cX8_leastBehind 25 = .ok (.iload 4, 2) := by decide +kernel
theorem dX8_leastBehind_27 : decode cX8_leastBehind 27 = .ok (.aload_n 0, 1) := by decide +kernel
theorem dX8_leastBehind_28 : decode cX8_leastBehind 28 = .ok (.getfield 22, 3) := by decide +kernel
theorem dX8_leastBehind_31 : decode cX8_leastBehind 31 = .ok (.arraylength, 1) := by decide +kernel
theorem dX8_leastBehind_32 : decode cX8_leastBehind 32 = .ok (.if_icmp .ge 15, 3) := by decide +kernel
theorem dX8_leastBehind_35 : decode cX8_leastBehind 35 = .ok (.iload_n 2, 1) := by decide +kernel
theorem dX8_leastBehind_36 : decode cX8_leastBehind 36 = .ok (.aload_n 0, 1) := by decide +kernel
theorem dX8_leastBehind_37 : decode cX8_leastBehind 37 = .ok (.getfield 22, 3) := by decide +kernel
theorem dX8_leastBehind_40 : decode cX8_leastBehind 40 = .ok (.iload 4, 2) := by decide +kernel
theorem dX8_leastBehind_42 : decode cX8_leastBehind 42 = .ok (.baload, 1) := by decide +kernel
theorem dX8_leastBehind_43 : decode cX8_leastBehind 43 = .ok (.invokestatic 53, 3) := by decide +kernel
theorem dX8_leastBehind_46 : decode cX8_leastBehind 46 = .ok (.istore_n 2, 1) := by decide +kernel
theorem dX8_leastBehind_47 : decode cX8_leastBehind 47 = .ok (.iinc 3 1, 3) := by decide +kernel
theorem dX8_leastBehind_50 : decode cX8_leastBehind 50 = .ok (.goto (-45), 3) := by decide +kernel
theorem dX8_leastBehind_53 : decode cX8_leastBehind 53 = .ok (.iload_n 2, 1) := by decide +kernel
theorem dX8_leastBehind_54 : decode cX8_leastBehind 54 = .ok (.ireturn, 1) := by decide +kernel
theorem dX8_writeRow_0 : decode cX8_writeRow 0 = .ok (.iconst 0, 1) := by decide +kernel
theorem dX8_writeRow_1 : decode cX8_writeRow 1 = .ok (.istore_n 2, 1) := by decide +kernel
theorem dX8_writeRow_2 : decode cX8_writeRow 2 = .ok (.iconst 0, 1) := by decide +kernel
theorem dX8_writeRow_3 : decode cX8_writeRow 3 = .ok (.istore_n 3, 1) := by decide +kernel
theorem dX8_writeRow_4 : decode cX8_writeRow 4 = .ok (.iconst 0, 1) := by decide +kernel
theorem dX8_writeRow_5 : decode cX8_writeRow 5 = .ok (.istore 4, 2) := by decide +kernel
theorem dX8_writeRow_7 : decode cX8_writeRow 7 = .ok (.iload 4, 2) := by decide +kernel
theorem dX8_writeRow_9 : decode cX8_writeRow 9 = .ok (.bipush 12, 2) := by decide +kernel
theorem dX8_writeRow_11 : decode cX8_writeRow 11 = .ok (.if_icmp .ge 58, 3) := by decide +kernel
theorem dX8_writeRow_14 : decode cX8_writeRow 14 = .ok (.iload_n 2, 1) := by decide +kernel
theorem dX8_writeRow_15 : decode cX8_writeRow 15 = .ok (.iload_n 1, 1) := by decide +kernel
theorem dX8_writeRow_16 : decode cX8_writeRow 16 = .ok (.if_icmp .eq 53, 3) := by decide +kernel
theorem dX8_writeRow_19 : decode cX8_writeRow 19 = .ok (.aload_n 0, 1) := by decide +kernel
theorem dX8_writeRow_20 : decode cX8_writeRow 20 = .ok (.iload_n 2, 1) := by decide +kernel
theorem dX8_writeRow_21 : decode cX8_writeRow 21 = .ok (.invokevirtual 62, 3) := by decide +kernel
theorem dX8_writeRow_24 : decode cX8_writeRow 24 = .ok (.istore 5, 2) := by decide +kernel
theorem dX8_writeRow_26 : decode cX8_writeRow 26 = .ok (.aload_n 0, 1) := by decide +kernel
theorem dX8_writeRow_27 : decode cX8_writeRow 27 = .ok (.iload_n 2, 1) := by decide +kernel
theorem dX8_writeRow_28 : decode cX8_writeRow 28 = .ok (.iload 5, 2) := by decide +kernel
theorem dX8_writeRow_30 : decode cX8_writeRow 30 = .ok (.invokevirtual 39, 3) := by decide +kernel
theorem dX8_writeRow_33 : decode cX8_writeRow 33 = .ok (.istore 6, 2) := by decide +kernel
theorem dX8_writeRow_35 : decode cX8_writeRow 35 = .ok (.aload_n 0, 1) := by decide +kernel
theorem dX8_writeRow_36 : decode cX8_writeRow 36 = .ok (.getfield 26, 3) := by decide +kernel
theorem dX8_writeRow_39 : decode cX8_writeRow 39 = .ok (.iload 4, 2) := by decide +kernel
theorem dX8_writeRow_41 : decode cX8_writeRow 41 = .ok (.iload 5, 2) := by decide +kernel
theorem dX8_writeRow_43 : decode cX8_writeRow 43 = .ok (.iastore, 1) := by decide +kernel
theorem dX8_writeRow_44 : decode cX8_writeRow 44 = .ok (.aload_n 0, 1) := by decide +kernel
theorem dX8_writeRow_45 : decode cX8_writeRow 45 = .ok (.getfield 29, 3) := by decide +kernel
theorem dX8_writeRow_48 : decode cX8_writeRow 48 = .ok (.iload 4, 2) := by decide +kernel
theorem dX8_writeRow_50 : decode cX8_writeRow 50 = .ok (.iload 6, 2) := by decide +kernel
theorem dX8_writeRow_52 : decode cX8_writeRow 52 = .ok (.iload_n 2, 1) := by decide +kernel
theorem dX8_writeRow_53 : decode cX8_writeRow 53 = .ok (.iconst (-1), 1) := by decide +kernel
theorem dX8_writeRow_54 : decode cX8_writeRow 54 = .ok (.ixor, 1) := by decide +kernel
theorem dX8_writeRow_55 : decode cX8_writeRow 55 = .ok (.iand, 1) := by decide +kernel
theorem dX8_writeRow_56 : decode cX8_writeRow 56 = .ok (.iastore, 1) := by decide +kernel
theorem dX8_writeRow_57 : decode cX8_writeRow 57 = .ok (.iload 6, 2) := by decide +kernel
theorem dX8_writeRow_59 : decode cX8_writeRow 59 = .ok (.istore_n 2, 1) := by decide +kernel
theorem dX8_writeRow_60 : decode cX8_writeRow 60 = .ok (.iinc 3 1, 3) := by decide +kernel
theorem dX8_writeRow_63 : decode cX8_writeRow 63 = .ok (.iinc 4 1, 3) := by decide +kernel
theorem dX8_writeRow_66 : decode cX8_writeRow 66 = .ok (.goto (-59), 3) := by decide +kernel
theorem dX8_writeRow_69 : decode cX8_writeRow 69 = .ok (.aload_n 0, 1) := by decide +kernel
theorem dX8_writeRow_70 : decode cX8_writeRow 70 = .ok (.iload_n 3, 1) := by decide +kernel
theorem dX8_writeRow_71 : decode cX8_writeRow 71 = .ok (.putfield 32, 3) := by decide +kernel
theorem dX8_writeRow_74 : decode cX8_writeRow 74 = .ok (.return_, 1) := by decide +kernel
theorem dX8_firstSideOnward_0 : decode cX8_firstSideOnward 0 = .ok (.aload_n 0, 1) := by decide +kernel
theorem dX8_firstSideOnward_1 : decode cX8_firstSideOnward 1 = .ok (.iload_n 1, 1) := by decide +kernel
theorem dX8_firstSideOnward_2 : decode cX8_firstSideOnward 2 = .ok (.invokevirtual 58, 3) := by decide +kernel
theorem dX8_firstSideOnward_5 : decode cX8_firstSideOnward 5 = .ok (.istore_n 2, 1) := by decide +kernel
theorem dX8_firstSideOnward_6 : decode cX8_firstSideOnward 6 = .ok (.iconst 0, 1) := by decide +kernel
theorem dX8_firstSideOnward_7 : decode cX8_firstSideOnward 7 = .ok (.istore_n 3, 1) := by decide +kernel
theorem dX8_firstSideOnward_8 : decode cX8_firstSideOnward 8 = .ok (.iload_n 3, 1) := by decide +kernel
theorem dX8_firstSideOnward_9 : decode cX8_firstSideOnward 9 = .ok (.bipush 6, 2) := by decide +kernel
theorem dX8_firstSideOnward_11 : decode cX8_firstSideOnward 11 = .ok (.if_icmp .ge 46, 3) := by decide +kernel
theorem dX8_firstSideOnward_14 : decode cX8_firstSideOnward 14 = .ok (.aload_n 0, 1) := by decide +kernel
theorem dX8_firstSideOnward_15 : decode cX8_firstSideOnward 15 = .ok (.iload_n 1, 1) := by decide +kernel
theorem dX8_firstSideOnward_16 : decode cX8_firstSideOnward 16 = .ok (.iload_n 3, 1) := by decide +kernel
theorem dX8_firstSideOnward_17 : decode cX8_firstSideOnward 17 = .ok (.invokevirtual 39, 3) := by decide +kernel
theorem dX8_firstSideOnward_20 : decode cX8_firstSideOnward 20 = .ok (.istore 4, 2) := by decide +kernel
theorem dX8_firstSideOnward_22 : decode cX8_firstSideOnward 22 = .ok (.iload 4, 2) := by decide +kernel
theorem dX8_firstSideOnward_24 : decode cX8_firstSideOnward 24 = .ok (.iload_n 1, 1) := by decide +kernel
theorem dX8_firstSideOnward_25 : decode cX8_firstSideOnward 25 = .ok (.if_icmp .le 26, 3) := by decide +kernel
theorem dX8_firstSideOnward_28 : decode cX8_firstSideOnward 28 = .ok (.iload 4, 2) := by decide +kernel
theorem dX8_firstSideOnward_30 : decode cX8_firstSideOnward 30 = .ok (.aload_n 0, 1) := by decide +kernel
theorem dX8_firstSideOnward_31 : decode cX8_firstSideOnward 31 = .ok (.getfield 22, 3) := by decide +kernel
theorem dX8_firstSideOnward_34 : decode cX8_firstSideOnward 34 = .ok (.arraylength, 1) := by decide +kernel
theorem dX8_firstSideOnward_35 : decode cX8_firstSideOnward 35 = .ok (.if_icmp .ge 16, 3) := by decide +kernel
theorem dX8_firstSideOnward_38 : decode cX8_firstSideOnward 38 = .ok (.aload_n 0, 1) := by decide +kernel
theorem dX8_firstSideOnward_39 : decode cX8_firstSideOnward 39 = .ok (.getfield 22, 3) := by decide +kernel
theorem dX8_firstSideOnward_42 : decode cX8_firstSideOnward 42 = .ok (.iload 4, 2) := by decide +kernel
theorem dX8_firstSideOnward_44 : decode cX8_firstSideOnward 44 = .ok (.baload, 1) := by decide +kernel
theorem dX8_firstSideOnward_45 : decode cX8_firstSideOnward 45 = .ok (.iload_n 2, 1) := by decide +kernel
theorem dX8_firstSideOnward_46 : decode cX8_firstSideOnward 46 = .ok (.if_icmp .ne 5, 3) := by decide +kernel
theorem dX8_firstSideOnward_49 : decode cX8_firstSideOnward 49 = .ok (.iload_n 3, 1) := by decide +kernel
theorem dX8_firstSideOnward_50 : decode cX8_firstSideOnward 50 = .ok (.ireturn, 1) := by decide +kernel
theorem dX8_firstSideOnward_51 : decode cX8_firstSideOnward 51 = .ok (.iinc 3 1, 3) := by decide +kernel
theorem dX8_firstSideOnward_54 : decode cX8_firstSideOnward 54 = .ok (.goto (-46), 3) := by decide +kernel
theorem dX8_firstSideOnward_57 : decode cX8_firstSideOnward 57 = .ok (.iconst 0, 1) := by decide +kernel
theorem dX8_firstSideOnward_58 : decode cX8_firstSideOnward 58 = .ok (.ireturn, 1) := by decide +kernel
theorem dX9_init_0 : decode cX9_init 0 = .ok (.aload_n 0, 1) := by decide +kernel
theorem dX9_init_1 : decode cX9_init 1 = .ok (.invokespecial 1, 3) := by decide +kernel
theorem dX9_init_4 : decode cX9_init 4 = .ok (.aload_n 0, 1) := by decide +kernel
theorem dX9_init_5 : decode cX9_init 5 = .ok (.aconst_null, 1) := by decide +kernel
theorem dX9_init_6 : decode cX9_init 6 = .ok (.putfield 7, 3) := by decide +kernel
theorem dX9_init_9 : decode cX9_init 9 = .ok (.aload_n 0, 1) := by decide +kernel
theorem dX9_init_10 : decode cX9_init 10 = .ok (.aconst_null, 1) := by decide +kernel
theorem dX9_init_11 : decode cX9_init 11 = .ok (.putfield 13, 3) := by decide +kernel
theorem dX9_init_14 : decode cX9_init 14 = .ok (.aload_n 0, 1) := by decide +kernel
theorem dX9_init_15 : decode cX9_init 15 = .ok (.aconst_null, 1) := by decide +kernel
theorem dX9_init_16 : decode cX9_init 16 = .ok (.putfield 17, 3) := by decide +kernel
theorem dX9_init_19 : decode cX9_init 19 = .ok (.return_, 1) := by decide +kernel
theorem dX9_clear_0 : decode cX9_clear 0 = .ok (.aload_n 0, 1) := by decide +kernel
theorem dX9_clear_1 : decode cX9_clear 1 = .ok (.aconst_null, 1) := by decide +kernel
theorem dX9_clear_2 : decode cX9_clear 2 = .ok (.putfield 7, 3) := by decide +kernel
theorem dX9_clear_5 : decode cX9_clear 5 = .ok (.aload_n 0, 1) := by decide +kernel
theorem dX9_clear_6 : decode cX9_clear 6 = .ok (.aconst_null, 1) := by decide +kernel
theorem dX9_clear_7 : decode cX9_clear 7 = .ok (.putfield 13, 3) := by decide +kernel
theorem dX9_clear_10 : decode cX9_clear 10 = .ok (.aload_n 0, 1) := by decide +kernel
theorem dX9_clear_11 : decode cX9_clear 11 = .ok (.aconst_null, 1) := by decide +kernel
theorem dX9_clear_12 : decode cX9_clear 12 = .ok (.putfield 17, 3) := by decide +kernel
theorem dX9_clear_15 : decode cX9_clear 15 = .ok (.return_, 1) := by decide +kernel
theorem dX9_take_0 : decode cX9_take 0 = .ok (.aload_n 0, 1) := by decide +kernel
theorem dX9_take_1 : decode cX9_take 1 = .ok (.invokevirtual 21, 3) := by decide +kernel
theorem dX9_take_4 : decode cX9_take 4 = .ok (.aload_n 0, 1) := by decide +kernel
theorem dX9_take_5 : decode cX9_take 5 = .ok (.aload_n 1, 1) := by decide +kernel
theorem dX9_take_6 : decode cX9_take 6 = .ok (.putfield 7, 3) := by decide +kernel
theorem dX9_take_9 : decode cX9_take 9 = .ok (.return_, 1) := by decide +kernel
theorem dX9_takeInts_0 : decode cX9_takeInts 0 = .ok (.aload_n 0, 1) := by decide +kernel
theorem dX9_takeInts_1 : decode cX9_takeInts 1 = .ok (.invokevirtual 21, 3) := by decide +kernel
theorem dX9_takeInts_4 : decode cX9_takeInts 4 = .ok (.aload_n 0, 1) := by decide +kernel
theorem dX9_takeInts_5 : decode cX9_takeInts 5 = .ok (.aload_n 1, 1) := by decide +kernel
theorem dX9_takeInts_6 : decode cX9_takeInts 6 = .ok (.putfield 13, 3) := by decide +kernel
theorem dX9_takeInts_9 : decode cX9_takeInts 9 = .ok (.return_, 1) := by decide +kernel
theorem dX9_takeBytes_0 : decode cX9_takeBytes 0 = .ok (.aload_n 0, 1) := by decide +kernel
theorem dX9_takeBytes_1 : decode cX9_takeBytes 1 = .ok (.invokevirtual 21, 3) := by decide +kernel
theorem dX9_takeBytes_4 : decode cX9_takeBytes 4 = .ok (.aload_n 0, 1) := by decide +kernel
theorem dX9_takeBytes_5 : decode cX9_takeBytes 5 = .ok (.aload_n 1, 1) := by decide +kernel
theorem dX9_takeBytes_6 : decode cX9_takeBytes 6 = .ok (.putfield 17, 3) := by decide +kernel
theorem dX9_takeBytes_9 : decode cX9_takeBytes 9 = .ok (.return_, 1) := by decide +kernel
theorem dX9_isBare_0 : decode cX9_isBare 0 = .ok (.aload_n 0, 1) := by decide +kernel
theorem dX9_isBare_1 : decode cX9_isBare 1 = .ok (.getfield 7, 3) := by decide +kernel
theorem dX9_isBare_4 : decode cX9_isBare 4 = .ok (.ifnonnull 21, 3) := by decide +kernel
theorem dX9_isBare_7 : decode cX9_isBare 7 = .ok (.aload_n 0, 1) := by decide +kernel
theorem dX9_isBare_8 : decode cX9_isBare 8 = .ok (.getfield 13, 3) := by decide +kernel
theorem dX9_isBare_11 : decode cX9_isBare 11 = .ok (.ifnonnull 14, 3) := by decide +kernel
theorem dX9_isBare_14 : decode cX9_isBare 14 = .ok (.aload_n 0, 1) := by decide +kernel
theorem dX9_isBare_15 : decode cX9_isBare 15 = .ok (.getfield 17, 3) := by decide +kernel
theorem dX9_isBare_18 : decode cX9_isBare 18 = .ok (.ifnonnull 7, 3) := by decide +kernel
theorem dX9_isBare_21 : decode cX9_isBare 21 = .ok (.iconst 1, 1) := by decide +kernel
theorem dX9_isBare_22 : decode cX9_isBare 22 = .ok (.goto 4, 3) := by decide +kernel
theorem dX9_isBare_25 : decode cX9_isBare 25 = .ok (.iconst 0, 1) := by decide +kernel
theorem dX9_isBare_26 : decode cX9_isBare 26 = .ok (.ireturn, 1) := by decide +kernel
theorem dX9_isRowLike_0 : decode cX9_isRowLike 0 = .ok (.aload_n 0, 1) := by decide +kernel
theorem dX9_isRowLike_1 : decode cX9_isRowLike 1 = .ok (.getfield 13, 3) := by decide +kernel
theorem dX9_isRowLike_4 : decode cX9_isRowLike 4 = .ok (.ifnull 10, 3) := by decide +kernel
theorem dX9_isRowLike_7 : decode cX9_isRowLike 7 = .ok (.aload_n 1, 1) := by decide +kernel
theorem dX9_isRowLike_8 : decode cX9_isRowLike 8 = .ok (.getfield 13, 3) := by decide +kernel
theorem dX9_isRowLike_11 : decode cX9_isRowLike 11 = .ok (.ifnonnull 17, 3) := by decide +kernel
theorem dX9_isRowLike_14 : decode cX9_isRowLike 14 = .ok (.aload_n 0, 1) := by decide +kernel
theorem dX9_isRowLike_15 : decode cX9_isRowLike 15 = .ok (.getfield 17, 3) := by decide +kernel
theorem dX9_isRowLike_18 : decode cX9_isRowLike 18 = .ok (.ifnull 14, 3) := by decide +kernel
theorem dX9_isRowLike_21 : decode cX9_isRowLike 21 = .ok (.aload_n 1, 1) := by decide +kernel
theorem dX9_isRowLike_22 : decode cX9_isRowLike 22 = .ok (.getfield 17, 3) := by decide +kernel
theorem dX9_isRowLike_25 : decode cX9_isRowLike 25 = .ok (.ifnull 7, 3) := by decide +kernel
theorem dX9_isRowLike_28 : decode cX9_isRowLike 28 = .ok (.iconst 1, 1) := by decide +kernel
theorem dX9_isRowLike_29 : decode cX9_isRowLike 29 = .ok (.goto 4, 3) := by decide +kernel
theorem dX9_isRowLike_32 : decode cX9_isRowLike 32 = .ok (.iconst 0, 1) := by decide +kernel
theorem dX9_isRowLike_33 : decode cX9_isRowLike 33 = .ok (.ireturn, 1) := by decide +kernel
theorem dX9_hasPlaces_0 : decode cX9_hasPlaces 0 = .ok (.aload_n 0, 1) := by decide +kernel
theorem dX9_hasPlaces_1 : decode cX9_hasPlaces 1 = .ok (.getfield 13, 3) := by decide +kernel
theorem dX9_hasPlaces_4 : decode cX9_hasPlaces 4 = .ok (.ifnull 11, 3) := by decide +kernel
theorem dX9_hasPlaces_7 : decode cX9_hasPlaces 7 = .ok (.aload_n 0, 1) := by decide +kernel
theorem dX9_hasPlaces_8 : decode cX9_hasPlaces 8 = .ok (.getfield 13, 3) := by decide +kernel
theorem dX9_hasPlaces_11 : decode cX9_hasPlaces 11 = .ok (.arraylength, 1) := by decide +kernel
theorem dX9_hasPlaces_12 : decode cX9_hasPlaces 12 = .ok (.goto 19, 3) := by decide +kernel
theorem dX9_hasPlaces_15 : decode cX9_hasPlaces 15 = .ok (.aload_n 0, 1) := by decide +kernel
theorem dX9_hasPlaces_16 : decode cX9_hasPlaces 16 = .ok (.getfield 17, 3) := by decide +kernel
theorem dX9_hasPlaces_19 : decode cX9_hasPlaces 19 = .ok (.ifnull 11, 3) := by decide +kernel
theorem dX9_hasPlaces_22 : decode cX9_hasPlaces 22 = .ok (.aload_n 0, 1) := by decide +kernel
theorem dX9_hasPlaces_23 : decode cX9_hasPlaces 23 = .ok (.getfield 17, 3) := by decide +kernel
theorem dX9_hasPlaces_26 : decode cX9_hasPlaces 26 = .ok (.arraylength, 1) := by decide +kernel
theorem dX9_hasPlaces_27 : decode cX9_hasPlaces 27 = .ok (.goto 4, 3) := by decide +kernel
theorem dX9_hasPlaces_30 : decode cX9_hasPlaces 30 = .ok (.iconst 0, 1) := by decide +kernel
theorem dX9_hasPlaces_31 : decode cX9_hasPlaces 31 = .ok (.istore_n 3, 1) := by decide +kernel
theorem dX9_hasPlaces_32 : decode cX9_hasPlaces 32 = .ok (.iload_n 1, 1) := by decide +kernel
theorem dX9_hasPlaces_33 : decode cX9_hasPlaces 33 = .ok (.ifCond .lt 23, 3) := by decide +kernel
theorem dX9_hasPlaces_36 : decode cX9_hasPlaces 36 = .ok (.iload_n 2, 1) := by decide +kernel
theorem dX9_hasPlaces_37 : decode cX9_hasPlaces 37 = .ok (.ifCond .lt 19, 3) := by decide +kernel
theorem dX9_hasPlaces_40 : decode cX9_hasPlaces 40 = .ok (.iload_n 2, 1) := by decide +kernel
theorem dX9_hasPlaces_41 : decode cX9_hasPlaces 41 = .ok (.iload_n 3, 1) := by decide +kernel
theorem dX9_hasPlaces_42 : decode cX9_hasPlaces 42 = .ok (.if_icmp .gt 14, 3) := by decide +kernel
theorem dX9_hasPlaces_45 : decode cX9_hasPlaces 45 = .ok (.iload_n 1, 1) := by decide +kernel
theorem dX9_hasPlaces_46 : decode cX9_hasPlaces 46 = .ok (.iload_n 3, 1) := by decide +kernel
theorem dX9_hasPlaces_47 : decode cX9_hasPlaces 47 = .ok (.iload_n 2, 1) := by decide +kernel
theorem dX9_hasPlaces_48 : decode cX9_hasPlaces 48 = .ok (.isub, 1) := by decide +kernel
theorem dX9_hasPlaces_49 : decode cX9_hasPlaces 49 = .ok (.if_icmp .gt 7, 3) := by decide +kernel
theorem dX9_hasPlaces_52 : decode cX9_hasPlaces 52 = .ok (.iconst 1, 1) := by decide +kernel
theorem dX9_hasPlaces_53 : decode cX9_hasPlaces 53 = .ok (.goto 4, 3) := by decide +kernel
theorem dX9_hasPlaces_56 : decode cX9_hasPlaces 56 = .ok (.iconst 0, 1) := by decide +kernel
theorem dX9_hasPlaces_57 : decode cX9_hasPlaces 57 = .ok (.ireturn, 1) := by decide +kernel
theorem dX9_valueAt_0 : decode cX9_valueAt 0 = .ok (.aload_n 0, 1) := by decide +kernel
theorem dX9_valueAt_1 : decode cX9_valueAt 1 = .ok (.iload_n 1, 1) := by decide +kernel
theorem dX9_valueAt_2 : decode cX9_valueAt 2 = .ok (.iconst 1, 1) := by decide +kernel
theorem dX9_valueAt_3 : decode cX9_valueAt 3 = .ok (.invokevirtual 24, 3) := by decide +kernel
theorem dX9_valueAt_6 : decode cX9_valueAt 6 = .ok (.ifCond .ne 5, 3) := by decide +kernel
theorem dX9_valueAt_9 : decode cX9_valueAt 9 = .ok (.lconst 0, 1) := by decide +kernel
theorem dX9_valueAt_10 : decode cX9_valueAt 10 = .ok (.lreturn, 1) := by decide +kernel
theorem dX9_valueAt_11 : decode cX9_valueAt 11 = .ok (.aload_n 0, 1) := by decide +kernel
theorem dX9_valueAt_12 : decode cX9_valueAt 12 = .ok (.getfield 13, 3) := by decide +kernel
theorem dX9_valueAt_15 : decode cX9_valueAt 15 = .ok (.ifnull 13, 3) := by decide +kernel
theorem dX9_valueAt_18 : decode cX9_valueAt 18 = .ok (.aload_n 0, 1) := by decide +kernel
theorem dX9_valueAt_19 : decode cX9_valueAt 19 = .ok (.getfield 13, 3) := by decide +kernel
theorem dX9_valueAt_22 : decode cX9_valueAt 22 = .ok (.iload_n 1, 1) := by decide +kernel
theorem dX9_valueAt_23 : decode cX9_valueAt 23 = .ok (.iaload, 1) := by decide +kernel
theorem dX9_valueAt_24 : decode cX9_valueAt 24 = .ok (.i2l, 1) := by decide +kernel
theorem dX9_valueAt_25 : decode cX9_valueAt 25 = .ok (.goto 21, 3) := by decide +kernel
theorem dX9_valueAt_28 : decode cX9_valueAt 28 = .ok (.aload_n 0, 1) := by decide +kernel
theorem dX9_valueAt_29 : decode cX9_valueAt 29 = .ok (.getfield 17, 3) := by decide +kernel
theorem dX9_valueAt_32 : decode cX9_valueAt 32 = .ok (.ifnull 13, 3) := by decide +kernel
theorem dX9_valueAt_35 : decode cX9_valueAt 35 = .ok (.aload_n 0, 1) := by decide +kernel
theorem dX9_valueAt_36 : decode cX9_valueAt 36 = .ok (.getfield 17, 3) := by decide +kernel
theorem dX9_valueAt_39 : decode cX9_valueAt 39 = .ok (.iload_n 1, 1) := by decide +kernel
theorem dX9_valueAt_40 : decode cX9_valueAt 40 = .ok (.baload, 1) := by decide +kernel
theorem dX9_valueAt_41 : decode cX9_valueAt 41 = .ok (.i2l, 1) := by decide +kernel
theorem dX9_valueAt_42 : decode cX9_valueAt 42 = .ok (.goto 4, 3) := by decide +kernel
theorem dX9_valueAt_45 : decode cX9_valueAt 45 = .ok (.lconst 0, 1) := by decide +kernel
theorem dX9_valueAt_46 : decode cX9_valueAt 46 = .ok (.lreturn, 1) := by decide +kernel
theorem dX9_passOn_0 : decode cX9_passOn 0 = .ok (.aload_n 0, 1) := by decide +kernel
theorem dX9_passOn_1 : decode cX9_passOn 1 = .ok (.iload_n 1, 1) := by decide +kernel
theorem dX9_passOn_2 : decode cX9_passOn 2 = .ok (.iload 4, 2) := by decide +kernel
theorem dX9_passOn_4 : decode cX9_passOn 4 = .ok (.invokevirtual 24, 3) := by decide +kernel
theorem dX9_passOn_7 : decode cX9_passOn 7 = .ok (.ifCond .eq 13, 3) := by decide +kernel
theorem dX9_passOn_10 : decode cX9_passOn 10 = .ok (.aload_n 2, 1) := by decide +kernel
theorem dX9_passOn_11 : decode cX9_passOn 11 = .ok (.iload_n 3, 1) := by decide +kernel
theorem dX9_passOn_12 : decode cX9_passOn 12 = .ok (.iload 4, 2) := by decide +kernel
theorem dX9_passOn_14 : decode cX9_passOn 14 = .ok (.invokevirtual 24, 3) := by decide +kernel
theorem dX9_passOn_17 : decode cX9_passOn 17 = .ok (.ifCond .ne 4, 3) := by decide +kernel
theorem dX9_passOn_20 : decode cX9_passOn 20 = .ok (.return_, 1) := by decide +kernel
theorem dX9_passOn_21 : decode cX9_passOn 21 = .ok (.aload_n 0, 1) := by decide +kernel
theorem dX9_passOn_22 : decode cX9_passOn 22 = .ok (.getfield 13, 3) := by decide +kernel
theorem dX9_passOn_25 : decode cX9_passOn 25 = .ok (.ifnull 28, 3) := by decide +kernel
theorem dX9_passOn_28 : decode cX9_passOn 28 = .ok (.aload_n 2, 1) := by decide +kernel
theorem dX9_passOn_29 : decode cX9_passOn 29 = .ok (.getfield 13, 3) := by decide +kernel
theorem dX9_passOn_32 : decode cX9_passOn 32 = .ok (.ifnull 21, 3) := by decide +kernel
theorem dX9_passOn_35 : decode cX9_passOn 35 = .ok (.aload_n 0, 1) := by decide +kernel
theorem dX9_passOn_36 : decode cX9_passOn 36 = .ok (.getfield 13, 3) := by decide +kernel
theorem dX9_passOn_39 : decode cX9_passOn 39 = .ok (.iload_n 1, 1) := by decide +kernel
theorem dX9_passOn_40 : decode cX9_passOn 40 = .ok (.aload_n 2, 1) := by decide +kernel
theorem dX9_passOn_41 : decode cX9_passOn 41 = .ok (.getfield 13, 3) := by decide +kernel
theorem dX9_passOn_44 : decode cX9_passOn 44 = .ok (.iload_n 3, 1) := by decide +kernel
theorem dX9_passOn_45 : decode cX9_passOn 45 = .ok (.iload 4, 2) := by decide +kernel
theorem dX9_passOn_47 : decode cX9_passOn 47 = .ok (.invokestatic 28, 3) := by decide +kernel
theorem dX9_passOn_50 : decode cX9_passOn 50 = .ok (.goto 32, 3) := by decide +kernel
theorem dX9_passOn_53 : decode cX9_passOn 53 = .ok (.aload_n 0, 1) := by decide +kernel
theorem dX9_passOn_54 : decode cX9_passOn 54 = .ok (.getfield 17, 3) := by decide +kernel
theorem dX9_passOn_57 : decode cX9_passOn 57 = .ok (.ifnull 25, 3) := by decide +kernel
theorem dX9_passOn_60 : decode cX9_passOn 60 = .ok (.aload_n 2, 1) := by decide +kernel
theorem dX9_passOn_61 : decode cX9_passOn 61 = .ok (.getfield 17, 3) := by decide +kernel
theorem dX9_passOn_64 : decode cX9_passOn 64 = .ok (.ifnull 18, 3) := by decide +kernel
theorem dX9_passOn_67 : decode cX9_passOn 67 = .ok (.aload_n 0, 1) := by decide +kernel
theorem dX9_passOn_68 : decode cX9_passOn 68 = .ok (.getfield 17, 3) := by decide +kernel
theorem dX9_passOn_71 : decode cX9_passOn 71 = .ok (.iload_n 1, 1) := by decide +kernel
theorem dX9_passOn_72 : decode cX9_passOn 72 = .ok (.aload_n 2, 1) := by decide +kernel
theorem dX9_passOn_73 : decode cX9_passOn 73 = .ok (.getfield 17, 3) := by decide +kernel
theorem dX9_passOn_76 : decode cX9_passOn 76 = .ok (.iload_n 3, 1) := by decide +kernel
theorem dX9_passOn_77 : decode cX9_passOn 77 = .ok (.iload 4, 2) := by decide +kernel
theorem dX9_passOn_79 : decode cX9_passOn 79 = .ok (.invokestatic 28, 3) := by decide +kernel
theorem dX9_passOn_82 : decode cX9_passOn 82 = .ok (.return_, 1) := by decide +kernel
theorem dX10_init_0 : decode cX10_init 0 = .ok (.aload_n 0, 1) := by decide +kernel
theorem dX10_init_1 : decode cX10_init 1 = .ok (.invokespecial 3, 3) := by decide +kernel
theorem dX10_init_4 : decode cX10_init 4 = .ok (.aload_n 0, 1) := by decide +kernel
theorem dX10_init_5 : decode cX10_init 5 = .ok (.bipush 10, 2) := by decide +kernel
theorem dX10_init_7 : decode cX10_init 7 = .ok (.anewarray 9, 3) := by decide +kernel
theorem dX10_init_10 : decode cX10_init 10 = .ok (.putfield 11, 3) := by decide +kernel
theorem dX10_init_13 : decode cX10_init 13 = .ok (.aload_n 0, 1) := by decide +kernel
theorem dX10_init_14 : decode cX10_init 14 = .ok (.iconst 0, 1) := by decide +kernel
theorem dX10_init_15 : decode cX10_init 15 = .ok (.putfield 15, 3) := by decide +kernel
theorem dX10_init_18 : decode cX10_init 18 = .ok (.aload_n 0, 1) := by decide +kernel
theorem dX10_init_19 : decode cX10_init 19 = .ok (.new 19, 3) := by decide +kernel
theorem dX10_init_22 : decode cX10_init 22 = .ok (.dup, 1) := by decide +kernel
theorem dX10_init_23 : decode cX10_init 23 = .ok (.invokespecial 21, 3) := by decide +kernel
theorem dX10_init_26 : decode cX10_init 26 = .ok (.putfield 22, 3) := by decide +kernel
theorem dX10_init_29 : decode cX10_init 29 = .ok (.aload_n 0, 1) := by decide +kernel
theorem dX10_init_30 : decode cX10_init 30 = .ok (.new 19, 3) := by decide +kernel
theorem dX10_init_33 : decode cX10_init 33 = .ok (.dup, 1) := by decide +kernel
theorem dX10_init_34 : decode cX10_init 34 = .ok (.invokespecial 21, 3) := by decide +kernel
theorem dX10_init_37 : decode cX10_init 37 = .ok (.putfield 26, 3) := by decide +kernel
theorem dX10_init_40 : decode cX10_init 40 = .ok (.aload_n 0, 1) := by decide +kernel
theorem dX10_init_41 : decode cX10_init 41 = .ok (.iconst 3, 1) := by decide +kernel
theorem dX10_init_42 : decode cX10_init 42 = .ok (.newarray .long, 2) := by decide +kernel
theorem dX10_init_44 : decode cX10_init 44 = .ok (.putfield 29, 3) := by decide +kernel
theorem dX10_init_47 : decode cX10_init 47 = .ok (.aload_n 0, 1) := by decide +kernel
theorem dX10_init_48 : decode cX10_init 48 = .ok (.iconst 1, 1) := by decide +kernel
theorem dX10_init_49 : decode cX10_init 49 = .ok (.putfield 33, 3) := by decide +kernel
theorem dX10_init_52 : decode cX10_init 52 = .ok (.aload_n 0, 1) := by decide +kernel
theorem dX10_init_53 : decode cX10_init 53 = .ok (.new 37, 3) := by decide +kernel
theorem dX10_init_56 : decode cX10_init 56 = .ok (.dup, 1) := by decide +kernel
theorem dX10_init_57 : decode cX10_init 57 = .ok (.invokespecial 39, 3) := by decide +kernel
theorem dX10_init_60 : decode cX10_init 60 = .ok (.putfield 40, 3) := by decide +kernel
theorem dX10_init_63 : decode cX10_init 63 = .ok (.aload_n 0, 1) := by decide +kernel
theorem dX10_init_64 : decode cX10_init 64 = .ok (.new 44, 3) := by decide +kernel
theorem dX10_init_67 : decode cX10_init 67 = .ok (.dup, 1) := by decide +kernel
theorem dX10_init_68 : decode cX10_init 68 = .ok (.invokespecial 46, 3) := by decide +kernel
theorem dX10_init_71 : decode cX10_init 71 = .ok (.putfield 47, 3) := by decide +kernel
theorem dX10_init_74 : decode cX10_init 74 = .ok (.aload_n 0, 1) := by decide +kernel
theorem dX10_init_75 : decode cX10_init 75 = .ok (.new 51, 3) := by decide +kernel
theorem dX10_init_78 : decode cX10_init 78 = .ok (.dup, 1) := by decide +kernel
theorem dX10_init_79 : decode cX10_init 79 = .ok (.invokespecial 53, 3) := by decide +kernel
theorem dX10_init_82 : decode cX10_init 82 = .ok (.putfield 54, 3) := by decide +kernel
theorem dX10_init_85 : decode cX10_init 85 = .ok (.aload_n 0, 1) := by decide +kernel
theorem dX10_init_86 : decode cX10_init 86 = .ok (.new 58, 3) := by decide +kernel
theorem dX10_init_89 : decode cX10_init 89 = .ok (.dup, 1) := by decide +kernel
theorem dX10_init_90 : decode cX10_init 90 = .ok (.invokespecial 60, 3) := by decide +kernel
theorem dX10_init_93 : decode cX10_init 93 = .ok (.putfield 61, 3) := by decide +kernel
theorem dX10_init_96 : decode cX10_init 96 = .ok (.aload_n 0, 1) := by decide +kernel
theorem dX10_init_97 : decode cX10_init 97 = .ok (.bipush 8, 2) := by decide +kernel
theorem dX10_init_99 : decode cX10_init 99 = .ok (.anewarray 65, 3) := by decide +kernel
theorem dX10_init_102 : decode cX10_init 102 = .ok (.putfield 67, 3) := by decide +kernel
theorem dX10_init_105 : decode cX10_init 105 = .ok (.iconst 0, 1) := by decide +kernel
theorem dX10_init_106 : decode cX10_init 106 = .ok (.istore_n 1, 1) := by decide +kernel
theorem dX10_init_107 : decode cX10_init 107 = .ok (.iload_n 1, 1) := by decide +kernel
theorem dX10_init_108 : decode cX10_init 108 = .ok (.bipush 8, 2) := by decide +kernel
theorem dX10_init_110 : decode cX10_init 110 = .ok (.if_icmp .ge 22, 3) := by decide +kernel
theorem dX10_init_113 : decode cX10_init 113 = .ok (.aload_n 0, 1) := by decide +kernel
theorem dX10_init_114 : decode cX10_init 114 = .ok (.getfield 67, 3) := by decide +kernel
theorem dX10_init_117 : decode cX10_init 117 = .ok (.iload_n 1, 1) := by decide +kernel
theorem dX10_init_118 : decode cX10_init 118 = .ok (.new 65, 3) := by decide +kernel
theorem dX10_init_121 : decode cX10_init 121 = .ok (.dup, 1) := by decide +kernel
theorem dX10_init_122 : decode cX10_init 122 = .ok (.invokespecial 71, 3) := by decide +kernel
theorem dX10_init_125 : decode cX10_init 125 = .ok (.aastore, 1) := by decide +kernel
theorem dX10_init_126 : decode cX10_init 126 = .ok (.iinc 1 1, 3) := by decide +kernel
theorem dX10_init_129 : decode cX10_init 129 = .ok (.goto (-22), 3) := by decide +kernel
theorem dX10_init_132 : decode cX10_init 132 = .ok (.return_, 1) := by decide +kernel
theorem dX10_contact_0 : decode cX10_contact 0 = .ok (.iload_n 1, 1) := by decide +kernel
theorem dX10_contact_1 : decode cX10_contact 1 = .ok (.ifCond .lt 16, 3) := by decide +kernel
theorem dX10_contact_4 : decode cX10_contact 4 = .ok (.iload 4, 2) := by decide +kernel
theorem dX10_contact_6 : decode cX10_contact 6 = .ok (.ifCond .lt 11, 3) := by decide +kernel
theorem dX10_contact_9 : decode cX10_contact 9 = .ok (.iload_n 2, 1) := by decide +kernel
theorem dX10_contact_10 : decode cX10_contact 10 = .ok (.iload_n 3, 1) := by decide +kernel
theorem dX10_contact_11 : decode cX10_contact 11 = .ok (.invokestatic 72, 3) := by decide +kernel
theorem dX10_contact_14 : decode cX10_contact 14 = .ok (.ifCond .ne 5, 3) := by decide +kernel
theorem dX10_contact_17 : decode cX10_contact 17 = .ok (.iconst (-1), 1) := by decide +kernel
theorem dX10_contact_18 : decode cX10_contact 18 = .ok (.ireturn, 1) := by decide +kernel
theorem dX10_contact_19 : decode cX10_contact 19 = .ok (.iload_n 1, 1) := by decide +kernel
theorem dX10_contact_20 : decode cX10_contact 20 = .ok (.bipush 10, 2) := by decide +kernel
theorem dX10_contact_22 : decode cX10_contact 22 = .ok (.idiv, 1) := by decide +kernel
theorem dX10_contact_23 : decode cX10_contact 23 = .ok (.istore 5, 2) := by decide +kernel
theorem dX10_contact_25 : decode cX10_contact 25 = .ok (.iload_n 1, 1) := by decide +kernel
theorem dX10_contact_26 : decode cX10_contact 26 = .ok (.bipush 10, 2) := by decide +kernel
theorem dX10_contact_28 : decode cX10_contact 28 = .ok (.irem, 1) := by decide +kernel
theorem dX10_contact_29 : decode cX10_contact 29 = .ok (.istore 6, 2) := by decide +kernel
theorem dX10_contact_31 : decode cX10_contact 31 = .ok (.iload 4, 2) := by decide +kernel
theorem dX10_contact_33 : decode cX10_contact 33 = .ok (.bipush 100, 2) := by decide +kernel
theorem dX10_contact_35 : decode cX10_contact 35 = .ok (.idiv, 1) := by decide +kernel
theorem dX10_contact_36 : decode cX10_contact 36 = .ok (.istore 7, 2) := by decide +kernel
theorem dX10_contact_38 : decode cX10_contact 38 = .ok (.iload 4, 2) := by decide +kernel
theorem dX10_contact_40 : decode cX10_contact 40 = .ok (.bipush 100, 2) := by decide +kernel
theorem dX10_contact_42 : decode cX10_contact 42 = .ok (.irem, 1) := by decide +kernel
theorem dX10_contact_43 : decode cX10_contact 43 = .ok (.istore 8, 2) := by decide +kernel
theorem dX10_contact_45 : decode cX10_contact 45 = .ok (.iload 5, 2) := by decide +kernel
theorem dX10_contact_47 : decode cX10_contact 47 = .ok (.iconst 3, 1) := by decide +kernel
theorem dX10_contact_48 : decode cX10_contact 48 = .ok (.if_icmp .gt 28, 3) := by decide +kernel
theorem dX10_contact_51 : decode cX10_contact 51 = .ok (.iload 6, 2) := by decide +kernel
theorem dX10_contact_53 : decode cX10_contact 53 = .ok (.invokestatic 76, 3) := by decide +kernel
theorem dX10_contact_56 : decode cX10_contact 56 = .ok (.ifCond .eq 20, 3) := by decide +kernel
theorem dX10_contact_59 : decode cX10_contact 59 = .ok (.iload 5, 2) := by decide +kernel
theorem dX10_contact_61 : decode cX10_contact 61 = .ok (.iload 7, 2) := by decide +kernel
theorem dX10_contact_63 : decode cX10_contact 63 = .ok (.invokestatic 80, 3) := by decide +kernel
theorem dX10_contact_66 : decode cX10_contact 66 = .ok (.ifCond .eq 10, 3) := by decide +kernel
theorem dX10_contact_69 : decode cX10_contact 69 = .ok (.iload 8, 2) := by decide +kernel
theorem dX10_contact_71 : decode cX10_contact 71 = .ok (.bipush 20, 2) := by decide +kernel
theorem dX10_contact_73 : decode cX10_contact 73 = .ok (.if_icmp .le 5, 3) := by decide +kernel
theorem dX10_contact_76 : decode cX10_contact 76 = .ok (.iconst (-1), 1) := by decide +kernel
theorem dX10_contact_77 : decode cX10_contact 77 = .ok (.ireturn, 1) := by decide +kernel
theorem dX10_contact_78 : decode cX10_contact 78 = .ok (.aload_n 0, 1) := by decide +kernel
theorem dX10_contact_79 : decode cX10_contact 79 = .ok (.getfield 15, 3) := by decide +kernel
theorem dX10_contact_82 : decode cX10_contact 82 = .ok (.bipush 10, 2) := by decide +kernel
theorem dX10_contact_84 : decode cX10_contact 84 = .ok (.if_icmp .lt 6, 3) := by decide +kernel
theorem dX10_contact_87 : decode cX10_contact 87 = .ok (.bipush (-2), 2) := by decide +kernel
theorem dX10_contact_89 : decode cX10_contact 89 = .ok (.ireturn, 1) := by decide +kernel
theorem dX10_contact_90 : decode cX10_contact 90 = .ok (.iload 5, 2) := by decide +kernel
theorem dX10_contact_92 : decode cX10_contact 92 = .ok (.iload 6, 2) := by decide +kernel
theorem dX10_contact_94 : decode cX10_contact 94 = .ok (.iload_n 2, 1) := by decide +kernel
theorem dX10_contact_95 : decode cX10_contact 95 = .ok (.iload_n 3, 1) := by decide +kernel
theorem dX10_contact_96 : decode cX10_contact 96 = .ok (.iload 7, 2) := by decide +kernel
theorem dX10_contact_98 : decode cX10_contact 98 = .ok (.iload 8, 2) := by decide +kernel
theorem dX10_contact_100 : decode cX10_contact 100 = .ok (.invokestatic 83, 3) := by decide +kernel
theorem dX10_contact_103 : decode cX10_contact 103 = .ok (.astore 9, 2) := by decide +kernel
theorem dX10_contact_105 : decode cX10_contact 105 = .ok (.aload 9, 2) := by decide +kernel
theorem dX10_contact_107 : decode cX10_contact 107 = .ok (.aload_n 0, 1) := by decide +kernel
theorem dX10_contact_108 : decode cX10_contact 108 = .ok (.getfield 15, 3) := by decide +kernel
theorem dX10_contact_111 : decode cX10_contact 111 = .ok (.putfield 87, 3) := by decide +kernel
theorem dX10_contact_114 : decode cX10_contact 114 = .ok (.aload_n 0, 1) := by decide +kernel
theorem dX10_contact_115 : decode cX10_contact 115 = .ok (.getfield 11, 3) := by decide +kernel
theorem dX10_contact_118 : decode cX10_contact 118 = .ok (.aload_n 0, 1) := by decide +kernel
theorem dX10_contact_119 : decode cX10_contact 119 = .ok (.getfield 15, 3) := by decide +kernel
theorem dX10_contact_122 : decode cX10_contact 122 = .ok (.aload 9, 2) := by decide +kernel
theorem dX10_contact_124 : decode cX10_contact 124 = .ok (.aastore, 1) := by decide +kernel
theorem dX10_contact_125 : decode cX10_contact 125 = .ok (.aload_n 0, 1) := by decide +kernel
theorem dX10_contact_126 : decode cX10_contact 126 = .ok (.dup, 1) := by decide +kernel
theorem dX10_contact_127 : decode cX10_contact 127 = .ok (.getfield 15, 3) := by decide +kernel
theorem dX10_contact_130 : decode cX10_contact 130 = .ok (.iconst 1, 1) := by decide +kernel
theorem dX10_contact_131 : decode cX10_contact 131 = .ok (.iadd, 1) := by decide +kernel
theorem dX10_contact_132 : decode cX10_contact 132 = .ok (.putfield 15, 3) := by decide +kernel
theorem dX10_contact_135 : decode cX10_contact 135 = .ok (.aload_n 0, 1) := by decide +kernel
theorem dX10_contact_136 : decode cX10_contact 136 = .ok (.iconst 1, 1) := by decide +kernel
theorem dX10_contact_137 : decode cX10_contact 137 = .ok (.putfield 33, 3) := by decide +kernel
theorem dX10_contact_140 : decode cX10_contact 140 = .ok (.aload_n 0, 1) := by decide +kernel
theorem dX10_contact_141 : decode cX10_contact 141 = .ok (.getfield 15, 3) := by decide +kernel
theorem dX10_contact_144 : decode cX10_contact 144 = .ok (.iconst 1, 1) := by decide +kernel
theorem dX10_contact_145 : decode cX10_contact 145 = .ok (.isub, 1) := by decide +kernel
theorem dX10_contact_146 : decode cX10_contact 146 = .ok (.ireturn, 1) := by decide +kernel
theorem dX10_undo_0 : decode cX10_undo 0 = .ok (.aload_n 0, 1) := by decide +kernel
theorem dX10_undo_1 : decode cX10_undo 1 = .ok (.getfield 15, 3) := by decide +kernel
theorem dX10_undo_4 : decode cX10_undo 4 = .ok (.ifCond .gt 6, 3) := by decide +kernel
theorem dX10_undo_7 : decode cX10_undo 7 = .ok (.bipush (-3), 2) := by decide +kernel
theorem dX10_undo_9 : decode cX10_undo 9 = .ok (.ireturn, 1) := by decide +kernel
theorem dX10_undo_10 : decode cX10_undo 10 = .ok (.aload_n 0, 1) := by decide +kernel
theorem dX10_undo_11 : decode cX10_undo 11 = .ok (.dup, 1) := by decide +kernel
theorem dX10_undo_12 : decode cX10_undo 12 = .ok (.getfield 15, 3) := by decide +kernel
theorem dX10_undo_15 : decode cX10_undo 15 = .ok (.iconst 1, 1) := by decide +kernel
theorem dX10_undo_16 : decode cX10_undo 16 = .ok (.isub, 1) := by decide +kernel
theorem dX10_undo_17 : decode cX10_undo 17 = .ok (.putfield 15, 3) := by decide +kernel
theorem dX10_undo_20 : decode cX10_undo 20 = .ok (.aload_n 0, 1) := by decide +kernel
theorem dX10_undo_21 : decode cX10_undo 21 = .ok (.getfield 11, 3) := by decide +kernel
theorem dX10_undo_24 : decode cX10_undo 24 = .ok (.aload_n 0, 1) := by decide +kernel
theorem dX10_undo_25 : decode cX10_undo 25 = .ok (.getfield 15, 3) := by decide +kernel
theorem dX10_undo_28 : decode cX10_undo 28 = .ok (.aconst_null, 1) := by decide +kernel
theorem dX10_undo_29 : decode cX10_undo 29 = .ok (.aastore, 1) := by decide +kernel
theorem dX10_undo_30 : decode cX10_undo 30 = .ok (.aload_n 0, 1) := by decide +kernel
theorem dX10_undo_31 : decode cX10_undo 31 = .ok (.iconst 1, 1) := by decide +kernel
theorem dX10_undo_32 : decode cX10_undo 32 = .ok (.putfield 33, 3) := by decide +kernel
theorem dX10_undo_35 : decode cX10_undo 35 = .ok (.aload_n 0, 1) := by decide +kernel
theorem dX10_undo_36 : decode cX10_undo 36 = .ok (.getfield 15, 3) := by decide +kernel
theorem dX10_undo_39 : decode cX10_undo 39 = .ok (.ireturn, 1) := by decide +kernel
theorem dX10_move_0 : decode cX10_move 0 = .ok (.aload_n 0, 1) := by decide +kernel
theorem dX10_move_1 : decode cX10_move 1 = .ok (.iload_n 1, 1) := by decide +kernel
theorem dX10_move_2 : decode cX10_move 2 = .ok (.invokevirtual 90, 3) := by decide +kernel
theorem dX10_move_5 : decode cX10_move 5 = .ok (.astore 4, 2) := by decide +kernel
theorem dX10_move_7 : decode cX10_move 7 = .ok (.aload 4, 2) := by decide +kernel
theorem dX10_move_9 : decode cX10_move 9 = .ok (.ifnull 11, 3) := by decide +kernel
theorem dX10_move_12 : decode cX10_move 12 = .ok (.iload_n 2, 1) := by decide +kernel
theorem dX10_move_13 : decode cX10_move 13 = .ok (.iload_n 3, 1) := by decide +kernel
theorem dX10_move_14 : decode cX10_move 14 = .ok (.invokestatic 72, 3) := by decide +kernel
theorem dX10_move_17 : decode cX10_move 17 = .ok (.ifCond .ne 5, 3) := by decide +kernel
theorem dX10_move_20 : decode cX10_move 20 = .ok (.iconst (-1), 1) := by decide +kernel
theorem dX10_move_21 : decode cX10_move 21 = .ok (.ireturn, 1) := by decide +kernel
theorem dX10_move_22 : decode cX10_move 22 = .ok (.aload 4, 2) := by decide +kernel
theorem dX10_move_24 : decode cX10_move 24 = .ok (.getfield 94, 3) := by decide +kernel
theorem dX10_move_27 : decode cX10_move 27 = .ok (.iload_n 2, 1) := by decide +kernel
theorem dX10_move_28 : decode cX10_move 28 = .ok (.if_icmp .ne 14, 3) := by decide +kernel
theorem dX10_move_31 : decode cX10_move 31 = .ok (.aload 4, 2) := by decide +kernel
theorem dX10_move_33 : decode cX10_move 33 = .ok (.getfield 97, 3) := by decide +kernel
theorem dX10_move_36 : decode cX10_move 36 = .ok (.iload_n 3, 1) := by decide +kernel
theorem dX10_move_37 : decode cX10_move 37 = .ok (.if_icmp .ne 5, 3) := by decide +kernel
theorem dX10_move_40 : decode cX10_move 40 = .ok (.iconst 0, 1) := by decide +kernel
theorem dX10_move_41 : decode cX10_move 41 = .ok (.ireturn, 1) := by decide +kernel
theorem dX10_move_42 : decode cX10_move 42 = .ok (.aload 4, 2) := by decide +kernel
theorem dX10_move_44 : decode cX10_move 44 = .ok (.iload_n 2, 1) := by decide +kernel
theorem dX10_move_45 : decode cX10_move 45 = .ok (.putfield 94, 3) := by decide +kernel
theorem dX10_move_48 : decode cX10_move 48 = .ok (.aload 4, 2) := by decide +kernel
theorem dX10_move_50 : decode cX10_move 50 = .ok (.iload_n 3, 1) := by decide +kernel
theorem dX10_move_51 : decode cX10_move 51 = .ok (.putfield 97, 3) := by decide +kernel
theorem dX10_move_54 : decode cX10_move 54 = .ok (.aload_n 0, 1) := by decide +kernel
theorem dX10_move_55 : decode cX10_move 55 = .ok (.iconst 1, 1) := by decide +kernel
theorem dX10_move_56 : decode cX10_move 56 = .ok (.putfield 33, 3) := by decide +kernel
theorem dX10_move_59 : decode cX10_move 59 = .ok (.iconst 1, 1) := by decide +kernel
theorem dX10_move_60 : decode cX10_move 60 = .ok (.ireturn, 1) := by decide +kernel
theorem dX10_miss_0 : decode cX10_miss 0 = .ok (.aload_n 0, 1) := by decide +kernel
theorem dX10_miss_1 : decode cX10_miss 1 = .ok (.iload_n 1, 1) := by decide +kernel
theorem dX10_miss_2 : decode cX10_miss 2 = .ok (.invokevirtual 90, 3) := by decide +kernel
theorem dX10_miss_5 : decode cX10_miss 5 = .ok (.astore_n 3, 1) := by decide +kernel
theorem dX10_miss_6 : decode cX10_miss 6 = .ok (.aload_n 3, 1) := by decide +kernel
theorem dX10_miss_7 : decode cX10_miss 7 = .ok (.ifnull 13, 3) := by decide +kernel
theorem dX10_miss_10 : decode cX10_miss 10 = .ok (.iload_n 2, 1) := by decide +kernel
theorem dX10_miss_11 : decode cX10_miss 11 = .ok (.ifCond .lt 9, 3) := by decide +kernel
theorem dX10_miss_14 : decode cX10_miss 14 = .ok (.iload_n 2, 1) := by decide +kernel
theorem dX10_miss_15 : decode cX10_miss 15 = .ok (.bipush 50, 2) := by decide +kernel
theorem dX10_miss_17 : decode cX10_miss 17 = .ok (.if_icmp .le 5, 3) := by decide +kernel
theorem dX10_miss_20 : decode cX10_miss 20 = .ok (.iconst (-1), 1) := by decide +kernel
theorem dX10_miss_21 : decode cX10_miss 21 = .ok (.ireturn, 1) := by decide +kernel
theorem dX10_miss_22 : decode cX10_miss 22 = .ok (.aload_n 3, 1) := by decide +kernel
theorem dX10_miss_23 : decode cX10_miss 23 = .ok (.invokevirtual 100, 3) := by decide +kernel
theorem dX10_miss_26 : decode cX10_miss 26 = .ok (.ifCond .ne 6, 3) := by decide +kernel
theorem dX10_miss_29 : decode cX10_miss 29 = .ok (.bipush (-4), 2) := by decide +kernel
theorem dX10_miss_31 : decode cX10_miss 31 = .ok (.ireturn, 1) := by decide +kernel
theorem dX10_miss_32 : decode cX10_miss 32 = .ok (.aload_n 3, 1) := by decide +kernel
theorem dX10_miss_33 : decode cX10_miss 33 = .ok (.getfield 104, 3) := by decide +kernel
theorem dX10_miss_36 : decode cX10_miss 36 = .ok (.istore 4, 2) := by decide +kernel
theorem dX10_miss_38 : decode cX10_miss 38 = .ok (.aload_n 3, 1) := by decide +kernel
theorem dX10_miss_39 : decode cX10_miss 39 = .ok (.iload_n 2, 1) := by decide +kernel
theorem dX10_miss_40 : decode cX10_miss 40 = .ok (.putfield 104, 3) := by decide +kernel
theorem dX10_miss_43 : decode cX10_miss 43 = .ok (.iload 4, 2) := by decide +kernel
theorem dX10_miss_45 : decode cX10_miss 45 = .ok (.ireturn, 1) := by decide +kernel
theorem dX10_look_0 : decode cX10_look 0 = .ok (.aload_n 0, 1) := by decide +kernel
theorem dX10_look_1 : decode cX10_look 1 = .ok (.iload_n 1, 1) := by decide +kernel
theorem dX10_look_2 : decode cX10_look 2 = .ok (.invokevirtual 90, 3) := by decide +kernel
theorem dX10_look_5 : decode cX10_look 5 = .ok (.astore_n 3, 1) := by decide +kernel
theorem dX10_look_6 : decode cX10_look 6 = .ok (.aload_n 3, 1) := by decide +kernel
theorem dX10_look_7 : decode cX10_look 7 = .ok (.ifnonnull 5, 3) := by decide +kernel
theorem dX10_look_10 : decode cX10_look 10 = .ok (.iconst (-1), 1) := by decide +kernel
theorem dX10_look_11 : decode cX10_look 11 = .ok (.ireturn, 1) := by decide +kernel
theorem dX10_look_12 : decode cX10_look 12 = .ok (.iload_n 2, 1) := by decide +kernel
theorem dX10_look_13 : decode cX10_look 13 = .ok (.tableswitch 81 0 5 #[39, 44, 49, 54, 59, 76], 39) := by decide +kernel
theorem dX10_look_52 : decode cX10_look 52 = .ok (.aload_n 3, 1) := by decide +kernel
theorem dX10_look_53 : decode cX10_look 53 = .ok (.invokevirtual 107, 3) := by decide +kernel
theorem dX10_look_56 : decode cX10_look 56 = .ok (.ireturn, 1) := by decide +kernel
theorem dX10_look_57 : decode cX10_look 57 = .ok (.aload_n 3, 1) := by decide +kernel
theorem dX10_look_58 : decode cX10_look 58 = .ok (.getfield 111, 3) := by decide +kernel
theorem dX10_look_61 : decode cX10_look 61 = .ok (.ireturn, 1) := by decide +kernel
theorem dX10_look_62 : decode cX10_look 62 = .ok (.aload_n 3, 1) := by decide +kernel
theorem dX10_look_63 : decode cX10_look 63 = .ok (.invokevirtual 114, 3) := by decide +kernel
theorem dX10_look_66 : decode cX10_look 66 = .ok (.ireturn, 1) := by decide +kernel
theorem dX10_look_67 : decode cX10_look 67 = .ok (.aload_n 3, 1) := by decide +kernel
theorem dX10_look_68 : decode cX10_look 68 = .ok (.getfield 117, 3) := by decide +kernel
theorem dX10_look_71 : decode cX10_look 71 = .ok (.ireturn, 1) := by decide +kernel
theorem dX10_look_72 : decode cX10_look 72 = .ok (.aload_n 3, 1) := by decide +kernel
theorem dX10_look_73 : decode cX10_look 73 = .ok (.invokevirtual 100, 3) := by decide +kernel
theorem dX10_look_76 : decode cX10_look 76 = .ok (.ifCond .eq 10, 3) := by decide +kernel
theorem dX10_look_79 : decode cX10_look 79 = .ok (.aload_n 3, 1) := by decide +kernel
theorem dX10_look_80 : decode cX10_look 80 = .ok (.getfield 104, 3) := by decide +kernel
theorem dX10_look_83 : decode cX10_look 83 = .ok (.goto 5, 3) := by decide +kernel
theorem dX10_look_86 : decode cX10_look 86 = .ok (.bipush (-2), 2) := by decide +kernel
theorem dX10_look_88 : decode cX10_look 88 = .ok (.ireturn, 1) := by decide +kernel
theorem dX10_look_89 : decode cX10_look 89 = .ok (.aload_n 3, 1) := by decide +kernel
theorem dX10_look_90 : decode cX10_look 90 = .ok (.invokevirtual 120, 3) := by decide +kernel
theorem dX10_look_93 : decode cX10_look 93 = .ok (.ireturn, 1) := by decide +kernel
theorem dX10_look_94 : decode cX10_look 94 = .ok (.iconst (-1), 1) := by decide +kernel
theorem dX10_look_95 : decode cX10_look 95 = .ok (.ireturn, 1) := by decide +kernel
theorem dX10_wrench_0 : decode cX10_wrench 0 = .ok (.aload_n 0, 1) := by decide +kernel
theorem dX10_wrench_1 : decode cX10_wrench 1 = .ok (.iload_n 1, 1) := by decide +kernel
theorem dX10_wrench_2 : decode cX10_wrench 2 = .ok (.invokevirtual 90, 3) := by decide +kernel
theorem dX10_wrench_5 : decode cX10_wrench 5 = .ok (.astore 4, 2) := by decide +kernel
theorem dX10_wrench_7 : decode cX10_wrench 7 = .ok (.aload 4, 2) := by decide +kernel
theorem dX10_wrench_9 : decode cX10_wrench 9 = .ok (.ifnull 26, 3) := by decide +kernel
theorem dX10_wrench_12 : decode cX10_wrench 12 = .ok (.iload_n 2, 1) := by decide +kernel
theorem dX10_wrench_13 : decode cX10_wrench 13 = .ok (.iconst (-1), 1) := by decide +kernel
theorem dX10_wrench_14 : decode cX10_wrench 14 = .ok (.if_icmp .lt 21, 3) := by decide +kernel
theorem dX10_wrench_17 : decode cX10_wrench 17 = .ok (.iload_n 2, 1) := by decide +kernel
theorem dX10_wrench_18 : decode cX10_wrench 18 = .ok (.aload 4, 2) := by decide +kernel
theorem dX10_wrench_20 : decode cX10_wrench 20 = .ok (.invokevirtual 120, 3) := by decide +kernel
theorem dX10_wrench_23 : decode cX10_wrench 23 = .ok (.if_icmp .ge 12, 3) := by decide +kernel
theorem dX10_wrench_26 : decode cX10_wrench 26 = .ok (.iload_n 3, 1) := by decide +kernel
theorem dX10_wrench_27 : decode cX10_wrench 27 = .ok (.ifCond .lt 8, 3) := by decide +kernel
theorem dX10_wrench_30 : decode cX10_wrench 30 = .ok (.iload_n 3, 1) := by decide +kernel
theorem dX10_wrench_31 : decode cX10_wrench 31 = .ok (.iconst 2, 1) := by decide +kernel
theorem dX10_wrench_32 : decode cX10_wrench 32 = .ok (.if_icmp .le 13, 3) := by decide +kernel
theorem dX10_wrench_35 : decode cX10_wrench 35 = .ok (.new 123, 3) := by decide +kernel
theorem dX10_wrench_38 : decode cX10_wrench 38 = .ok (.dup, 1) := by decide +kernel
theorem dX10_wrench_39 : decode cX10_wrench 39 = .ok (.ldc 125, 2) := by decide +kernel
theorem dX10_wrench_41 : decode cX10_wrench 41 = .ok (.invokespecial 127, 3) := by decide +kernel
theorem dX10_wrench_44 : decode cX10_wrench 44 = .ok (.athrow, 1) := by decide +kernel
theorem dX10_wrench_45 : decode cX10_wrench 45 = .ok (.iload_n 3, 1) := by decide +kernel
theorem dX10_wrench_46 : decode cX10_wrench 46 = .ok (.ifCond .ne 13, 3) := by decide +kernel
theorem dX10_wrench_49 : decode cX10_wrench 49 = .ok (.aload 4, 2) := by decide +kernel
theorem dX10_wrench_51 : decode cX10_wrench 51 = .ok (.iload_n 2, 1) := by decide +kernel
theorem dX10_wrench_52 : decode cX10_wrench 52 = .ok (.invokevirtual 130, 3) := by decide +kernel
theorem dX10_wrench_55 : decode cX10_wrench 55 = .ok (.i2l, 1) := by decide +kernel
theorem dX10_wrench_56 : decode cX10_wrench 56 = .ok (.goto 25, 3) := by decide +kernel
theorem dX10_wrench_59 : decode cX10_wrench 59 = .ok (.iload_n 3, 1) := by decide +kernel
theorem dX10_wrench_60 : decode cX10_wrench 60 = .ok (.iconst 1, 1) := by decide +kernel
theorem dX10_wrench_61 : decode cX10_wrench 61 = .ok (.if_icmp .ne 13, 3) := by decide +kernel
theorem dX10_wrench_64 : decode cX10_wrench 64 = .ok (.aload 4, 2) := by decide +kernel
theorem dX10_wrench_66 : decode cX10_wrench 66 = .ok (.iload_n 2, 1) := by decide +kernel
theorem dX10_wrench_67 : decode cX10_wrench 67 = .ok (.invokevirtual 134, 3) := by decide +kernel
theorem dX10_wrench_70 : decode cX10_wrench 70 = .ok (.i2l, 1) := by decide +kernel
theorem dX10_wrench_71 : decode cX10_wrench 71 = .ok (.goto 10, 3) := by decide +kernel
theorem dX10_wrench_74 : decode cX10_wrench 74 = .ok (.aload 4, 2) := by decide +kernel
theorem dX10_wrench_76 : decode cX10_wrench 76 = .ok (.iload_n 2, 1) := by decide +kernel
theorem dX10_wrench_77 : decode cX10_wrench 77 = .ok (.invokevirtual 137, 3) := by decide +kernel
theorem dX10_wrench_80 : decode cX10_wrench 80 = .ok (.i2l, 1) := by decide +kernel
theorem dX10_wrench_81 : decode cX10_wrench 81 = .ok (.lreturn, 1) := by decide +kernel
theorem dX10_rank_0 : decode cX10_rank 0 = .ok (.aload_n 0, 1) := by decide +kernel
theorem dX10_rank_1 : decode cX10_rank 1 = .ok (.invokevirtual 140, 3) := by decide +kernel
theorem dX10_rank_4 : decode cX10_rank 4 = .ok (.aload_n 0, 1) := by decide +kernel
theorem dX10_rank_5 : decode cX10_rank 5 = .ok (.getfield 22, 3) := by decide +kernel
theorem dX10_rank_8 : decode cX10_rank 8 = .ok (.invokevirtual 143, 3) := by decide +kernel
theorem dX10_rank_11 : decode cX10_rank 11 = .ok (.ireturn, 1) := by decide +kernel
theorem dX10_hidden_0 : decode cX10_hidden 0 = .ok (.iload_n 1, 1) := by decide +kernel
theorem dX10_hidden_1 : decode cX10_hidden 1 = .ok (.ifCond .lt 8, 3) := by decide +kernel
theorem dX10_hidden_4 : decode cX10_hidden 4 = .ok (.iload_n 1, 1) := by decide +kernel
theorem dX10_hidden_5 : decode cX10_hidden 5 = .ok (.iconst 2, 1) := by decide +kernel
theorem dX10_hidden_6 : decode cX10_hidden 6 = .ok (.if_icmp .le 13, 3) := by decide +kernel
theorem dX10_hidden_9 : decode cX10_hidden 9 = .ok (.new 123, 3) := by decide +kernel
theorem dX10_hidden_12 : decode cX10_hidden 12 = .ok (.dup, 1) := by decide +kernel
theorem dX10_hidden_13 : decode cX10_hidden 13 = .ok (.ldc 146, 2) := by decide +kernel
theorem dX10_hidden_15 : decode cX10_hidden 15 = .ok (.invokespecial 127, 3) := by decide +kernel
theorem dX10_hidden_18 : decode cX10_hidden 18 = .ok (.athrow, 1) := by decide +kernel
theorem dX10_hidden_19 : decode cX10_hidden 19 = .ok (.aload_n 0, 1) := by decide +kernel
theorem dX10_hidden_20 : decode cX10_hidden 20 = .ok (.invokevirtual 140, 3) := by decide +kernel
theorem dX10_hidden_23 : decode cX10_hidden 23 = .ok (.aload_n 0, 1) := by decide +kernel
theorem dX10_hidden_24 : decode cX10_hidden 24 = .ok (.getfield 22, 3) := by decide +kernel
theorem dX10_hidden_27 : decode cX10_hidden 27 = .ok (.invokevirtual 143, 3) := by decide +kernel
theorem dX10_hidden_30 : decode cX10_hidden 30 = .ok (.iconst 2, 1) := by decide +kernel
theorem dX10_hidden_31 : decode cX10_hidden 31 = .ok (.if_icmp .eq 13, 3) := by decide +kernel
theorem dX10_hidden_34 : decode cX10_hidden 34 = .ok (.new 148, 3) := by decide +kernel
theorem dX10_hidden_37 : decode cX10_hidden 37 = .ok (.dup, 1) := by decide +kernel
theorem dX10_hidden_38 : decode cX10_hidden 38 = .ok (.ldc 150, 2) := by decide +kernel
theorem dX10_hidden_40 : decode cX10_hidden 40 = .ok (.invokespecial 152, 3) := by decide +kernel
theorem dX10_hidden_43 : decode cX10_hidden 43 = .ok (.athrow, 1) := by decide +kernel
theorem dX10_hidden_44 : decode cX10_hidden 44 = .ok (.aload_n 0, 1) := by decide +kernel
theorem dX10_hidden_45 : decode cX10_hidden 45 = .ok (.getfield 22, 3) := by decide +kernel
theorem dX10_hidden_48 : decode cX10_hidden 48 = .ok (.invokevirtual 153, 3) := by decide +kernel
theorem dX10_hidden_51 : decode cX10_hidden 51 = .ok (.iload_n 1, 1) := by decide +kernel
theorem dX10_hidden_52 : decode cX10_hidden 52 = .ok (.ifCond .ne 13, 3) := by decide +kernel
theorem dX10_hidden_55 : decode cX10_hidden 55 = .ok (.aload_n 0, 1) := by decide +kernel
theorem dX10_hidden_56 : decode cX10_hidden 56 = .ok (.getfield 22, 3) := by decide +kernel
theorem dX10_hidden_59 : decode cX10_hidden 59 = .ok (.getfield 156, 3) := by decide +kernel
theorem dX10_hidden_62 : decode cX10_hidden 62 = .ok (.goto 25, 3) := by decide +kernel
theorem dX10_hidden_65 : decode cX10_hidden 65 = .ok (.iload_n 1, 1) := by decide +kernel
theorem dX10_hidden_66 : decode cX10_hidden 66 = .ok (.iconst 1, 1) := by decide +kernel
theorem dX10_hidden_67 : decode cX10_hidden 67 = .ok (.if_icmp .ne 13, 3) := by decide +kernel
theorem dX10_hidden_70 : decode cX10_hidden 70 = .ok (.aload_n 0, 1) := by decide +kernel
theorem dX10_hidden_71 : decode cX10_hidden 71 = .ok (.getfield 22, 3) := by decide +kernel
theorem dX10_hidden_74 : decode cX10_hidden 74 = .ok (.getfield 160, 3) := by decide +kernel
theorem dX10_hidden_77 : decode cX10_hidden 77 = .ok (.goto 10, 3) := by decide +kernel
theorem dX10_hidden_80 : decode cX10_hidden 80 = .ok (.aload_n 0, 1) := by decide +kernel
theorem dX10_hidden_81 : decode cX10_hidden 81 = .ok (.getfield 22, 3) := by decide +kernel
theorem dX10_hidden_84 : decode cX10_hidden 84 = .ok (.getfield 163, 3) := by decide +kernel
theorem dX10_hidden_87 : decode cX10_hidden 87 = .ok (.lreturn, 1) := by decide +kernel
theorem dX10_form_0 : decode cX10_form 0 = .ok (.aload_n 0, 1) := by decide +kernel
theorem dX10_form_1 : decode cX10_form 1 = .ok (.bipush 10, 2) := by decide +kernel
theorem dX10_form_3 : decode cX10_form 3 = .ok (.invokevirtual 166, 3) := by decide +kernel
theorem dX10_form_6 : decode cX10_form 6 = .ok (.ifCond .eq 7, 3) := by decide +kernel
theorem dX10_form_9 : decode cX10_form 9 = .ok (.iconst 1, 1) := by decide +kernel
theorem dX10_form_10 : decode cX10_form 10 = .ok (.goto 4, 3) := by decide +kernel
theorem dX10_form_13 : decode cX10_form 13 = .ok (.iconst 0, 1) := by decide +kernel
theorem dX10_form_14 : decode cX10_form 14 = .ok (.ireturn, 1) := by decide +kernel
theorem dX10_without_0 : decode cX10_without 0 = .ok (.aload_n 0, 1) := by decide +kernel
theorem dX10_without_1 : decode cX10_without 1 = .ok (.iload_n 1, 1) := by decide +kernel
theorem dX10_without_2 : decode cX10_without 2 = .ok (.invokevirtual 90, 3) := by decide +kernel
theorem dX10_without_5 : decode cX10_without 5 = .ok (.ifnonnull 5, 3) := by decide +kernel
theorem dX10_without_8 : decode cX10_without 8 = .ok (.iconst (-1), 1) := by decide +kernel
theorem dX10_without_9 : decode cX10_without 9 = .ok (.ireturn, 1) := by decide +kernel
theorem dX10_without_10 : decode cX10_without 10 = .ok (.aload_n 0, 1) := by decide +kernel
theorem dX10_without_11 : decode cX10_without 11 = .ok (.iload_n 1, 1) := by decide +kernel
theorem dX10_without_12 : decode cX10_without 12 = .ok (.invokevirtual 166, 3) := by decide +kernel
theorem dX10_without_15 : decode cX10_without 15 = .ok (.ifCond .eq 7, 3) := by decide +kernel
theorem dX10_without_18 : decode cX10_without 18 = .ok (.iconst 1, 1) := by decide +kernel
theorem dX10_without_19 : decode cX10_without 19 = .ok (.goto 4, 3) := by decide +kernel
theorem dX10_without_22 : decode cX10_without 22 = .ok (.iconst 0, 1) := by decide +kernel
theorem dX10_without_23 : decode cX10_without 23 = .ok (.ireturn, 1) := by decide +kernel
theorem dX10_held_0 : decode cX10_held 0 = .ok (.iload_n 1, 1) := by decide +kernel
theorem dX10_held_1 : decode cX10_held 1 = .ok (.iload_n 2, 1) := by decide +kernel
theorem dX10_held_2 : decode cX10_held 2 = .ok (.iload_n 3, 1) := by decide +kernel
theorem dX10_held_3 : decode cX10_held 3 = .ok (.invokestatic 169, 3) := by decide +kernel
theorem dX10_held_6 : decode cX10_held 6 = .ok (.ifCond .eq 11, 3) := by decide +kernel
theorem dX10_held_9 : decode cX10_held 9 = .ok (.iload 4, 2) := by decide +kernel
theorem dX10_held_11 : decode cX10_held 11 = .ok (.invokestatic 173, 3) := by decide +kernel
theorem dX10_held_14 : decode cX10_held 14 = .ok (.ifCond .ne 5, 3) := by decide +kernel
theorem dX10_held_17 : decode cX10_held 17 = .ok (.iconst (-1), 1) := by decide +kernel
theorem dX10_held_18 : decode cX10_held 18 = .ok (.ireturn, 1) := by decide +kernel
theorem dX10_held_19 : decode cX10_held 19 = .ok (.aload_n 0, 1) := by decide +kernel
theorem dX10_held_20 : decode cX10_held 20 = .ok (.invokevirtual 176, 3) := by decide +kernel
theorem dX10_held_23 : decode cX10_held 23 = .ok (.aload_n 0, 1) := by decide +kernel
theorem dX10_held_24 : decode cX10_held 24 = .ok (.iload_n 1, 1) := by decide +kernel
theorem dX10_held_25 : decode cX10_held 25 = .ok (.i2l, 1) := by decide +kernel
theorem dX10_held_26 : decode cX10_held 26 = .ok (.iload_n 2, 1) := by decide +kernel
theorem dX10_held_27 : decode cX10_held 27 = .ok (.i2l, 1) := by decide +kernel
theorem dX10_held_28 : decode cX10_held 28 = .ok (.iload_n 3, 1) := by decide +kernel
theorem dX10_held_29 : decode cX10_held 29 = .ok (.i2l, 1) := by decide +kernel
theorem dX10_held_30 : decode cX10_held 30 = .ok (.iload 4, 2) := by decide +kernel
theorem dX10_held_32 : decode cX10_held 32 = .ok (.i2l, 1) := by decide +kernel
theorem dX10_held_33 : decode cX10_held 33 = .ok (.invokevirtual 179, 3) := by decide +kernel
theorem dX10_held_36 : decode cX10_held 36 = .ok (.ifCond .eq 7, 3) := by decide +kernel
theorem dX10_held_39 : decode cX10_held 39 = .ok (.iconst 1, 1) := by decide +kernel
theorem dX10_held_40 : decode cX10_held 40 = .ok (.goto 4, 3) := by decide +kernel
theorem dX10_held_43 : decode cX10_held 43 = .ok (.iconst 0, 1) := by decide +kernel
theorem dX10_held_44 : decode cX10_held 44 = .ok (.ireturn, 1) := by decide +kernel
theorem dX10_load_0 : decode cX10_load 0 = .ok (.iload_n 1, 1) := by decide +kernel
theorem dX10_load_1 : decode cX10_load 1 = .ok (.iload_n 2, 1) := by decide +kernel
theorem dX10_load_2 : decode cX10_load 2 = .ok (.iload_n 3, 1) := by decide +kernel
theorem dX10_load_3 : decode cX10_load 3 = .ok (.invokestatic 169, 3) := by decide +kernel
theorem dX10_load_6 : decode cX10_load 6 = .ok (.ifCond .ne 5, 3) := by decide +kernel
theorem dX10_load_9 : decode cX10_load 9 = .ok (.iconst (-1), 1) := by decide +kernel
theorem dX10_load_10 : decode cX10_load 10 = .ok (.ireturn, 1) := by decide +kernel
theorem dX10_load_11 : decode cX10_load 11 = .ok (.aload_n 0, 1) := by decide +kernel
theorem dX10_load_12 : decode cX10_load 12 = .ok (.getfield 40, 3) := by decide +kernel
theorem dX10_load_15 : decode cX10_load 15 = .ok (.iload_n 1, 1) := by decide +kernel
theorem dX10_load_16 : decode cX10_load 16 = .ok (.iload_n 2, 1) := by decide +kernel
theorem dX10_load_17 : decode cX10_load 17 = .ok (.iload_n 3, 1) := by decide +kernel
theorem dX10_load_18 : decode cX10_load 18 = .ok (.invokevirtual 183, 3) := by decide +kernel
theorem dX10_load_21 : decode cX10_load 21 = .ok (.ifCond .eq 15, 3) := by decide +kernel
theorem dX10_load_24 : decode cX10_load 24 = .ok (.aload_n 0, 1) := by decide +kernel
theorem dX10_load_25 : decode cX10_load 25 = .ok (.getfield 40, 3) := by decide +kernel
theorem dX10_load_28 : decode cX10_load 28 = .ok (.getfield 186, 3) := by decide +kernel
theorem dX10_load_31 : decode cX10_load 31 = .ok (.iconst 1, 1) := by decide +kernel
theorem dX10_load_32 : decode cX10_load 32 = .ok (.isub, 1) := by decide +kernel
theorem dX10_load_33 : decode cX10_load 33 = .ok (.goto 5, 3) := by decide +kernel
theorem dX10_load_36 : decode cX10_load 36 = .ok (.bipush (-2), 2) := by decide +kernel
theorem dX10_load_38 : decode cX10_load 38 = .ok (.ireturn, 1) := by decide +kernel
theorem dX10_unload_0 : decode cX10_unload 0 = .ok (.aload_n 0, 1) := by decide +kernel
theorem dX10_unload_1 : decode cX10_unload 1 = .ok (.getfield 40, 3) := by decide +kernel
theorem dX10_unload_4 : decode cX10_unload 4 = .ok (.getfield 186, 3) := by decide +kernel
theorem dX10_unload_7 : decode cX10_unload 7 = .ok (.istore_n 1, 1) := by decide +kernel
theorem dX10_unload_8 : decode cX10_unload 8 = .ok (.aload_n 0, 1) := by decide +kernel
theorem dX10_unload_9 : decode cX10_unload 9 = .ok (.getfield 40, 3) := by decide +kernel
theorem dX10_unload_12 : decode cX10_unload 12 = .ok (.iconst 0, 1) := by decide +kernel
theorem dX10_unload_13 : decode cX10_unload 13 = .ok (.putfield 186, 3) := by decide +kernel
theorem dX10_unload_16 : decode cX10_unload 16 = .ok (.iload_n 1, 1) := by decide +kernel
theorem dX10_unload_17 : decode cX10_unload 17 = .ok (.ireturn, 1) := by decide +kernel
theorem dX10_loads_0 : decode cX10_loads 0 = .ok (.iload_n 1, 1) := by decide +kernel
theorem dX10_loads_1 : decode cX10_loads 1 = .ok (.invokestatic 173, 3) := by decide +kernel
theorem dX10_loads_4 : decode cX10_loads 4 = .ok (.ifCond .ne 5, 3) := by decide +kernel
theorem dX10_loads_7 : decode cX10_loads 7 = .ok (.iconst (-1), 1) := by decide +kernel
theorem dX10_loads_8 : decode cX10_loads 8 = .ok (.ireturn, 1) := by decide +kernel
theorem dX10_loads_9 : decode cX10_loads 9 = .ok (.aload_n 0, 1) := by decide +kernel
theorem dX10_loads_10 : decode cX10_loads 10 = .ok (.invokevirtual 176, 3) := by decide +kernel
theorem dX10_loads_13 : decode cX10_loads 13 = .ok (.iconst 0, 1) := by decide +kernel
theorem dX10_loads_14 : decode cX10_loads 14 = .ok (.istore_n 2, 1) := by decide +kernel
theorem dX10_loads_15 : decode cX10_loads 15 = .ok (.iconst 0, 1) := by decide +kernel
theorem dX10_loads_16 : decode cX10_loads 16 = .ok (.istore_n 3, 1) := by decide +kernel
theorem dX10_loads_17 : decode cX10_loads 17 = .ok (.iload_n 3, 1) := by decide +kernel
theorem dX10_loads_18 : decode cX10_loads 18 = .ok (.aload_n 0, 1) := by decide +kernel
theorem dX10_loads_19 : decode cX10_loads 19 = .ok (.getfield 40, 3) := by decide +kernel
theorem dX10_loads_22 : decode cX10_loads 22 = .ok (.getfield 186, 3) := by decide +kernel
theorem dX10_loads_25 : decode cX10_loads 25 = .ok (.if_icmp .ge 60, 3) := by decide +kernel
theorem dX10_loads_28 : decode cX10_loads 28 = .ok (.iload_n 3, 1) := by decide +kernel
theorem dX10_loads_29 : decode cX10_loads 29 = .ok (.bipush 16, 2) := by decide +kernel
theorem dX10_loads_31 : decode cX10_loads 31 = .ok (.if_icmp .ge 54, 3) := by decide +kernel
theorem dX10_loads_34 : decode cX10_loads 34 = .ok (.aload_n 0, 1) := by decide +kernel
theorem dX10_loads_35 : decode cX10_loads 35 = .ok (.aload_n 0, 1) := by decide +kernel
theorem dX10_loads_36 : decode cX10_loads 36 = .ok (.getfield 40, 3) := by decide +kernel
theorem dX10_loads_39 : decode cX10_loads 39 = .ok (.getfield 189, 3) := by decide +kernel
theorem dX10_loads_42 : decode cX10_loads 42 = .ok (.iload_n 3, 1) := by decide +kernel
theorem dX10_loads_43 : decode cX10_loads 43 = .ok (.iaload, 1) := by decide +kernel
theorem dX10_loads_44 : decode cX10_loads 44 = .ok (.i2l, 1) := by decide +kernel
theorem dX10_loads_45 : decode cX10_loads 45 = .ok (.aload_n 0, 1) := by decide +kernel
theorem dX10_loads_46 : decode cX10_loads 46 = .ok (.getfield 40, 3) := by decide +kernel
theorem dX10_loads_49 : decode cX10_loads 49 = .ok (.getfield 193, 3) := by decide +kernel
theorem dX10_loads_52 : decode cX10_loads 52 = .ok (.iload_n 3, 1) := by decide +kernel
theorem dX10_loads_53 : decode cX10_loads 53 = .ok (.iaload, 1) := by decide +kernel
theorem dX10_loads_54 : decode cX10_loads 54 = .ok (.i2l, 1) := by decide +kernel
theorem dX10_loads_55 : decode cX10_loads 55 = .ok (.aload_n 0, 1) := by decide +kernel
theorem dX10_loads_56 : decode cX10_loads 56 = .ok (.getfield 40, 3) := by decide +kernel
theorem dX10_loads_59 : decode cX10_loads 59 = .ok (.getfield 196, 3) := by decide +kernel
theorem dX10_loads_62 : decode cX10_loads 62 = .ok (.iload_n 3, 1) := by decide +kernel
theorem dX10_loads_63 : decode cX10_loads 63 = .ok (.iaload, 1) := by decide +kernel
theorem dX10_loads_64 : decode cX10_loads 64 = .ok (.i2l, 1) := by decide +kernel
theorem dX10_loads_65 : decode cX10_loads 65 = .ok (.iload_n 1, 1) := by decide +kernel
theorem dX10_loads_66 : decode cX10_loads 66 = .ok (.i2l, 1) := by decide +kernel
theorem dX10_loads_67 : decode cX10_loads 67 = .ok (.invokevirtual 179, 3) := by decide +kernel
theorem dX10_loads_70 : decode cX10_loads 70 = .ok (.ifCond .eq 9, 3) := by decide +kernel
theorem dX10_loads_73 : decode cX10_loads 73 = .ok (.iload_n 2, 1) := by decide +kernel
theorem dX10_loads_74 : decode cX10_loads 74 = .ok (.iconst 1, 1) := by decide +kernel
theorem dX10_loads_75 : decode cX10_loads 75 = .ok (.iload_n 3, 1) := by decide +kernel
theorem dX10_loads_76 : decode cX10_loads 76 = .ok (.ishl, 1) := by decide +kernel
theorem dX10_loads_77 : decode cX10_loads 77 = .ok (.ior, 1) := by decide +kernel
theorem dX10_loads_78 : decode cX10_loads 78 = .ok (.istore_n 2, 1) := by decide +kernel
theorem dX10_loads_79 : decode cX10_loads 79 = .ok (.iinc 3 1, 3) := by decide +kernel
theorem dX10_loads_82 : decode cX10_loads 82 = .ok (.goto (-65), 3) := by decide +kernel
theorem dX10_loads_85 : decode cX10_loads 85 = .ok (.iload_n 2, 1) := by decide +kernel
theorem dX10_loads_86 : decode cX10_loads 86 = .ok (.ireturn, 1) := by decide +kernel
theorem dX10_pull_0 : decode cX10_pull 0 = .ok (.aload_n 0, 1) := by decide +kernel
theorem dX10_pull_1 : decode cX10_pull 1 = .ok (.invokevirtual 176, 3) := by decide +kernel
theorem dX10_pull_4 : decode cX10_pull 4 = .ok (.aload_n 0, 1) := by decide +kernel
theorem dX10_pull_5 : decode cX10_pull 5 = .ok (.getfield 40, 3) := by decide +kernel
theorem dX10_pull_8 : decode cX10_pull 8 = .ok (.aload_n 0, 1) := by decide +kernel
theorem dX10_pull_9 : decode cX10_pull 9 = .ok (.getfield 26, 3) := by decide +kernel
theorem dX10_pull_12 : decode cX10_pull 12 = .ok (.aload_n 0, 1) := by decide +kernel
theorem dX10_pull_13 : decode cX10_pull 13 = .ok (.getfield 29, 3) := by decide +kernel
theorem dX10_pull_16 : decode cX10_pull 16 = .ok (.invokevirtual 199, 3) := by decide +kernel
theorem dX10_pull_19 : decode cX10_pull 19 = .ok (.istore_n 1, 1) := by decide +kernel
theorem dX10_pull_20 : decode cX10_pull 20 = .ok (.iload_n 1, 1) := by decide +kernel
theorem dX10_pull_21 : decode cX10_pull 21 = .ok (.ifCond .ge 8, 3) := by decide +kernel
theorem dX10_pull_24 : decode cX10_pull 24 = .ok (.bipush (-4), 2) := by decide +kernel
theorem dX10_pull_26 : decode cX10_pull 26 = .ok (.goto 4, 3) := by decide +kernel
theorem dX10_pull_29 : decode cX10_pull 29 = .ok (.iload_n 1, 1) := by decide +kernel
theorem dX10_pull_30 : decode cX10_pull 30 = .ok (.ireturn, 1) := by decide +kernel
theorem dX10_worst_0 : decode cX10_worst 0 = .ok (.iload_n 1, 1) := by decide +kernel
theorem dX10_worst_1 : decode cX10_worst 1 = .ok (.iload_n 2, 1) := by decide +kernel
theorem dX10_worst_2 : decode cX10_worst 2 = .ok (.invokestatic 72, 3) := by decide +kernel
theorem dX10_worst_5 : decode cX10_worst 5 = .ok (.ifCond .eq 23, 3) := by decide +kernel
theorem dX10_worst_8 : decode cX10_worst 8 = .ok (.iload_n 3, 1) := by decide +kernel
theorem dX10_worst_9 : decode cX10_worst 9 = .ok (.invokestatic 76, 3) := by decide +kernel
theorem dX10_worst_12 : decode cX10_worst 12 = .ok (.ifCond .eq 16, 3) := by decide +kernel
theorem dX10_worst_15 : decode cX10_worst 15 = .ok (.iload 4, 2) := by decide +kernel
theorem dX10_worst_17 : decode cX10_worst 17 = .ok (.ifCond .lt 11, 3) := by decide +kernel
theorem dX10_worst_20 : decode cX10_worst 20 = .ok (.iload 4, 2) := by decide +kernel
theorem dX10_worst_22 : decode cX10_worst 22 = .ok (.sipush 999, 3) := by decide +kernel
theorem dX10_worst_25 : decode cX10_worst 25 = .ok (.if_icmp .le 13, 3) := by decide +kernel
theorem dX10_worst_28 : decode cX10_worst 28 = .ok (.new 123, 3) := by decide +kernel
theorem dX10_worst_31 : decode cX10_worst 31 = .ok (.dup, 1) := by decide +kernel
theorem dX10_worst_32 : decode cX10_worst 32 = .ok (.ldc 203, 2) := by decide +kernel
theorem dX10_worst_34 : decode cX10_worst 34 = .ok (.invokespecial 127, 3) := by decide +kernel
theorem dX10_worst_37 : decode cX10_worst 37 = .ok (.athrow, 1) := by decide +kernel
theorem dX10_worst_38 : decode cX10_worst 38 = .ok (.aload_n 0, 1) := by decide +kernel
theorem dX10_worst_39 : decode cX10_worst 39 = .ok (.iload 4, 2) := by decide +kernel
theorem dX10_worst_41 : decode cX10_worst 41 = .ok (.bipush 10, 2) := by decide +kernel
theorem dX10_worst_43 : decode cX10_worst 43 = .ok (.irem, 1) := by decide +kernel
theorem dX10_worst_44 : decode cX10_worst 44 = .ok (.invokevirtual 205, 3) := by decide +kernel
theorem dX10_worst_47 : decode cX10_worst 47 = .ok (.astore 6, 2) := by decide +kernel
theorem dX10_worst_49 : decode cX10_worst 49 = .ok (.aload_n 0, 1) := by decide +kernel
theorem dX10_worst_50 : decode cX10_worst 50 = .ok (.iload 4, 2) := by decide +kernel
theorem dX10_worst_52 : decode cX10_worst 52 = .ok (.bipush 10, 2) := by decide +kernel
theorem dX10_worst_54 : decode cX10_worst 54 = .ok (.idiv, 1) := by decide +kernel
theorem dX10_worst_55 : decode cX10_worst 55 = .ok (.bipush 10, 2) := by decide +kernel
theorem dX10_worst_57 : decode cX10_worst 57 = .ok (.irem, 1) := by decide +kernel
theorem dX10_worst_58 : decode cX10_worst 58 = .ok (.invokevirtual 205, 3) := by decide +kernel
theorem dX10_worst_61 : decode cX10_worst 61 = .ok (.astore 7, 2) := by decide +kernel
theorem dX10_worst_63 : decode cX10_worst 63 = .ok (.aload_n 0, 1) := by decide +kernel
theorem dX10_worst_64 : decode cX10_worst 64 = .ok (.iload 4, 2) := by decide +kernel
theorem dX10_worst_66 : decode cX10_worst 66 = .ok (.bipush 100, 2) := by decide +kernel
theorem dX10_worst_68 : decode cX10_worst 68 = .ok (.idiv, 1) := by decide +kernel
theorem dX10_worst_69 : decode cX10_worst 69 = .ok (.invokevirtual 205, 3) := by decide +kernel
theorem dX10_worst_72 : decode cX10_worst 72 = .ok (.astore 8, 2) := by decide +kernel
theorem dX10_worst_74 : decode cX10_worst 74 = .ok (.aload 6, 2) := by decide +kernel
theorem dX10_worst_76 : decode cX10_worst 76 = .ok (.ifnull 34, 3) := by decide +kernel
theorem dX10_worst_79 : decode cX10_worst 79 = .ok (.aload 7, 2) := by decide +kernel
theorem dX10_worst_81 : decode cX10_worst 81 = .ok (.ifnull 29, 3) := by decide +kernel
theorem dX10_worst_84 : decode cX10_worst 84 = .ok (.aload 8, 2) := by decide +kernel
theorem dX10_worst_86 : decode cX10_worst 86 = .ok (.ifnull 24, 3) := by decide +kernel
theorem dX10_worst_89 : decode cX10_worst 89 = .ok (.aload 6, 2) := by decide +kernel
theorem dX10_worst_91 : decode cX10_worst 91 = .ok (.aload 7, 2) := by decide +kernel
theorem dX10_worst_93 : decode cX10_worst 93 = .ok (.if_acmp .eq 17, 3) := by decide +kernel
theorem dX10_worst_96 : decode cX10_worst 96 = .ok (.aload 6, 2) := by decide +kernel
theorem dX10_worst_98 : decode cX10_worst 98 = .ok (.aload 8, 2) := by decide +kernel
theorem dX10_worst_100 : decode cX10_worst 100 = .ok (.if_acmp .eq 10, 3) := by decide +kernel
theorem dX10_worst_103 : decode cX10_worst 103 = .ok (.aload 7, 2) := by decide +kernel
theorem dX10_worst_105 : decode cX10_worst 105 = .ok (.aload 8, 2) := by decide +kernel
theorem dX10_worst_107 : decode cX10_worst 107 = .ok (.if_acmp .ne 13, 3) := by decide +kernel
theorem dX10_worst_110 : decode cX10_worst 110 = .ok (.new 123, 3) := by decide +kernel
theorem dX10_worst_113 : decode cX10_worst 113 = .ok (.dup, 1) := by decide +kernel
theorem dX10_worst_114 : decode cX10_worst 114 = .ok (.ldc 208, 2) := by decide +kernel
theorem dX10_worst_116 : decode cX10_worst 116 = .ok (.invokespecial 127, 3) := by decide +kernel
theorem dX10_worst_119 : decode cX10_worst 119 = .ok (.athrow, 1) := by decide +kernel
theorem dX10_worst_120 : decode cX10_worst 120 = .ok (.aload_n 0, 1) := by decide +kernel
theorem dX10_worst_121 : decode cX10_worst 121 = .ok (.getfield 47, 3) := by decide +kernel
theorem dX10_worst_124 : decode cX10_worst 124 = .ok (.iload_n 1, 1) := by decide +kernel
theorem dX10_worst_125 : decode cX10_worst 125 = .ok (.iload_n 2, 1) := by decide +kernel
theorem dX10_worst_126 : decode cX10_worst 126 = .ok (.iload_n 3, 1) := by decide +kernel
theorem dX10_worst_127 : decode cX10_worst 127 = .ok (.invokevirtual 210, 3) := by decide +kernel
theorem dX10_worst_130 : decode cX10_worst 130 = .ok (.aload_n 0, 1) := by decide +kernel
theorem dX10_worst_131 : decode cX10_worst 131 = .ok (.getfield 47, 3) := by decide +kernel
theorem dX10_worst_134 : decode cX10_worst 134 = .ok (.aload 6, 2) := by decide +kernel
theorem dX10_worst_136 : decode cX10_worst 136 = .ok (.aload 7, 2) := by decide +kernel
theorem dX10_worst_138 : decode cX10_worst 138 = .ok (.aload 8, 2) := by decide +kernel
theorem dX10_worst_140 : decode cX10_worst 140 = .ok (.invokevirtual 214, 3) := by decide +kernel
theorem dX10_worst_143 : decode cX10_worst 143 = .ok (.ifCond .ne 13, 3) := by decide +kernel
theorem dX10_worst_146 : decode cX10_worst 146 = .ok (.new 148, 3) := by decide +kernel
theorem dX10_worst_149 : decode cX10_worst 149 = .ok (.dup, 1) := by decide +kernel
theorem dX10_worst_150 : decode cX10_worst 150 = .ok (.ldc 218, 2) := by decide +kernel
theorem dX10_worst_152 : decode cX10_worst 152 = .ok (.invokespecial 152, 3) := by decide +kernel
theorem dX10_worst_155 : decode cX10_worst 155 = .ok (.athrow, 1) := by decide +kernel
theorem dX10_worst_156 : decode cX10_worst 156 = .ok (.aload_n 0, 1) := by decide +kernel
theorem dX10_worst_157 : decode cX10_worst 157 = .ok (.getfield 47, 3) := by decide +kernel
theorem dX10_worst_160 : decode cX10_worst 160 = .ok (.getfield 220, 3) := by decide +kernel
theorem dX10_worst_163 : decode cX10_worst 163 = .ok (.aload_n 0, 1) := by decide +kernel
theorem dX10_worst_164 : decode cX10_worst 164 = .ok (.getfield 47, 3) := by decide +kernel
theorem dX10_worst_167 : decode cX10_worst 167 = .ok (.getfield 223, 3) := by decide +kernel
theorem dX10_worst_170 : decode cX10_worst 170 = .ok (.invokestatic 226, 3) := by decide +kernel
theorem dX10_worst_173 : decode cX10_worst 173 = .ok (.lstore 9, 2) := by decide +kernel
theorem dX10_worst_175 : decode cX10_worst 175 = .ok (.lload 9, 2) := by decide +kernel
theorem dX10_worst_177 : decode cX10_worst 177 = .ok (.lconst 0, 1) := by decide +kernel
theorem dX10_worst_178 : decode cX10_worst 178 = .ok (.lcmp, 1) := by decide +kernel
theorem dX10_worst_179 : decode cX10_worst 179 = .ok (.ifCond .ne 5, 3) := by decide +kernel
theorem dX10_worst_182 : decode cX10_worst 182 = .ok (.lconst 0, 1) := by decide +kernel
theorem dX10_worst_183 : decode cX10_worst 183 = .ok (.lreturn, 1) := by decide +kernel
theorem dX10_worst_184 : decode cX10_worst 184 = .ok (.iload 5, 2) := by decide +kernel
theorem dX10_worst_186 : decode cX10_worst 186 = .ok (.ifCond .eq 13, 3) := by decide +kernel
theorem dX10_worst_189 : decode cX10_worst 189 = .ok (.aload_n 0, 1) := by decide +kernel
theorem dX10_worst_190 : decode cX10_worst 190 = .ok (.getfield 47, 3) := by decide +kernel
theorem dX10_worst_193 : decode cX10_worst 193 = .ok (.getfield 223, 3) := by decide +kernel
theorem dX10_worst_196 : decode cX10_worst 196 = .ok (.goto 10, 3) := by decide +kernel
theorem dX10_worst_199 : decode cX10_worst 199 = .ok (.aload_n 0, 1) := by decide +kernel
theorem dX10_worst_200 : decode cX10_worst 200 = .ok (.getfield 47, 3) := by decide +kernel
theorem dX10_worst_203 : decode cX10_worst 203 = .ok (.getfield 220, 3) := by decide +kernel
theorem dX10_worst_206 : decode cX10_worst 206 = .ok (.lload 9, 2) := by decide +kernel
theorem dX10_worst_208 : decode cX10_worst 208 = .ok (.ldiv, 1) := by decide +kernel
theorem dX10_worst_209 : decode cX10_worst 209 = .ok (.lreturn, 1) := by decide +kernel
theorem dX10_best_0 : decode cX10_best 0 = .ok (.iload_n 1, 1) := by decide +kernel
theorem dX10_best_1 : decode cX10_best 1 = .ok (.iload_n 2, 1) := by decide +kernel
theorem dX10_best_2 : decode cX10_best 2 = .ok (.invokestatic 72, 3) := by decide +kernel
theorem dX10_best_5 : decode cX10_best 5 = .ok (.ifCond .eq 10, 3) := by decide +kernel
theorem dX10_best_8 : decode cX10_best 8 = .ok (.iload_n 3, 1) := by decide +kernel
theorem dX10_best_9 : decode cX10_best 9 = .ok (.invokestatic 76, 3) := by decide +kernel
theorem dX10_best_12 : decode cX10_best 12 = .ok (.ifCond .ne 5, 3) := by decide +kernel
theorem dX10_best_15 : decode cX10_best 15 = .ok (.iconst (-1), 1) := by decide +kernel
theorem dX10_best_16 : decode cX10_best 16 = .ok (.ireturn, 1) := by decide +kernel
theorem dX10_best_17 : decode cX10_best 17 = .ok (.aload_n 0, 1) := by decide +kernel
theorem dX10_best_18 : decode cX10_best 18 = .ok (.getfield 47, 3) := by decide +kernel
theorem dX10_best_21 : decode cX10_best 21 = .ok (.iload_n 1, 1) := by decide +kernel
theorem dX10_best_22 : decode cX10_best 22 = .ok (.iload_n 2, 1) := by decide +kernel
theorem dX10_best_23 : decode cX10_best 23 = .ok (.iload_n 3, 1) := by decide +kernel
theorem dX10_best_24 : decode cX10_best 24 = .ok (.invokevirtual 210, 3) := by decide +kernel
theorem dX10_best_27 : decode cX10_best 27 = .ok (.aload_n 0, 1) := by decide +kernel
theorem dX10_best_28 : decode cX10_best 28 = .ok (.getfield 47, 3) := by decide +kernel
theorem dX10_best_31 : decode cX10_best 31 = .ok (.invokevirtual 230, 3) := by decide +kernel
theorem dX10_best_34 : decode cX10_best 34 = .ok (.iconst 0, 1) := by decide +kernel
theorem dX10_best_35 : decode cX10_best 35 = .ok (.istore 4, 2) := by decide +kernel
theorem dX10_best_37 : decode cX10_best 37 = .ok (.iload 4, 2) := by decide +kernel
theorem dX10_best_39 : decode cX10_best 39 = .ok (.aload_n 0, 1) := by decide +kernel
theorem dX10_best_40 : decode cX10_best 40 = .ok (.getfield 15, 3) := by decide +kernel
theorem dX10_best_43 : decode cX10_best 43 = .ok (.if_icmp .ge 61, 3) := by decide +kernel
theorem dX10_best_46 : decode cX10_best 46 = .ok (.iload 4, 2) := by decide +kernel
theorem dX10_best_48 : decode cX10_best 48 = .ok (.iconst 1, 1) := by decide +kernel
theorem dX10_best_49 : decode cX10_best 49 = .ok (.iadd, 1) := by decide +kernel
theorem dX10_best_50 : decode cX10_best 50 = .ok (.istore 5, 2) := by decide +kernel
theorem dX10_best_52 : decode cX10_best 52 = .ok (.iload 5, 2) := by decide +kernel
theorem dX10_best_54 : decode cX10_best 54 = .ok (.aload_n 0, 1) := by decide +kernel
theorem dX10_best_55 : decode cX10_best 55 = .ok (.getfield 15, 3) := by decide +kernel
theorem dX10_best_58 : decode cX10_best 58 = .ok (.if_icmp .ge 40, 3) := by decide +kernel
theorem dX10_best_61 : decode cX10_best 61 = .ok (.iload 5, 2) := by decide +kernel
theorem dX10_best_63 : decode cX10_best 63 = .ok (.iconst 1, 1) := by decide +kernel
theorem dX10_best_64 : decode cX10_best 64 = .ok (.iadd, 1) := by decide +kernel
theorem dX10_best_65 : decode cX10_best 65 = .ok (.istore 6, 2) := by decide +kernel
theorem dX10_best_67 : decode cX10_best 67 = .ok (.iload 6, 2) := by decide +kernel
theorem dX10_best_69 : decode cX10_best 69 = .ok (.aload_n 0, 1) := by decide +kernel
theorem dX10_best_70 : decode cX10_best 70 = .ok (.getfield 15, 3) := by decide +kernel
theorem dX10_best_73 : decode cX10_best 73 = .ok (.if_icmp .ge 19, 3) := by decide +kernel
theorem dX10_best_76 : decode cX10_best 76 = .ok (.aload_n 0, 1) := by decide +kernel
theorem dX10_best_77 : decode cX10_best 77 = .ok (.iload 4, 2) := by decide +kernel
theorem dX10_best_79 : decode cX10_best 79 = .ok (.iload 5, 2) := by decide +kernel
theorem dX10_best_81 : decode cX10_best 81 = .ok (.iload 6, 2) := by decide +kernel
theorem dX10_best_83 : decode cX10_best 83 = .ok (.invokevirtual 233, 3) := by decide +kernel
theorem dX10_best_86 : decode cX10_best 86 = .ok (.iinc 6 1, 3) := by decide +kernel
theorem dX10_best_89 : decode cX10_best 89 = .ok (.goto (-22), 3) := by decide +kernel
theorem dX10_best_92 : decode cX10_best 92 = .ok (.iinc 5 1, 3) := by decide +kernel
theorem dX10_best_95 : decode cX10_best 95 = .ok (.goto (-43), 3) := by decide +kernel
theorem dX10_best_98 : decode cX10_best 98 = .ok (.iinc 4 1, 3) := by decide +kernel
theorem dX10_best_101 : decode cX10_best 101 = .ok (.goto (-64), 3) := by decide +kernel
theorem dX10_best_104 : decode cX10_best 104 = .ok (.aload_n 0, 1) := by decide +kernel
theorem dX10_best_105 : decode cX10_best 105 = .ok (.getfield 47, 3) := by decide +kernel
theorem dX10_best_108 : decode cX10_best 108 = .ok (.getfield 236, 3) := by decide +kernel
theorem dX10_best_111 : decode cX10_best 111 = .ok (.ifCond .ge 8, 3) := by decide +kernel
theorem dX10_best_114 : decode cX10_best 114 = .ok (.bipush (-4), 2) := by decide +kernel
theorem dX10_best_116 : decode cX10_best 116 = .ok (.goto 10, 3) := by decide +kernel
theorem dX10_best_119 : decode cX10_best 119 = .ok (.aload_n 0, 1) := by decide +kernel
theorem dX10_best_120 : decode cX10_best 120 = .ok (.getfield 47, 3) := by decide +kernel
theorem dX10_best_123 : decode cX10_best 123 = .ok (.getfield 236, 3) := by decide +kernel
theorem dX10_best_126 : decode cX10_best 126 = .ok (.ireturn, 1) := by decide +kernel
theorem dX10_step_0 : decode cX10_step 0 = .ok (.iload_n 1, 1) := by decide +kernel
theorem dX10_step_1 : decode cX10_step 1 = .ok (.iconst 1, 1) := by decide +kernel
theorem dX10_step_2 : decode cX10_step 2 = .ok (.if_icmp .lt 26, 3) := by decide +kernel
theorem dX10_step_5 : decode cX10_step 5 = .ok (.iload_n 1, 1) := by decide +kernel
theorem dX10_step_6 : decode cX10_step 6 = .ok (.bipush 64, 2) := by decide +kernel
theorem dX10_step_8 : decode cX10_step 8 = .ok (.if_icmp .ge 20, 3) := by decide +kernel
theorem dX10_step_11 : decode cX10_step 11 = .ok (.iload_n 2, 1) := by decide +kernel
theorem dX10_step_12 : decode cX10_step 12 = .ok (.ifCond .lt 16, 3) := by decide +kernel
theorem dX10_step_15 : decode cX10_step 15 = .ok (.iload_n 2, 1) := by decide +kernel
theorem dX10_step_16 : decode cX10_step 16 = .ok (.iconst 1, 1) := by decide +kernel
theorem dX10_step_17 : decode cX10_step 17 = .ok (.aload_n 0, 1) := by decide +kernel
theorem dX10_step_18 : decode cX10_step 18 = .ok (.getfield 54, 3) := by decide +kernel
theorem dX10_step_21 : decode cX10_step 21 = .ok (.getfield 239, 3) := by decide +kernel
theorem dX10_step_24 : decode cX10_step 24 = .ok (.ishl, 1) := by decide +kernel
