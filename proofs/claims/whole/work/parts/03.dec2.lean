theorem dX11_held_31 : decode cX11_held 31 = .ok (.iload_n 2, 1) := by decide +kernel
theorem dX11_held_32 : decode cX11_held 32 = .ok (.iload_n 3, 1) := by decide +kernel
theorem dX11_held_33 : decode cX11_held 33 = .ok (.iload 4, 2) := by decide +kernel
theorem dX11_held_35 : decode cX11_held 35 = .ok (.invokevirtual 230, 3) := by decide +kernel
theorem dX11_held_38 : decode cX11_held 38 = .ok (.ifCond .eq 7, 3) := by decide +kernel
theorem dX11_held_41 : decode cX11_held 41 = .ok (.iconst 1, 1) := by decide +kernel
theorem dX11_held_42 : decode cX11_held 42 = .ok (.goto 4, 3) := by decide +kernel
theorem dX11_held_45 : decode cX11_held 45 = .ok (.iconst 0, 1) := by decide +kernel
theorem dX11_held_46 : decode cX11_held 46 = .ok (.ireturn, 1) := by decide +kernel
theorem dX11_load_0 : decode cX11_load 0 = .ok (.aload_n 0, 1) := by decide +kernel
theorem dX11_load_1 : decode cX11_load 1 = .ok (.iload_n 1, 1) := by decide +kernel
theorem dX11_load_2 : decode cX11_load 2 = .ok (.iload_n 2, 1) := by decide +kernel
theorem dX11_load_3 : decode cX11_load 3 = .ok (.iload_n 3, 1) := by decide +kernel
theorem dX11_load_4 : decode cX11_load 4 = .ok (.invokevirtual 224, 3) := by decide +kernel
theorem dX11_load_7 : decode cX11_load 7 = .ok (.ifCond .ne 5, 3) := by decide +kernel
theorem dX11_load_10 : decode cX11_load 10 = .ok (.iconst (-1), 1) := by decide +kernel
theorem dX11_load_11 : decode cX11_load 11 = .ok (.ireturn, 1) := by decide +kernel
theorem dX11_load_12 : decode cX11_load 12 = .ok (.aload_n 0, 1) := by decide +kernel
theorem dX11_load_13 : decode cX11_load 13 = .ok (.getfield 63, 3) := by decide +kernel
theorem dX11_load_16 : decode cX11_load 16 = .ok (.bipush 16, 2) := by decide +kernel
theorem dX11_load_18 : decode cX11_load 18 = .ok (.if_icmp .ne 6, 3) := by decide +kernel
theorem dX11_load_21 : decode cX11_load 21 = .ok (.bipush (-2), 2) := by decide +kernel
theorem dX11_load_23 : decode cX11_load 23 = .ok (.ireturn, 1) := by decide +kernel
theorem dX11_load_24 : decode cX11_load 24 = .ok (.aload_n 0, 1) := by decide +kernel
theorem dX11_load_25 : decode cX11_load 25 = .ok (.getfield 66, 3) := by decide +kernel
theorem dX11_load_28 : decode cX11_load 28 = .ok (.iconst 3, 1) := by decide +kernel
theorem dX11_load_29 : decode cX11_load 29 = .ok (.aload_n 0, 1) := by decide +kernel
theorem dX11_load_30 : decode cX11_load 30 = .ok (.getfield 63, 3) := by decide +kernel
theorem dX11_load_33 : decode cX11_load 33 = .ok (.imul, 1) := by decide +kernel
theorem dX11_load_34 : decode cX11_load 34 = .ok (.iload_n 1, 1) := by decide +kernel
theorem dX11_load_35 : decode cX11_load 35 = .ok (.iastore, 1) := by decide +kernel
theorem dX11_load_36 : decode cX11_load 36 = .ok (.aload_n 0, 1) := by decide +kernel
theorem dX11_load_37 : decode cX11_load 37 = .ok (.getfield 66, 3) := by decide +kernel
theorem dX11_load_40 : decode cX11_load 40 = .ok (.iconst 3, 1) := by decide +kernel
theorem dX11_load_41 : decode cX11_load 41 = .ok (.aload_n 0, 1) := by decide +kernel
theorem dX11_load_42 : decode cX11_load 42 = .ok (.getfield 63, 3) := by decide +kernel
theorem dX11_load_45 : decode cX11_load 45 = .ok (.imul, 1) := by decide +kernel
theorem dX11_load_46 : decode cX11_load 46 = .ok (.iconst 1, 1) := by decide +kernel
theorem dX11_load_47 : decode cX11_load 47 = .ok (.iadd, 1) := by decide +kernel
theorem dX11_load_48 : decode cX11_load 48 = .ok (.iload_n 2, 1) := by decide +kernel
theorem dX11_load_49 : decode cX11_load 49 = .ok (.iastore, 1) := by decide +kernel
theorem dX11_load_50 : decode cX11_load 50 = .ok (.aload_n 0, 1) := by decide +kernel
theorem dX11_load_51 : decode cX11_load 51 = .ok (.getfield 66, 3) := by decide +kernel
theorem dX11_load_54 : decode cX11_load 54 = .ok (.iconst 3, 1) := by decide +kernel
theorem dX11_load_55 : decode cX11_load 55 = .ok (.aload_n 0, 1) := by decide +kernel
theorem dX11_load_56 : decode cX11_load 56 = .ok (.getfield 63, 3) := by decide +kernel
theorem dX11_load_59 : decode cX11_load 59 = .ok (.imul, 1) := by decide +kernel
theorem dX11_load_60 : decode cX11_load 60 = .ok (.iconst 2, 1) := by decide +kernel
theorem dX11_load_61 : decode cX11_load 61 = .ok (.iadd, 1) := by decide +kernel
theorem dX11_load_62 : decode cX11_load 62 = .ok (.iload_n 3, 1) := by decide +kernel
theorem dX11_load_63 : decode cX11_load 63 = .ok (.iastore, 1) := by decide +kernel
theorem dX11_load_64 : decode cX11_load 64 = .ok (.aload_n 0, 1) := by decide +kernel
theorem dX11_load_65 : decode cX11_load 65 = .ok (.dup, 1) := by decide +kernel
theorem dX11_load_66 : decode cX11_load 66 = .ok (.getfield 63, 3) := by decide +kernel
theorem dX11_load_69 : decode cX11_load 69 = .ok (.iconst 1, 1) := by decide +kernel
theorem dX11_load_70 : decode cX11_load 70 = .ok (.iadd, 1) := by decide +kernel
theorem dX11_load_71 : decode cX11_load 71 = .ok (.putfield 63, 3) := by decide +kernel
theorem dX11_load_74 : decode cX11_load 74 = .ok (.aload_n 0, 1) := by decide +kernel
theorem dX11_load_75 : decode cX11_load 75 = .ok (.getfield 63, 3) := by decide +kernel
theorem dX11_load_78 : decode cX11_load 78 = .ok (.iconst 1, 1) := by decide +kernel
theorem dX11_load_79 : decode cX11_load 79 = .ok (.isub, 1) := by decide +kernel
theorem dX11_load_80 : decode cX11_load 80 = .ok (.ireturn, 1) := by decide +kernel
theorem dX11_unload_0 : decode cX11_unload 0 = .ok (.aload_n 0, 1) := by decide +kernel
theorem dX11_unload_1 : decode cX11_unload 1 = .ok (.getfield 63, 3) := by decide +kernel
theorem dX11_unload_4 : decode cX11_unload 4 = .ok (.istore_n 1, 1) := by decide +kernel
theorem dX11_unload_5 : decode cX11_unload 5 = .ok (.aload_n 0, 1) := by decide +kernel
theorem dX11_unload_6 : decode cX11_unload 6 = .ok (.iconst 0, 1) := by decide +kernel
theorem dX11_unload_7 : decode cX11_unload 7 = .ok (.putfield 63, 3) := by decide +kernel
theorem dX11_unload_10 : decode cX11_unload 10 = .ok (.iload_n 1, 1) := by decide +kernel
theorem dX11_unload_11 : decode cX11_unload 11 = .ok (.ireturn, 1) := by decide +kernel
theorem dX11_heldLoads_0 : decode cX11_heldLoads 0 = .ok (.iconst 0, 1) := by decide +kernel
theorem dX11_heldLoads_1 : decode cX11_heldLoads 1 = .ok (.istore_n 2, 1) := by decide +kernel
theorem dX11_heldLoads_2 : decode cX11_heldLoads 2 = .ok (.iconst 0, 1) := by decide +kernel
theorem dX11_heldLoads_3 : decode cX11_heldLoads 3 = .ok (.istore_n 3, 1) := by decide +kernel
theorem dX11_heldLoads_4 : decode cX11_heldLoads 4 = .ok (.iload_n 3, 1) := by decide +kernel
theorem dX11_heldLoads_5 : decode cX11_heldLoads 5 = .ok (.aload_n 0, 1) := by decide +kernel
theorem dX11_heldLoads_6 : decode cX11_heldLoads 6 = .ok (.getfield 63, 3) := by decide +kernel
theorem dX11_heldLoads_9 : decode cX11_heldLoads 9 = .ok (.if_icmp .ge 55, 3) := by decide +kernel
theorem dX11_heldLoads_12 : decode cX11_heldLoads 12 = .ok (.iload_n 2, 1) := by decide +kernel
theorem dX11_heldLoads_13 : decode cX11_heldLoads 13 = .ok (.aload_n 0, 1) := by decide +kernel
theorem dX11_heldLoads_14 : decode cX11_heldLoads 14 = .ok (.aload_n 0, 1) := by decide +kernel
theorem dX11_heldLoads_15 : decode cX11_heldLoads 15 = .ok (.getfield 66, 3) := by decide +kernel
theorem dX11_heldLoads_18 : decode cX11_heldLoads 18 = .ok (.iconst 3, 1) := by decide +kernel
theorem dX11_heldLoads_19 : decode cX11_heldLoads 19 = .ok (.iload_n 3, 1) := by decide +kernel
theorem dX11_heldLoads_20 : decode cX11_heldLoads 20 = .ok (.imul, 1) := by decide +kernel
theorem dX11_heldLoads_21 : decode cX11_heldLoads 21 = .ok (.iaload, 1) := by decide +kernel
theorem dX11_heldLoads_22 : decode cX11_heldLoads 22 = .ok (.aload_n 0, 1) := by decide +kernel
theorem dX11_heldLoads_23 : decode cX11_heldLoads 23 = .ok (.getfield 66, 3) := by decide +kernel
theorem dX11_heldLoads_26 : decode cX11_heldLoads 26 = .ok (.iconst 3, 1) := by decide +kernel
theorem dX11_heldLoads_27 : decode cX11_heldLoads 27 = .ok (.iload_n 3, 1) := by decide +kernel
theorem dX11_heldLoads_28 : decode cX11_heldLoads 28 = .ok (.imul, 1) := by decide +kernel
theorem dX11_heldLoads_29 : decode cX11_heldLoads 29 = .ok (.iconst 1, 1) := by decide +kernel
theorem dX11_heldLoads_30 : decode cX11_heldLoads 30 = .ok (.iadd, 1) := by decide +kernel
theorem dX11_heldLoads_31 : decode cX11_heldLoads 31 = .ok (.iaload, 1) := by decide +kernel
theorem dX11_heldLoads_32 : decode cX11_heldLoads 32 = .ok (.aload_n 0, 1) := by decide +kernel
theorem dX11_heldLoads_33 : decode cX11_heldLoads 33 = .ok (.getfield 66, 3) := by decide +kernel
theorem dX11_heldLoads_36 : decode cX11_heldLoads 36 = .ok (.iconst 3, 1) := by decide +kernel
theorem dX11_heldLoads_37 : decode cX11_heldLoads 37 = .ok (.iload_n 3, 1) := by decide +kernel
theorem dX11_heldLoads_38 : decode cX11_heldLoads 38 = .ok (.imul, 1) := by decide +kernel
theorem dX11_heldLoads_39 : decode cX11_heldLoads 39 = .ok (.iconst 2, 1) := by decide +kernel
theorem dX11_heldLoads_40 : decode cX11_heldLoads 40 = .ok (.iadd, 1) := by decide +kernel
theorem dX11_heldLoads_41 : decode cX11_heldLoads 41 = .ok (.iaload, 1) := by decide +kernel
theorem dX11_heldLoads_42 : decode cX11_heldLoads 42 = .ok (.iload_n 1, 1) := by decide +kernel
theorem dX11_heldLoads_43 : decode cX11_heldLoads 43 = .ok (.invokevirtual 230, 3) := by decide +kernel
theorem dX11_heldLoads_46 : decode cX11_heldLoads 46 = .ok (.ifCond .eq 9, 3) := by decide +kernel
theorem dX11_heldLoads_49 : decode cX11_heldLoads 49 = .ok (.iconst 1, 1) := by decide +kernel
theorem dX11_heldLoads_50 : decode cX11_heldLoads 50 = .ok (.iload_n 3, 1) := by decide +kernel
theorem dX11_heldLoads_51 : decode cX11_heldLoads 51 = .ok (.ishl, 1) := by decide +kernel
theorem dX11_heldLoads_52 : decode cX11_heldLoads 52 = .ok (.goto 4, 3) := by decide +kernel
theorem dX11_heldLoads_55 : decode cX11_heldLoads 55 = .ok (.iconst 0, 1) := by decide +kernel
theorem dX11_heldLoads_56 : decode cX11_heldLoads 56 = .ok (.ior, 1) := by decide +kernel
theorem dX11_heldLoads_57 : decode cX11_heldLoads 57 = .ok (.istore_n 2, 1) := by decide +kernel
theorem dX11_heldLoads_58 : decode cX11_heldLoads 58 = .ok (.iinc 3 1, 3) := by decide +kernel
theorem dX11_heldLoads_61 : decode cX11_heldLoads 61 = .ok (.goto (-57), 3) := by decide +kernel
theorem dX11_heldLoads_64 : decode cX11_heldLoads 64 = .ok (.iload_n 2, 1) := by decide +kernel
theorem dX11_heldLoads_65 : decode cX11_heldLoads 65 = .ok (.ireturn, 1) := by decide +kernel
theorem dX11_loads_0 : decode cX11_loads 0 = .ok (.aload_n 0, 1) := by decide +kernel
theorem dX11_loads_1 : decode cX11_loads 1 = .ok (.iload_n 1, 1) := by decide +kernel
theorem dX11_loads_2 : decode cX11_loads 2 = .ok (.iconst 0, 1) := by decide +kernel
theorem dX11_loads_3 : decode cX11_loads 3 = .ok (.sipush 200, 3) := by decide +kernel
theorem dX11_loads_6 : decode cX11_loads 6 = .ok (.invokevirtual 130, 3) := by decide +kernel
theorem dX11_loads_9 : decode cX11_loads 9 = .ok (.ifCond .ne 5, 3) := by decide +kernel
theorem dX11_loads_12 : decode cX11_loads 12 = .ok (.iconst (-1), 1) := by decide +kernel
theorem dX11_loads_13 : decode cX11_loads 13 = .ok (.ireturn, 1) := by decide +kernel
theorem dX11_loads_14 : decode cX11_loads 14 = .ok (.aload_n 0, 1) := by decide +kernel
theorem dX11_loads_15 : decode cX11_loads 15 = .ok (.invokevirtual 227, 3) := by decide +kernel
theorem dX11_loads_18 : decode cX11_loads 18 = .ok (.aload_n 0, 1) := by decide +kernel
theorem dX11_loads_19 : decode cX11_loads 19 = .ok (.iload_n 1, 1) := by decide +kernel
theorem dX11_loads_20 : decode cX11_loads 20 = .ok (.invokevirtual 234, 3) := by decide +kernel
theorem dX11_loads_23 : decode cX11_loads 23 = .ok (.ireturn, 1) := by decide +kernel
theorem dX11_pull_0 : decode cX11_pull 0 = .ok (.aload_n 0, 1) := by decide +kernel
theorem dX11_pull_1 : decode cX11_pull 1 = .ok (.invokevirtual 227, 3) := by decide +kernel
theorem dX11_pull_4 : decode cX11_pull 4 = .ok (.iconst 0, 1) := by decide +kernel
theorem dX11_pull_5 : decode cX11_pull 5 = .ok (.istore_n 1, 1) := by decide +kernel
theorem dX11_pull_6 : decode cX11_pull 6 = .ok (.iload_n 1, 1) := by decide +kernel
theorem dX11_pull_7 : decode cX11_pull 7 = .ok (.sipush 200, 3) := by decide +kernel
theorem dX11_pull_10 : decode cX11_pull 10 = .ok (.if_icmp .gt 27, 3) := by decide +kernel
theorem dX11_pull_13 : decode cX11_pull 13 = .ok (.aload_n 0, 1) := by decide +kernel
theorem dX11_pull_14 : decode cX11_pull 14 = .ok (.iload_n 1, 1) := by decide +kernel
theorem dX11_pull_15 : decode cX11_pull 15 = .ok (.invokevirtual 234, 3) := by decide +kernel
theorem dX11_pull_18 : decode cX11_pull 18 = .ok (.iconst 1, 1) := by decide +kernel
theorem dX11_pull_19 : decode cX11_pull 19 = .ok (.aload_n 0, 1) := by decide +kernel
theorem dX11_pull_20 : decode cX11_pull 20 = .ok (.getfield 63, 3) := by decide +kernel
theorem dX11_pull_23 : decode cX11_pull 23 = .ok (.ishl, 1) := by decide +kernel
theorem dX11_pull_24 : decode cX11_pull 24 = .ok (.iconst 1, 1) := by decide +kernel
theorem dX11_pull_25 : decode cX11_pull 25 = .ok (.isub, 1) := by decide +kernel
theorem dX11_pull_26 : decode cX11_pull 26 = .ok (.if_icmp .ne 5, 3) := by decide +kernel
theorem dX11_pull_29 : decode cX11_pull 29 = .ok (.iload_n 1, 1) := by decide +kernel
theorem dX11_pull_30 : decode cX11_pull 30 = .ok (.ireturn, 1) := by decide +kernel
theorem dX11_pull_31 : decode cX11_pull 31 = .ok (.iinc 1 1, 3) := by decide +kernel
theorem dX11_pull_34 : decode cX11_pull 34 = .ok (.goto (-28), 3) := by decide +kernel
theorem dX11_pull_37 : decode cX11_pull 37 = .ok (.bipush (-4), 2) := by decide +kernel
theorem dX11_pull_39 : decode cX11_pull 39 = .ok (.ireturn, 1) := by decide +kernel
theorem dX11_determinant_0 : decode cX11_determinant 0 = .ok (.lconst 0, 1) := by decide +kernel
theorem dX11_determinant_1 : decode cX11_determinant 1 = .ok (.lstore_n 2, 1) := by decide +kernel
theorem dX11_determinant_2 : decode cX11_determinant 2 = .ok (.iconst 0, 1) := by decide +kernel
theorem dX11_determinant_3 : decode cX11_determinant 3 = .ok (.istore 4, 2) := by decide +kernel
theorem dX11_determinant_5 : decode cX11_determinant 5 = .ok (.iload 4, 2) := by decide +kernel
theorem dX11_determinant_7 : decode cX11_determinant 7 = .ok (.iconst 3, 1) := by decide +kernel
theorem dX11_determinant_8 : decode cX11_determinant 8 = .ok (.if_icmp .ge 72, 3) := by decide +kernel
theorem dX11_determinant_11 : decode cX11_determinant 11 = .ok (.iload 4, 2) := by decide +kernel
theorem dX11_determinant_13 : decode cX11_determinant 13 = .ok (.iconst 1, 1) := by decide +kernel
theorem dX11_determinant_14 : decode cX11_determinant 14 = .ok (.iadd, 1) := by decide +kernel
theorem dX11_determinant_15 : decode cX11_determinant 15 = .ok (.iconst 3, 1) := by decide +kernel
theorem dX11_determinant_16 : decode cX11_determinant 16 = .ok (.irem, 1) := by decide +kernel
theorem dX11_determinant_17 : decode cX11_determinant 17 = .ok (.istore 5, 2) := by decide +kernel
theorem dX11_determinant_19 : decode cX11_determinant 19 = .ok (.iload 4, 2) := by decide +kernel
theorem dX11_determinant_21 : decode cX11_determinant 21 = .ok (.iconst 2, 1) := by decide +kernel
theorem dX11_determinant_22 : decode cX11_determinant 22 = .ok (.iadd, 1) := by decide +kernel
theorem dX11_determinant_23 : decode cX11_determinant 23 = .ok (.iconst 3, 1) := by decide +kernel
theorem dX11_determinant_24 : decode cX11_determinant 24 = .ok (.irem, 1) := by decide +kernel
theorem dX11_determinant_25 : decode cX11_determinant 25 = .ok (.istore 6, 2) := by decide +kernel
theorem dX11_determinant_27 : decode cX11_determinant 27 = .ok (.lload_n 2, 1) := by decide +kernel
theorem dX11_determinant_28 : decode cX11_determinant 28 = .ok (.aload_n 0, 1) := by decide +kernel
theorem dX11_determinant_29 : decode cX11_determinant 29 = .ok (.iconst 0, 1) := by decide +kernel
theorem dX11_determinant_30 : decode cX11_determinant 30 = .ok (.iload 4, 2) := by decide +kernel
theorem dX11_determinant_32 : decode cX11_determinant 32 = .ok (.iload_n 1, 1) := by decide +kernel
theorem dX11_determinant_33 : decode cX11_determinant 33 = .ok (.invokevirtual 237, 3) := by decide +kernel
theorem dX11_determinant_36 : decode cX11_determinant 36 = .ok (.aload_n 0, 1) := by decide +kernel
theorem dX11_determinant_37 : decode cX11_determinant 37 = .ok (.iconst 1, 1) := by decide +kernel
theorem dX11_determinant_38 : decode cX11_determinant 38 = .ok (.iload 5, 2) := by decide +kernel
theorem dX11_determinant_40 : decode cX11_determinant 40 = .ok (.iload_n 1, 1) := by decide +kernel
theorem dX11_determinant_41 : decode cX11_determinant 41 = .ok (.invokevirtual 237, 3) := by decide +kernel
theorem dX11_determinant_44 : decode cX11_determinant 44 = .ok (.aload_n 0, 1) := by decide +kernel
theorem dX11_determinant_45 : decode cX11_determinant 45 = .ok (.iconst 2, 1) := by decide +kernel
theorem dX11_determinant_46 : decode cX11_determinant 46 = .ok (.iload 6, 2) := by decide +kernel
theorem dX11_determinant_48 : decode cX11_determinant 48 = .ok (.iload_n 1, 1) := by decide +kernel
theorem dX11_determinant_49 : decode cX11_determinant 49 = .ok (.invokevirtual 237, 3) := by decide +kernel
theorem dX11_determinant_52 : decode cX11_determinant 52 = .ok (.lmul, 1) := by decide +kernel
theorem dX11_determinant_53 : decode cX11_determinant 53 = .ok (.aload_n 0, 1) := by decide +kernel
theorem dX11_determinant_54 : decode cX11_determinant 54 = .ok (.iconst 1, 1) := by decide +kernel
theorem dX11_determinant_55 : decode cX11_determinant 55 = .ok (.iload 6, 2) := by decide +kernel
theorem dX11_determinant_57 : decode cX11_determinant 57 = .ok (.iload_n 1, 1) := by decide +kernel
theorem dX11_determinant_58 : decode cX11_determinant 58 = .ok (.invokevirtual 237, 3) := by decide +kernel
theorem dX11_determinant_61 : decode cX11_determinant 61 = .ok (.aload_n 0, 1) := by decide +kernel
theorem dX11_determinant_62 : decode cX11_determinant 62 = .ok (.iconst 2, 1) := by decide +kernel
theorem dX11_determinant_63 : decode cX11_determinant 63 = .ok (.iload 5, 2) := by decide +kernel
theorem dX11_determinant_65 : decode cX11_determinant 65 = .ok (.iload_n 1, 1) := by decide +kernel
theorem dX11_determinant_66 : decode cX11_determinant 66 = .ok (.invokevirtual 237, 3) := by decide +kernel
theorem dX11_determinant_69 : decode cX11_determinant 69 = .ok (.lmul, 1) := by decide +kernel
theorem dX11_determinant_70 : decode cX11_determinant 70 = .ok (.lsub, 1) := by decide +kernel
theorem dX11_determinant_71 : decode cX11_determinant 71 = .ok (.lmul, 1) := by decide +kernel
theorem dX11_determinant_72 : decode cX11_determinant 72 = .ok (.ladd, 1) := by decide +kernel
theorem dX11_determinant_73 : decode cX11_determinant 73 = .ok (.lstore_n 2, 1) := by decide +kernel
theorem dX11_determinant_74 : decode cX11_determinant 74 = .ok (.iinc 4 1, 3) := by decide +kernel
theorem dX11_determinant_77 : decode cX11_determinant 77 = .ok (.goto (-72), 3) := by decide +kernel
theorem dX11_determinant_80 : decode cX11_determinant 80 = .ok (.lload_n 2, 1) := by decide +kernel
theorem dX11_determinant_81 : decode cX11_determinant 81 = .ok (.lreturn, 1) := by decide +kernel
theorem dX11_at_0 : decode cX11_at 0 = .ok (.iload_n 1, 1) := by decide +kernel
theorem dX11_at_1 : decode cX11_at 1 = .ok (.iload_n 3, 1) := by decide +kernel
theorem dX11_at_2 : decode cX11_at 2 = .ok (.if_icmp .ne 12, 3) := by decide +kernel
theorem dX11_at_5 : decode cX11_at 5 = .ok (.aload_n 0, 1) := by decide +kernel
theorem dX11_at_6 : decode cX11_at 6 = .ok (.getfield 72, 3) := by decide +kernel
theorem dX11_at_9 : decode cX11_at 9 = .ok (.iload_n 2, 1) := by decide +kernel
theorem dX11_at_10 : decode cX11_at 10 = .ok (.laload, 1) := by decide +kernel
theorem dX11_at_11 : decode cX11_at 11 = .ok (.goto 13, 3) := by decide +kernel
theorem dX11_at_14 : decode cX11_at 14 = .ok (.aload_n 0, 1) := by decide +kernel
theorem dX11_at_15 : decode cX11_at 15 = .ok (.getfield 69, 3) := by decide +kernel
theorem dX11_at_18 : decode cX11_at 18 = .ok (.iconst 3, 1) := by decide +kernel
theorem dX11_at_19 : decode cX11_at 19 = .ok (.iload_n 1, 1) := by decide +kernel
theorem dX11_at_20 : decode cX11_at 20 = .ok (.imul, 1) := by decide +kernel
theorem dX11_at_21 : decode cX11_at 21 = .ok (.iload_n 2, 1) := by decide +kernel
theorem dX11_at_22 : decode cX11_at 22 = .ok (.iadd, 1) := by decide +kernel
theorem dX11_at_23 : decode cX11_at 23 = .ok (.laload, 1) := by decide +kernel
theorem dX11_at_24 : decode cX11_at 24 = .ok (.lreturn, 1) := by decide +kernel
theorem dX11_setFeature_0 : decode cX11_setFeature 0 = .ok (.iconst 0, 1) := by decide +kernel
theorem dX11_setFeature_1 : decode cX11_setFeature 1 = .ok (.istore 4, 2) := by decide +kernel
theorem dX11_setFeature_3 : decode cX11_setFeature 3 = .ok (.iload 4, 2) := by decide +kernel
theorem dX11_setFeature_5 : decode cX11_setFeature 5 = .ok (.iconst 3, 1) := by decide +kernel
theorem dX11_setFeature_6 : decode cX11_setFeature 6 = .ok (.if_icmp .ge 36, 3) := by decide +kernel
theorem dX11_setFeature_9 : decode cX11_setFeature 9 = .ok (.aload_n 0, 1) := by decide +kernel
theorem dX11_setFeature_10 : decode cX11_setFeature 10 = .ok (.getfield 72, 3) := by decide +kernel
theorem dX11_setFeature_13 : decode cX11_setFeature 13 = .ok (.iload 4, 2) := by decide +kernel
theorem dX11_setFeature_15 : decode cX11_setFeature 15 = .ok (.aload_n 0, 1) := by decide +kernel
theorem dX11_setFeature_16 : decode cX11_setFeature 16 = .ok (.aload_n 0, 1) := by decide +kernel
theorem dX11_setFeature_17 : decode cX11_setFeature 17 = .ok (.iload_n 3, 1) := by decide +kernel
theorem dX11_setFeature_18 : decode cX11_setFeature 18 = .ok (.invokevirtual 149, 3) := by decide +kernel
theorem dX11_setFeature_21 : decode cX11_setFeature 21 = .ok (.i2l, 1) := by decide +kernel
theorem dX11_setFeature_22 : decode cX11_setFeature 22 = .ok (.aload_n 0, 1) := by decide +kernel
theorem dX11_setFeature_23 : decode cX11_setFeature 23 = .ok (.iload_n 3, 1) := by decide +kernel
theorem dX11_setFeature_24 : decode cX11_setFeature 24 = .ok (.invokevirtual 152, 3) := by decide +kernel
theorem dX11_setFeature_27 : decode cX11_setFeature 27 = .ok (.i2l, 1) := by decide +kernel
theorem dX11_setFeature_28 : decode cX11_setFeature 28 = .ok (.iload_n 1, 1) := by decide +kernel
theorem dX11_setFeature_29 : decode cX11_setFeature 29 = .ok (.iload_n 2, 1) := by decide +kernel
theorem dX11_setFeature_30 : decode cX11_setFeature 30 = .ok (.iload 4, 2) := by decide +kernel
theorem dX11_setFeature_32 : decode cX11_setFeature 32 = .ok (.invokevirtual 155, 3) := by decide +kernel
theorem dX11_setFeature_35 : decode cX11_setFeature 35 = .ok (.lastore, 1) := by decide +kernel
theorem dX11_setFeature_36 : decode cX11_setFeature 36 = .ok (.iinc 4 1, 3) := by decide +kernel
theorem dX11_setFeature_39 : decode cX11_setFeature 39 = .ok (.goto (-36), 3) := by decide +kernel
theorem dX11_setFeature_42 : decode cX11_setFeature 42 = .ok (.return_, 1) := by decide +kernel
theorem dX11_findWorst_0 : decode cX11_findWorst 0 = .ok (.iconst 0, 1) := by decide +kernel
theorem dX11_findWorst_1 : decode cX11_findWorst 1 = .ok (.istore 4, 2) := by decide +kernel
theorem dX11_findWorst_3 : decode cX11_findWorst 3 = .ok (.iload 4, 2) := by decide +kernel
theorem dX11_findWorst_5 : decode cX11_findWorst 5 = .ok (.iconst 3, 1) := by decide +kernel
theorem dX11_findWorst_6 : decode cX11_findWorst 6 = .ok (.if_icmp .ge 56, 3) := by decide +kernel
theorem dX11_findWorst_9 : decode cX11_findWorst 9 = .ok (.aload_n 0, 1) := by decide +kernel
theorem dX11_findWorst_10 : decode cX11_findWorst 10 = .ok (.getfield 69, 3) := by decide +kernel
theorem dX11_findWorst_13 : decode cX11_findWorst 13 = .ok (.iload 4, 2) := by decide +kernel
theorem dX11_findWorst_15 : decode cX11_findWorst 15 = .ok (.aload_n 0, 1) := by decide +kernel
theorem dX11_findWorst_16 : decode cX11_findWorst 16 = .ok (.iload_n 1, 1) := by decide +kernel
theorem dX11_findWorst_17 : decode cX11_findWorst 17 = .ok (.iload 4, 2) := by decide +kernel
theorem dX11_findWorst_19 : decode cX11_findWorst 19 = .ok (.invokevirtual 161, 3) := by decide +kernel
theorem dX11_findWorst_22 : decode cX11_findWorst 22 = .ok (.lastore, 1) := by decide +kernel
theorem dX11_findWorst_23 : decode cX11_findWorst 23 = .ok (.aload_n 0, 1) := by decide +kernel
theorem dX11_findWorst_24 : decode cX11_findWorst 24 = .ok (.getfield 69, 3) := by decide +kernel
theorem dX11_findWorst_27 : decode cX11_findWorst 27 = .ok (.iconst 3, 1) := by decide +kernel
theorem dX11_findWorst_28 : decode cX11_findWorst 28 = .ok (.iload 4, 2) := by decide +kernel
theorem dX11_findWorst_30 : decode cX11_findWorst 30 = .ok (.iadd, 1) := by decide +kernel
theorem dX11_findWorst_31 : decode cX11_findWorst 31 = .ok (.aload_n 0, 1) := by decide +kernel
theorem dX11_findWorst_32 : decode cX11_findWorst 32 = .ok (.iload_n 2, 1) := by decide +kernel
theorem dX11_findWorst_33 : decode cX11_findWorst 33 = .ok (.iload 4, 2) := by decide +kernel
theorem dX11_findWorst_35 : decode cX11_findWorst 35 = .ok (.invokevirtual 161, 3) := by decide +kernel
theorem dX11_findWorst_38 : decode cX11_findWorst 38 = .ok (.lastore, 1) := by decide +kernel
theorem dX11_findWorst_39 : decode cX11_findWorst 39 = .ok (.aload_n 0, 1) := by decide +kernel
theorem dX11_findWorst_40 : decode cX11_findWorst 40 = .ok (.getfield 69, 3) := by decide +kernel
theorem dX11_findWorst_43 : decode cX11_findWorst 43 = .ok (.bipush 6, 2) := by decide +kernel
theorem dX11_findWorst_45 : decode cX11_findWorst 45 = .ok (.iload 4, 2) := by decide +kernel
theorem dX11_findWorst_47 : decode cX11_findWorst 47 = .ok (.iadd, 1) := by decide +kernel
theorem dX11_findWorst_48 : decode cX11_findWorst 48 = .ok (.aload_n 0, 1) := by decide +kernel
theorem dX11_findWorst_49 : decode cX11_findWorst 49 = .ok (.iload_n 3, 1) := by decide +kernel
theorem dX11_findWorst_50 : decode cX11_findWorst 50 = .ok (.iload 4, 2) := by decide +kernel
theorem dX11_findWorst_52 : decode cX11_findWorst 52 = .ok (.invokevirtual 161, 3) := by decide +kernel
theorem dX11_findWorst_55 : decode cX11_findWorst 55 = .ok (.lastore, 1) := by decide +kernel
theorem dX11_findWorst_56 : decode cX11_findWorst 56 = .ok (.iinc 4 1, 3) := by decide +kernel
theorem dX11_findWorst_59 : decode cX11_findWorst 59 = .ok (.goto (-56), 3) := by decide +kernel
theorem dX11_findWorst_62 : decode cX11_findWorst 62 = .ok (.aload_n 0, 1) := by decide +kernel
theorem dX11_findWorst_63 : decode cX11_findWorst 63 = .ok (.aload_n 0, 1) := by decide +kernel
theorem dX11_findWorst_64 : decode cX11_findWorst 64 = .ok (.aload_n 0, 1) := by decide +kernel
theorem dX11_findWorst_65 : decode cX11_findWorst 65 = .ok (.iconst (-1), 1) := by decide +kernel
theorem dX11_findWorst_66 : decode cX11_findWorst 66 = .ok (.invokevirtual 240, 3) := by decide +kernel
theorem dX11_findWorst_69 : decode cX11_findWorst 69 = .ok (.invokevirtual 191, 3) := by decide +kernel
theorem dX11_findWorst_72 : decode cX11_findWorst 72 = .ok (.putfield 79, 3) := by decide +kernel
theorem dX11_findWorst_75 : decode cX11_findWorst 75 = .ok (.aload_n 0, 1) := by decide +kernel
theorem dX11_findWorst_76 : decode cX11_findWorst 76 = .ok (.aload_n 0, 1) := by decide +kernel
theorem dX11_findWorst_77 : decode cX11_findWorst 77 = .ok (.aload_n 0, 1) := by decide +kernel
theorem dX11_findWorst_78 : decode cX11_findWorst 78 = .ok (.iconst 0, 1) := by decide +kernel
theorem dX11_findWorst_79 : decode cX11_findWorst 79 = .ok (.invokevirtual 240, 3) := by decide +kernel
theorem dX11_findWorst_82 : decode cX11_findWorst 82 = .ok (.invokevirtual 191, 3) := by decide +kernel
theorem dX11_findWorst_85 : decode cX11_findWorst 85 = .ok (.aload_n 0, 1) := by decide +kernel
theorem dX11_findWorst_86 : decode cX11_findWorst 86 = .ok (.getfield 35, 3) := by decide +kernel
theorem dX11_findWorst_89 : decode cX11_findWorst 89 = .ok (.iload_n 1, 1) := by decide +kernel
theorem dX11_findWorst_90 : decode cX11_findWorst 90 = .ok (.iaload, 1) := by decide +kernel
theorem dX11_findWorst_91 : decode cX11_findWorst 91 = .ok (.i2l, 1) := by decide +kernel
theorem dX11_findWorst_92 : decode cX11_findWorst 92 = .ok (.lmul, 1) := by decide +kernel
theorem dX11_findWorst_93 : decode cX11_findWorst 93 = .ok (.aload_n 0, 1) := by decide +kernel
theorem dX11_findWorst_94 : decode cX11_findWorst 94 = .ok (.aload_n 0, 1) := by decide +kernel
theorem dX11_findWorst_95 : decode cX11_findWorst 95 = .ok (.iconst 1, 1) := by decide +kernel
theorem dX11_findWorst_96 : decode cX11_findWorst 96 = .ok (.invokevirtual 240, 3) := by decide +kernel
theorem dX11_findWorst_99 : decode cX11_findWorst 99 = .ok (.invokevirtual 191, 3) := by decide +kernel
theorem dX11_findWorst_102 : decode cX11_findWorst 102 = .ok (.aload_n 0, 1) := by decide +kernel
theorem dX11_findWorst_103 : decode cX11_findWorst 103 = .ok (.getfield 35, 3) := by decide +kernel
theorem dX11_findWorst_106 : decode cX11_findWorst 106 = .ok (.iload_n 2, 1) := by decide +kernel
theorem dX11_findWorst_107 : decode cX11_findWorst 107 = .ok (.iaload, 1) := by decide +kernel
theorem dX11_findWorst_108 : decode cX11_findWorst 108 = .ok (.i2l, 1) := by decide +kernel
theorem dX11_findWorst_109 : decode cX11_findWorst 109 = .ok (.lmul, 1) := by decide +kernel
theorem dX11_findWorst_110 : decode cX11_findWorst 110 = .ok (.ladd, 1) := by decide +kernel
theorem dX11_findWorst_111 : decode cX11_findWorst 111 = .ok (.aload_n 0, 1) := by decide +kernel
theorem dX11_findWorst_112 : decode cX11_findWorst 112 = .ok (.aload_n 0, 1) := by decide +kernel
theorem dX11_findWorst_113 : decode cX11_findWorst 113 = .ok (.iconst 2, 1) := by decide +kernel
theorem dX11_findWorst_114 : decode cX11_findWorst 114 = .ok (.invokevirtual 240, 3) := by decide +kernel
theorem dX11_findWorst_117 : decode cX11_findWorst 117 = .ok (.invokevirtual 191, 3) := by decide +kernel
theorem dX11_findWorst_120 : decode cX11_findWorst 120 = .ok (.aload_n 0, 1) := by decide +kernel
theorem dX11_findWorst_121 : decode cX11_findWorst 121 = .ok (.getfield 35, 3) := by decide +kernel
theorem dX11_findWorst_124 : decode cX11_findWorst 124 = .ok (.iload_n 3, 1) := by decide +kernel
theorem dX11_findWorst_125 : decode cX11_findWorst 125 = .ok (.iaload, 1) := by decide +kernel
theorem dX11_findWorst_126 : decode cX11_findWorst 126 = .ok (.i2l, 1) := by decide +kernel
theorem dX11_findWorst_127 : decode cX11_findWorst 127 = .ok (.lmul, 1) := by decide +kernel
theorem dX11_findWorst_128 : decode cX11_findWorst 128 = .ok (.ladd, 1) := by decide +kernel
theorem dX11_findWorst_129 : decode cX11_findWorst 129 = .ok (.putfield 75, 3) := by decide +kernel
theorem dX11_findWorst_132 : decode cX11_findWorst 132 = .ok (.aload_n 0, 1) := by decide +kernel
theorem dX11_findWorst_133 : decode cX11_findWorst 133 = .ok (.getfield 79, 3) := by decide +kernel
theorem dX11_findWorst_136 : decode cX11_findWorst 136 = .ok (.lconst 0, 1) := by decide +kernel
theorem dX11_findWorst_137 : decode cX11_findWorst 137 = .ok (.lcmp, 1) := by decide +kernel
theorem dX11_findWorst_138 : decode cX11_findWorst 138 = .ok (.ifCond .eq 7, 3) := by decide +kernel
theorem dX11_findWorst_141 : decode cX11_findWorst 141 = .ok (.iconst 1, 1) := by decide +kernel
theorem dX11_findWorst_142 : decode cX11_findWorst 142 = .ok (.goto 4, 3) := by decide +kernel
theorem dX11_findWorst_145 : decode cX11_findWorst 145 = .ok (.iconst 0, 1) := by decide +kernel
theorem dX11_findWorst_146 : decode cX11_findWorst 146 = .ok (.ireturn, 1) := by decide +kernel
theorem dX11_isFeature_0 : decode cX11_isFeature 0 = .ok (.aload_n 0, 1) := by decide +kernel
theorem dX11_isFeature_1 : decode cX11_isFeature 1 = .ok (.iload_n 1, 1) := by decide +kernel
theorem dX11_isFeature_2 : decode cX11_isFeature 2 = .ok (.iload_n 2, 1) := by decide +kernel
theorem dX11_isFeature_3 : decode cX11_isFeature 3 = .ok (.invokevirtual 134, 3) := by decide +kernel
theorem dX11_isFeature_6 : decode cX11_isFeature 6 = .ok (.ifCond .eq 18, 3) := by decide +kernel
theorem dX11_isFeature_9 : decode cX11_isFeature 9 = .ok (.aload_n 0, 1) := by decide +kernel
theorem dX11_isFeature_10 : decode cX11_isFeature 10 = .ok (.iload_n 3, 1) := by decide +kernel
theorem dX11_isFeature_11 : decode cX11_isFeature 11 = .ok (.iconst 0, 1) := by decide +kernel
theorem dX11_isFeature_12 : decode cX11_isFeature 12 = .ok (.bipush 7, 2) := by decide +kernel
theorem dX11_isFeature_14 : decode cX11_isFeature 14 = .ok (.invokevirtual 130, 3) := by decide +kernel
theorem dX11_isFeature_17 : decode cX11_isFeature 17 = .ok (.ifCond .eq 7, 3) := by decide +kernel
theorem dX11_isFeature_20 : decode cX11_isFeature 20 = .ok (.iconst 1, 1) := by decide +kernel
theorem dX11_isFeature_21 : decode cX11_isFeature 21 = .ok (.goto 4, 3) := by decide +kernel
theorem dX11_isFeature_24 : decode cX11_isFeature 24 = .ok (.iconst 0, 1) := by decide +kernel
theorem dX11_isFeature_25 : decode cX11_isFeature 25 = .ok (.ireturn, 1) := by decide +kernel
theorem dX11_canPlace_0 : decode cX11_canPlace 0 = .ok (.aload_n 0, 1) := by decide +kernel
theorem dX11_canPlace_1 : decode cX11_canPlace 1 = .ok (.iload_n 1, 1) := by decide +kernel
theorem dX11_canPlace_2 : decode cX11_canPlace 2 = .ok (.invokevirtual 142, 3) := by decide +kernel
theorem dX11_canPlace_5 : decode cX11_canPlace 5 = .ok (.ifCond .eq 17, 3) := by decide +kernel
theorem dX11_canPlace_8 : decode cX11_canPlace 8 = .ok (.aload_n 0, 1) := by decide +kernel
theorem dX11_canPlace_9 : decode cX11_canPlace 9 = .ok (.getfield 16, 3) := by decide +kernel
theorem dX11_canPlace_12 : decode cX11_canPlace 12 = .ok (.iload_n 1, 1) := by decide +kernel
theorem dX11_canPlace_13 : decode cX11_canPlace 13 = .ok (.iaload, 1) := by decide +kernel
theorem dX11_canPlace_14 : decode cX11_canPlace 14 = .ok (.iconst 2, 1) := by decide +kernel
theorem dX11_canPlace_15 : decode cX11_canPlace 15 = .ok (.if_icmp .eq 7, 3) := by decide +kernel
theorem dX11_canPlace_18 : decode cX11_canPlace 18 = .ok (.iconst 1, 1) := by decide +kernel
theorem dX11_canPlace_19 : decode cX11_canPlace 19 = .ok (.goto 4, 3) := by decide +kernel
theorem dX11_canPlace_22 : decode cX11_canPlace 22 = .ok (.iconst 0, 1) := by decide +kernel
theorem dX11_canPlace_23 : decode cX11_canPlace 23 = .ok (.ireturn, 1) := by decide +kernel
theorem dX11_worst_0 : decode cX11_worst 0 = .ok (.iload 4, 2) := by decide +kernel
theorem dX11_worst_2 : decode cX11_worst 2 = .ok (.bipush 10, 2) := by decide +kernel
theorem dX11_worst_4 : decode cX11_worst 4 = .ok (.irem, 1) := by decide +kernel
theorem dX11_worst_5 : decode cX11_worst 5 = .ok (.istore 6, 2) := by decide +kernel
theorem dX11_worst_7 : decode cX11_worst 7 = .ok (.iload 4, 2) := by decide +kernel
theorem dX11_worst_9 : decode cX11_worst 9 = .ok (.bipush 10, 2) := by decide +kernel
theorem dX11_worst_11 : decode cX11_worst 11 = .ok (.idiv, 1) := by decide +kernel
theorem dX11_worst_12 : decode cX11_worst 12 = .ok (.bipush 10, 2) := by decide +kernel
theorem dX11_worst_14 : decode cX11_worst 14 = .ok (.irem, 1) := by decide +kernel
theorem dX11_worst_15 : decode cX11_worst 15 = .ok (.istore 7, 2) := by decide +kernel
theorem dX11_worst_17 : decode cX11_worst 17 = .ok (.iload 4, 2) := by decide +kernel
theorem dX11_worst_19 : decode cX11_worst 19 = .ok (.bipush 100, 2) := by decide +kernel
theorem dX11_worst_21 : decode cX11_worst 21 = .ok (.idiv, 1) := by decide +kernel
theorem dX11_worst_22 : decode cX11_worst 22 = .ok (.istore 8, 2) := by decide +kernel
theorem dX11_worst_24 : decode cX11_worst 24 = .ok (.aload_n 0, 1) := by decide +kernel
theorem dX11_worst_25 : decode cX11_worst 25 = .ok (.iload_n 1, 1) := by decide +kernel
theorem dX11_worst_26 : decode cX11_worst 26 = .ok (.iload_n 2, 1) := by decide +kernel
theorem dX11_worst_27 : decode cX11_worst 27 = .ok (.iload_n 3, 1) := by decide +kernel
theorem dX11_worst_28 : decode cX11_worst 28 = .ok (.invokevirtual 243, 3) := by decide +kernel
theorem dX11_worst_31 : decode cX11_worst 31 = .ok (.ifCond .eq 60, 3) := by decide +kernel
theorem dX11_worst_34 : decode cX11_worst 34 = .ok (.iload 4, 2) := by decide +kernel
theorem dX11_worst_36 : decode cX11_worst 36 = .ok (.ifCond .lt 55, 3) := by decide +kernel
theorem dX11_worst_39 : decode cX11_worst 39 = .ok (.aload_n 0, 1) := by decide +kernel
theorem dX11_worst_40 : decode cX11_worst 40 = .ok (.iload 6, 2) := by decide +kernel
theorem dX11_worst_42 : decode cX11_worst 42 = .ok (.invokevirtual 246, 3) := by decide +kernel
theorem dX11_worst_45 : decode cX11_worst 45 = .ok (.ifCond .eq 46, 3) := by decide +kernel
theorem dX11_worst_48 : decode cX11_worst 48 = .ok (.aload_n 0, 1) := by decide +kernel
theorem dX11_worst_49 : decode cX11_worst 49 = .ok (.iload 7, 2) := by decide +kernel
theorem dX11_worst_51 : decode cX11_worst 51 = .ok (.invokevirtual 246, 3) := by decide +kernel
theorem dX11_worst_54 : decode cX11_worst 54 = .ok (.ifCond .eq 37, 3) := by decide +kernel
theorem dX11_worst_57 : decode cX11_worst 57 = .ok (.aload_n 0, 1) := by decide +kernel
theorem dX11_worst_58 : decode cX11_worst 58 = .ok (.iload 8, 2) := by decide +kernel
theorem dX11_worst_60 : decode cX11_worst 60 = .ok (.invokevirtual 246, 3) := by decide +kernel
theorem dX11_worst_63 : decode cX11_worst 63 = .ok (.ifCond .eq 28, 3) := by decide +kernel
theorem dX11_worst_66 : decode cX11_worst 66 = .ok (.iload 6, 2) := by decide +kernel
theorem dX11_worst_68 : decode cX11_worst 68 = .ok (.iload 7, 2) := by decide +kernel
theorem dX11_worst_70 : decode cX11_worst 70 = .ok (.if_icmp .eq 21, 3) := by decide +kernel
theorem dX11_worst_73 : decode cX11_worst 73 = .ok (.iload 6, 2) := by decide +kernel
theorem dX11_worst_75 : decode cX11_worst 75 = .ok (.iload 8, 2) := by decide +kernel
theorem dX11_worst_77 : decode cX11_worst 77 = .ok (.if_icmp .eq 14, 3) := by decide +kernel
theorem dX11_worst_80 : decode cX11_worst 80 = .ok (.iload 7, 2) := by decide +kernel
theorem dX11_worst_82 : decode cX11_worst 82 = .ok (.iload 8, 2) := by decide +kernel
theorem dX11_worst_84 : decode cX11_worst 84 = .ok (.if_icmp .eq 7, 3) := by decide +kernel
theorem dX11_worst_87 : decode cX11_worst 87 = .ok (.iconst 1, 1) := by decide +kernel
theorem dX11_worst_88 : decode cX11_worst 88 = .ok (.goto 4, 3) := by decide +kernel
theorem dX11_worst_91 : decode cX11_worst 91 = .ok (.iconst 0, 1) := by decide +kernel
theorem dX11_worst_92 : decode cX11_worst 92 = .ok (.istore 9, 2) := by decide +kernel
theorem dX11_worst_94 : decode cX11_worst 94 = .ok (.aload_n 0, 1) := by decide +kernel
theorem dX11_worst_95 : decode cX11_worst 95 = .ok (.iload 9, 2) := by decide +kernel
theorem dX11_worst_97 : decode cX11_worst 97 = .ok (.ifCond .eq 7, 3) := by decide +kernel
theorem dX11_worst_100 : decode cX11_worst 100 = .ok (.iconst 0, 1) := by decide +kernel
theorem dX11_worst_101 : decode cX11_worst 101 = .ok (.goto 4, 3) := by decide +kernel
theorem dX11_worst_104 : decode cX11_worst 104 = .ok (.iconst 1, 1) := by decide +kernel
theorem dX11_worst_105 : decode cX11_worst 105 = .ok (.putfield 7, 3) := by decide +kernel
theorem dX11_worst_108 : decode cX11_worst 108 = .ok (.iload 9, 2) := by decide +kernel
theorem dX11_worst_110 : decode cX11_worst 110 = .ok (.ifCond .ne 5, 3) := by decide +kernel
theorem dX11_worst_113 : decode cX11_worst 113 = .ok (.lconst 0, 1) := by decide +kernel
theorem dX11_worst_114 : decode cX11_worst 114 = .ok (.lreturn, 1) := by decide +kernel
theorem dX11_worst_115 : decode cX11_worst 115 = .ok (.aload_n 0, 1) := by decide +kernel
theorem dX11_worst_116 : decode cX11_worst 116 = .ok (.iload_n 1, 1) := by decide +kernel
theorem dX11_worst_117 : decode cX11_worst 117 = .ok (.iload_n 2, 1) := by decide +kernel
theorem dX11_worst_118 : decode cX11_worst 118 = .ok (.iload_n 3, 1) := by decide +kernel
theorem dX11_worst_119 : decode cX11_worst 119 = .ok (.invokevirtual 249, 3) := by decide +kernel
theorem dX11_worst_122 : decode cX11_worst 122 = .ok (.aload_n 0, 1) := by decide +kernel
theorem dX11_worst_123 : decode cX11_worst 123 = .ok (.iload 6, 2) := by decide +kernel
theorem dX11_worst_125 : decode cX11_worst 125 = .ok (.iload 7, 2) := by decide +kernel
theorem dX11_worst_127 : decode cX11_worst 127 = .ok (.iload 8, 2) := by decide +kernel
theorem dX11_worst_129 : decode cX11_worst 129 = .ok (.invokevirtual 253, 3) := by decide +kernel
theorem dX11_worst_132 : decode cX11_worst 132 = .ok (.ifCond .ne 10, 3) := by decide +kernel
theorem dX11_worst_135 : decode cX11_worst 135 = .ok (.aload_n 0, 1) := by decide +kernel
theorem dX11_worst_136 : decode cX11_worst 136 = .ok (.iconst 2, 1) := by decide +kernel
theorem dX11_worst_137 : decode cX11_worst 137 = .ok (.putfield 7, 3) := by decide +kernel
theorem dX11_worst_140 : decode cX11_worst 140 = .ok (.lconst 0, 1) := by decide +kernel
theorem dX11_worst_141 : decode cX11_worst 141 = .ok (.lreturn, 1) := by decide +kernel
theorem dX11_worst_142 : decode cX11_worst 142 = .ok (.aload_n 0, 1) := by decide +kernel
theorem dX11_worst_143 : decode cX11_worst 143 = .ok (.aload_n 0, 1) := by decide +kernel
theorem dX11_worst_144 : decode cX11_worst 144 = .ok (.getfield 75, 3) := by decide +kernel
theorem dX11_worst_147 : decode cX11_worst 147 = .ok (.aload_n 0, 1) := by decide +kernel
theorem dX11_worst_148 : decode cX11_worst 148 = .ok (.getfield 79, 3) := by decide +kernel
theorem dX11_worst_151 : decode cX11_worst 151 = .ok (.invokevirtual 201, 3) := by decide +kernel
theorem dX11_worst_154 : decode cX11_worst 154 = .ok (.lstore 10, 2) := by decide +kernel
theorem dX11_worst_156 : decode cX11_worst 156 = .ok (.iload 5, 2) := by decide +kernel
theorem dX11_worst_158 : decode cX11_worst 158 = .ok (.ifCond .eq 13, 3) := by decide +kernel
theorem dX11_worst_161 : decode cX11_worst 161 = .ok (.aload_n 0, 1) := by decide +kernel
theorem dX11_worst_162 : decode cX11_worst 162 = .ok (.getfield 79, 3) := by decide +kernel
theorem dX11_worst_165 : decode cX11_worst 165 = .ok (.lload 10, 2) := by decide +kernel
theorem dX11_worst_167 : decode cX11_worst 167 = .ok (.ldiv, 1) := by decide +kernel
theorem dX11_worst_168 : decode cX11_worst 168 = .ok (.goto 10, 3) := by decide +kernel
theorem dX11_worst_171 : decode cX11_worst 171 = .ok (.aload_n 0, 1) := by decide +kernel
theorem dX11_worst_172 : decode cX11_worst 172 = .ok (.getfield 75, 3) := by decide +kernel
theorem dX11_worst_175 : decode cX11_worst 175 = .ok (.lload 10, 2) := by decide +kernel
theorem dX11_worst_177 : decode cX11_worst 177 = .ok (.ldiv, 1) := by decide +kernel
theorem dX11_worst_178 : decode cX11_worst 178 = .ok (.lreturn, 1) := by decide +kernel
theorem dX11_best_0 : decode cX11_best 0 = .ok (.aload_n 0, 1) := by decide +kernel
theorem dX11_best_1 : decode cX11_best 1 = .ok (.iload_n 1, 1) := by decide +kernel
theorem dX11_best_2 : decode cX11_best 2 = .ok (.iload_n 2, 1) := by decide +kernel
theorem dX11_best_3 : decode cX11_best 3 = .ok (.iload_n 3, 1) := by decide +kernel
theorem dX11_best_4 : decode cX11_best 4 = .ok (.invokevirtual 243, 3) := by decide +kernel
theorem dX11_best_7 : decode cX11_best 7 = .ok (.ifCond .ne 5, 3) := by decide +kernel
theorem dX11_best_10 : decode cX11_best 10 = .ok (.iconst (-1), 1) := by decide +kernel
theorem dX11_best_11 : decode cX11_best 11 = .ok (.ireturn, 1) := by decide +kernel
theorem dX11_best_12 : decode cX11_best 12 = .ok (.aload_n 0, 1) := by decide +kernel
theorem dX11_best_13 : decode cX11_best 13 = .ok (.iload_n 1, 1) := by decide +kernel
theorem dX11_best_14 : decode cX11_best 14 = .ok (.iload_n 2, 1) := by decide +kernel
theorem dX11_best_15 : decode cX11_best 15 = .ok (.iload_n 3, 1) := by decide +kernel
theorem dX11_best_16 : decode cX11_best 16 = .ok (.invokevirtual 249, 3) := by decide +kernel
theorem dX11_best_19 : decode cX11_best 19 = .ok (.bipush (-4), 2) := by decide +kernel
theorem dX11_best_21 : decode cX11_best 21 = .ok (.istore 4, 2) := by decide +kernel
theorem dX11_best_23 : decode cX11_best 23 = .ok (.lconst 0, 1) := by decide +kernel
theorem dX11_best_24 : decode cX11_best 24 = .ok (.lstore 5, 2) := by decide +kernel
theorem dX11_best_26 : decode cX11_best 26 = .ok (.lconst 1, 1) := by decide +kernel
theorem dX11_best_27 : decode cX11_best 27 = .ok (.lstore 7, 2) := by decide +kernel
theorem dX11_best_29 : decode cX11_best 29 = .ok (.iconst 0, 1) := by decide +kernel
theorem dX11_best_30 : decode cX11_best 30 = .ok (.istore 9, 2) := by decide +kernel
theorem dX11_best_32 : decode cX11_best 32 = .ok (.iload 9, 2) := by decide +kernel
theorem dX11_best_34 : decode cX11_best 34 = .ok (.aload_n 0, 1) := by decide +kernel
theorem dX11_best_35 : decode cX11_best 35 = .ok (.getfield 13, 3) := by decide +kernel
theorem dX11_best_38 : decode cX11_best 38 = .ok (.if_icmp .ge 148, 3) := by decide +kernel
theorem dX11_best_41 : decode cX11_best 41 = .ok (.iload 9, 2) := by decide +kernel
theorem dX11_best_43 : decode cX11_best 43 = .ok (.iconst 1, 1) := by decide +kernel
theorem dX11_best_44 : decode cX11_best 44 = .ok (.iadd, 1) := by decide +kernel
theorem dX11_best_45 : decode cX11_best 45 = .ok (.istore 10, 2) := by decide +kernel
theorem dX11_best_47 : decode cX11_best 47 = .ok (.iload 10, 2) := by decide +kernel
theorem dX11_best_49 : decode cX11_best 49 = .ok (.aload_n 0, 1) := by decide +kernel
theorem dX11_best_50 : decode cX11_best 50 = .ok (.getfield 13, 3) := by decide +kernel
theorem dX11_best_53 : decode cX11_best 53 = .ok (.if_icmp .ge 127, 3) := by decide +kernel
theorem dX11_best_56 : decode cX11_best 56 = .ok (.iload 10, 2) := by decide +kernel
theorem dX11_best_58 : decode cX11_best 58 = .ok (.iconst 1, 1) := by decide +kernel
theorem dX11_best_59 : decode cX11_best 59 = .ok (.iadd, 1) := by decide +kernel
theorem dX11_best_60 : decode cX11_best 60 = .ok (.istore 11, 2) := by decide +kernel
theorem dX11_best_62 : decode cX11_best 62 = .ok (.iload 11, 2) := by decide +kernel
theorem dX11_best_64 : decode cX11_best 64 = .ok (.aload_n 0, 1) := by decide +kernel
theorem dX11_best_65 : decode cX11_best 65 = .ok (.getfield 13, 3) := by decide +kernel
theorem dX11_best_68 : decode cX11_best 68 = .ok (.if_icmp .ge 106, 3) := by decide +kernel
theorem dX11_best_71 : decode cX11_best 71 = .ok (.aload_n 0, 1) := by decide +kernel
theorem dX11_best_72 : decode cX11_best 72 = .ok (.iload 9, 2) := by decide +kernel
theorem dX11_best_74 : decode cX11_best 74 = .ok (.invokevirtual 246, 3) := by decide +kernel
theorem dX11_best_77 : decode cX11_best 77 = .ok (.ifCond .eq 91, 3) := by decide +kernel
theorem dX11_best_80 : decode cX11_best 80 = .ok (.aload_n 0, 1) := by decide +kernel
theorem dX11_best_81 : decode cX11_best 81 = .ok (.iload 10, 2) := by decide +kernel
theorem dX11_best_83 : decode cX11_best 83 = .ok (.invokevirtual 246, 3) := by decide +kernel
theorem dX11_best_86 : decode cX11_best 86 = .ok (.ifCond .eq 82, 3) := by decide +kernel
theorem dX11_best_89 : decode cX11_best 89 = .ok (.aload_n 0, 1) := by decide +kernel
theorem dX11_best_90 : decode cX11_best 90 = .ok (.iload 11, 2) := by decide +kernel
theorem dX11_best_92 : decode cX11_best 92 = .ok (.invokevirtual 246, 3) := by decide +kernel
theorem dX11_best_95 : decode cX11_best 95 = .ok (.ifCond .eq 73, 3) := by decide +kernel
theorem dX11_best_98 : decode cX11_best 98 = .ok (.aload_n 0, 1) := by decide +kernel
theorem dX11_best_99 : decode cX11_best 99 = .ok (.iload 9, 2) := by decide +kernel
theorem dX11_best_101 : decode cX11_best 101 = .ok (.iload 10, 2) := by decide +kernel
theorem dX11_best_103 : decode cX11_best 103 = .ok (.iload 11, 2) := by decide +kernel
theorem dX11_best_105 : decode cX11_best 105 = .ok (.invokevirtual 253, 3) := by decide +kernel
theorem dX11_best_108 : decode cX11_best 108 = .ok (.ifCond .ne 6, 3) := by decide +kernel
theorem dX11_best_111 : decode cX11_best 111 = .ok (.goto 57, 3) := by decide +kernel
theorem dX11_best_114 : decode cX11_best 114 = .ok (.iload 4, 2) := by decide +kernel
theorem dX11_best_116 : decode cX11_best 116 = .ok (.ifCond .lt 24, 3) := by decide +kernel
theorem dX11_best_119 : decode cX11_best 119 = .ok (.aload_n 0, 1) := by decide +kernel
theorem dX11_best_120 : decode cX11_best 120 = .ok (.getfield 75, 3) := by decide +kernel
theorem dX11_best_123 : decode cX11_best 123 = .ok (.lload 7, 2) := by decide +kernel
theorem dX11_best_125 : decode cX11_best 125 = .ok (.lmul, 1) := by decide +kernel
theorem dX11_best_126 : decode cX11_best 126 = .ok (.lload 5, 2) := by decide +kernel
theorem dX11_best_128 : decode cX11_best 128 = .ok (.aload_n 0, 1) := by decide +kernel
theorem dX11_best_129 : decode cX11_best 129 = .ok (.getfield 79, 3) := by decide +kernel
theorem dX11_best_132 : decode cX11_best 132 = .ok (.lmul, 1) := by decide +kernel
theorem dX11_best_133 : decode cX11_best 133 = .ok (.lcmp, 1) := by decide +kernel
theorem dX11_best_134 : decode cX11_best 134 = .ok (.ifCond .lt 6, 3) := by decide +kernel
theorem dX11_best_137 : decode cX11_best 137 = .ok (.goto 31, 3) := by decide +kernel
theorem dX11_best_140 : decode cX11_best 140 = .ok (.iload 9, 2) := by decide +kernel
theorem dX11_best_142 : decode cX11_best 142 = .ok (.bipush 10, 2) := by decide +kernel
theorem dX11_best_144 : decode cX11_best 144 = .ok (.iload 10, 2) := by decide +kernel
theorem dX11_best_146 : decode cX11_best 146 = .ok (.imul, 1) := by decide +kernel
theorem dX11_best_147 : decode cX11_best 147 = .ok (.iadd, 1) := by decide +kernel
theorem dX11_best_148 : decode cX11_best 148 = .ok (.bipush 100, 2) := by decide +kernel
theorem dX11_best_150 : decode cX11_best 150 = .ok (.iload 11, 2) := by decide +kernel
theorem dX11_best_152 : decode cX11_best 152 = .ok (.imul, 1) := by decide +kernel
theorem dX11_best_153 : decode cX11_best 153 = .ok (.iadd, 1) := by decide +kernel
theorem dX11_best_154 : decode cX11_best 154 = .ok (.istore 4, 2) := by decide +kernel
theorem dX11_best_156 : decode cX11_best 156 = .ok (.aload_n 0, 1) := by decide +kernel
theorem dX11_best_157 : decode cX11_best 157 = .ok (.getfield 75, 3) := by decide +kernel
theorem dX11_best_160 : decode cX11_best 160 = .ok (.lstore 5, 2) := by decide +kernel
theorem dX11_best_162 : decode cX11_best 162 = .ok (.aload_n 0, 1) := by decide +kernel
theorem dX11_best_163 : decode cX11_best 163 = .ok (.getfield 79, 3) := by decide +kernel
theorem dX11_best_166 : decode cX11_best 166 = .ok (.lstore 7, 2) := by decide +kernel
theorem dX11_best_168 : decode cX11_best 168 = .ok (.iinc 11 1, 3) := by decide +kernel
theorem dX11_best_171 : decode cX11_best 171 = .ok (.goto (-109), 3) := by decide +kernel
theorem dX11_best_174 : decode cX11_best 174 = .ok (.iinc 10 1, 3) := by decide +kernel
theorem dX11_best_177 : decode cX11_best 177 = .ok (.goto (-130), 3) := by decide +kernel
theorem dX11_best_180 : decode cX11_best 180 = .ok (.iinc 9 1, 3) := by decide +kernel
theorem dX11_best_183 : decode cX11_best 183 = .ok (.goto (-151), 3) := by decide +kernel
theorem dX11_best_186 : decode cX11_best 186 = .ok (.iload 4, 2) := by decide +kernel
theorem dX11_best_188 : decode cX11_best 188 = .ok (.ireturn, 1) := by decide +kernel
theorem dX11_step_0 : decode cX11_step 0 = .ok (.aload_n 0, 1) := by decide +kernel
theorem dX11_step_1 : decode cX11_step 1 = .ok (.iload_n 1, 1) := by decide +kernel
theorem dX11_step_2 : decode cX11_step 2 = .ok (.iconst 1, 1) := by decide +kernel
theorem dX11_step_3 : decode cX11_step 3 = .ok (.bipush 63, 2) := by decide +kernel
theorem dX11_step_5 : decode cX11_step 5 = .ok (.invokevirtual 130, 3) := by decide +kernel
theorem dX11_step_8 : decode cX11_step 8 = .ok (.ifCond .eq 20, 3) := by decide +kernel
theorem dX11_step_11 : decode cX11_step 11 = .ok (.aload_n 0, 1) := by decide +kernel
theorem dX11_step_12 : decode cX11_step 12 = .ok (.iload_n 2, 1) := by decide +kernel
theorem dX11_step_13 : decode cX11_step 13 = .ok (.iconst 0, 1) := by decide +kernel
theorem dX11_step_14 : decode cX11_step 14 = .ok (.iconst 1, 1) := by decide +kernel
theorem dX11_step_15 : decode cX11_step 15 = .ok (.aload_n 0, 1) := by decide +kernel
theorem dX11_step_16 : decode cX11_step 16 = .ok (.getfield 82, 3) := by decide +kernel
theorem dX11_step_19 : decode cX11_step 19 = .ok (.ishl, 1) := by decide +kernel
theorem dX11_step_20 : decode cX11_step 20 = .ok (.iconst 1, 1) := by decide +kernel
theorem dX11_step_21 : decode cX11_step 21 = .ok (.isub, 1) := by decide +kernel
theorem dX11_step_22 : decode cX11_step 22 = .ok (.invokevirtual 130, 3) := by decide +kernel
theorem dX11_step_25 : decode cX11_step 25 = .ok (.ifCond .ne 5, 3) := by decide +kernel
theorem dX11_step_28 : decode cX11_step 28 = .ok (.iconst (-1), 1) := by decide +kernel
theorem dX11_step_29 : decode cX11_step 29 = .ok (.ireturn, 1) := by decide +kernel
theorem dX11_step_30 : decode cX11_step 30 = .ok (.aload_n 0, 1) := by decide +kernel
theorem dX11_step_31 : decode cX11_step 31 = .ok (.getfield 82, 3) := by decide +kernel
theorem dX11_step_34 : decode cX11_step 34 = .ok (.bipush 12, 2) := by decide +kernel
theorem dX11_step_36 : decode cX11_step 36 = .ok (.if_icmp .ne 6, 3) := by decide +kernel
theorem dX11_step_39 : decode cX11_step 39 = .ok (.bipush (-2), 2) := by decide +kernel
theorem dX11_step_41 : decode cX11_step 41 = .ok (.ireturn, 1) := by decide +kernel
theorem dX11_step_42 : decode cX11_step 42 = .ok (.aload_n 0, 1) := by decide +kernel
theorem dX11_step_43 : decode cX11_step 43 = .ok (.getfield 85, 3) := by decide +kernel
theorem dX11_step_46 : decode cX11_step 46 = .ok (.aload_n 0, 1) := by decide +kernel
theorem dX11_step_47 : decode cX11_step 47 = .ok (.getfield 82, 3) := by decide +kernel
theorem dX11_step_50 : decode cX11_step 50 = .ok (.iload_n 1, 1) := by decide +kernel
theorem dX11_step_51 : decode cX11_step 51 = .ok (.iastore, 1) := by decide +kernel
theorem dX11_step_52 : decode cX11_step 52 = .ok (.aload_n 0, 1) := by decide +kernel
theorem dX11_step_53 : decode cX11_step 53 = .ok (.getfield 88, 3) := by decide +kernel
theorem dX11_step_56 : decode cX11_step 56 = .ok (.aload_n 0, 1) := by decide +kernel
theorem dX11_step_57 : decode cX11_step 57 = .ok (.getfield 82, 3) := by decide +kernel
theorem dX11_step_60 : decode cX11_step 60 = .ok (.iload_n 2, 1) := by decide +kernel
theorem dX11_step_61 : decode cX11_step 61 = .ok (.iastore, 1) := by decide +kernel
theorem dX11_step_62 : decode cX11_step 62 = .ok (.aload_n 0, 1) := by decide +kernel
theorem dX11_step_63 : decode cX11_step 63 = .ok (.dup, 1) := by decide +kernel
theorem dX11_step_64 : decode cX11_step 64 = .ok (.getfield 82, 3) := by decide +kernel
theorem dX11_step_67 : decode cX11_step 67 = .ok (.iconst 1, 1) := by decide +kernel
theorem dX11_step_68 : decode cX11_step 68 = .ok (.iadd, 1) := by decide +kernel
theorem dX11_step_69 : decode cX11_step 69 = .ok (.putfield 82, 3) := by decide +kernel
theorem dX11_step_72 : decode cX11_step 72 = .ok (.aload_n 0, 1) := by decide +kernel
theorem dX11_step_73 : decode cX11_step 73 = .ok (.getfield 82, 3) := by decide +kernel
theorem dX11_step_76 : decode cX11_step 76 = .ok (.iconst 1, 1) := by decide +kernel
theorem dX11_step_77 : decode cX11_step 77 = .ok (.isub, 1) := by decide +kernel
theorem dX11_step_78 : decode cX11_step 78 = .ok (.ireturn, 1) := by decide +kernel
theorem dX11_work_0 : decode cX11_work 0 = .ok (.iload_n 1, 1) := by decide +kernel
theorem dX11_work_1 : decode cX11_work 1 = .ok (.istore_n 3, 1) := by decide +kernel
theorem dX11_work_2 : decode cX11_work 2 = .ok (.iconst 0, 1) := by decide +kernel
theorem dX11_work_3 : decode cX11_work 3 = .ok (.istore 4, 2) := by decide +kernel
theorem dX11_work_5 : decode cX11_work 5 = .ok (.iload 4, 2) := by decide +kernel
theorem dX11_work_7 : decode cX11_work 7 = .ok (.aload_n 0, 1) := by decide +kernel
theorem dX11_work_8 : decode cX11_work 8 = .ok (.getfield 82, 3) := by decide +kernel
theorem dX11_work_11 : decode cX11_work 11 = .ok (.if_icmp .ge 45, 3) := by decide +kernel
theorem dX11_work_14 : decode cX11_work 14 = .ok (.aload_n 0, 1) := by decide +kernel
theorem dX11_work_15 : decode cX11_work 15 = .ok (.getfield 85, 3) := by decide +kernel
theorem dX11_work_18 : decode cX11_work 18 = .ok (.iload 4, 2) := by decide +kernel
theorem dX11_work_20 : decode cX11_work 20 = .ok (.iaload, 1) := by decide +kernel
theorem dX11_work_21 : decode cX11_work 21 = .ok (.iload_n 2, 1) := by decide +kernel
theorem dX11_work_22 : decode cX11_work 22 = .ok (.ishr, 1) := by decide +kernel
theorem dX11_work_23 : decode cX11_work 23 = .ok (.iconst 1, 1) := by decide +kernel
theorem dX11_work_24 : decode cX11_work 24 = .ok (.iand, 1) := by decide +kernel
theorem dX11_work_25 : decode cX11_work 25 = .ok (.iconst 1, 1) := by decide +kernel
theorem dX11_work_26 : decode cX11_work 26 = .ok (.if_icmp .ne 24, 3) := by decide +kernel
theorem dX11_work_29 : decode cX11_work 29 = .ok (.aload_n 0, 1) := by decide +kernel
theorem dX11_work_30 : decode cX11_work 30 = .ok (.getfield 88, 3) := by decide +kernel
theorem dX11_work_33 : decode cX11_work 33 = .ok (.iload 4, 2) := by decide +kernel
theorem dX11_work_35 : decode cX11_work 35 = .ok (.iaload, 1) := by decide +kernel
theorem dX11_work_36 : decode cX11_work 36 = .ok (.iload_n 3, 1) := by decide +kernel
theorem dX11_work_37 : decode cX11_work 37 = .ok (.iconst (-1), 1) := by decide +kernel
theorem dX11_work_38 : decode cX11_work 38 = .ok (.ixor, 1) := by decide +kernel
theorem dX11_work_39 : decode cX11_work 39 = .ok (.iand, 1) := by decide +kernel
theorem dX11_work_40 : decode cX11_work 40 = .ok (.ifCond .ne 10, 3) := by decide +kernel
theorem dX11_work_43 : decode cX11_work 43 = .ok (.iload_n 3, 1) := by decide +kernel
theorem dX11_work_44 : decode cX11_work 44 = .ok (.iconst 1, 1) := by decide +kernel
theorem dX11_work_45 : decode cX11_work 45 = .ok (.iload 4, 2) := by decide +kernel
theorem dX11_work_47 : decode cX11_work 47 = .ok (.ishl, 1) := by decide +kernel
theorem dX11_work_48 : decode cX11_work 48 = .ok (.ior, 1) := by decide +kernel
theorem dX11_work_49 : decode cX11_work 49 = .ok (.istore_n 3, 1) := by decide +kernel
theorem dX11_work_50 : decode cX11_work 50 = .ok (.iinc 4 1, 3) := by decide +kernel
theorem dX11_work_53 : decode cX11_work 53 = .ok (.goto (-48), 3) := by decide +kernel
theorem dX11_work_56 : decode cX11_work 56 = .ok (.iload_n 3, 1) := by decide +kernel
theorem dX11_work_57 : decode cX11_work 57 = .ok (.ireturn, 1) := by decide +kernel
theorem dX11_findFewest_0 : decode cX11_findFewest 0 = .ok (.iconst 1, 1) := by decide +kernel
theorem dX11_findFewest_1 : decode cX11_findFewest 1 = .ok (.aload_n 0, 1) := by decide +kernel
theorem dX11_findFewest_2 : decode cX11_findFewest 2 = .ok (.getfield 82, 3) := by decide +kernel
theorem dX11_findFewest_5 : decode cX11_findFewest 5 = .ok (.ishl, 1) := by decide +kernel
theorem dX11_findFewest_6 : decode cX11_findFewest 6 = .ok (.iconst 1, 1) := by decide +kernel
theorem dX11_findFewest_7 : decode cX11_findFewest 7 = .ok (.isub, 1) := by decide +kernel
theorem dX11_findFewest_8 : decode cX11_findFewest 8 = .ok (.istore_n 1, 1) := by decide +kernel
theorem dX11_findFewest_9 : decode cX11_findFewest 9 = .ok (.aload_n 0, 1) := by decide +kernel
theorem dX11_findFewest_10 : decode cX11_findFewest 10 = .ok (.getfield 91, 3) := by decide +kernel
theorem dX11_findFewest_13 : decode cX11_findFewest 13 = .ok (.iload_n 1, 1) := by decide +kernel
theorem dX11_findFewest_14 : decode cX11_findFewest 14 = .ok (.iconst 0, 1) := by decide +kernel
theorem dX11_findFewest_15 : decode cX11_findFewest 15 = .ok (.iastore, 1) := by decide +kernel
theorem dX11_findFewest_16 : decode cX11_findFewest 16 = .ok (.iload_n 1, 1) := by decide +kernel
theorem dX11_findFewest_17 : decode cX11_findFewest 17 = .ok (.iconst 1, 1) := by decide +kernel
theorem dX11_findFewest_18 : decode cX11_findFewest 18 = .ok (.isub, 1) := by decide +kernel
theorem dX11_findFewest_19 : decode cX11_findFewest 19 = .ok (.istore_n 2, 1) := by decide +kernel
theorem dX11_findFewest_20 : decode cX11_findFewest 20 = .ok (.iload_n 2, 1) := by decide +kernel
theorem dX11_findFewest_21 : decode cX11_findFewest 21 = .ok (.ifCond .lt 78, 3) := by decide +kernel
theorem dX11_findFewest_24 : decode cX11_findFewest 24 = .ok (.aload_n 0, 1) := by decide +kernel
theorem dX11_findFewest_25 : decode cX11_findFewest 25 = .ok (.getfield 91, 3) := by decide +kernel
theorem dX11_findFewest_28 : decode cX11_findFewest 28 = .ok (.iload_n 2, 1) := by decide +kernel
theorem dX11_findFewest_29 : decode cX11_findFewest 29 = .ok (.bipush 99, 2) := by decide +kernel
theorem dX11_findFewest_31 : decode cX11_findFewest 31 = .ok (.iastore, 1) := by decide +kernel
theorem dX11_findFewest_32 : decode cX11_findFewest 32 = .ok (.iconst 0, 1) := by decide +kernel
theorem dX11_findFewest_33 : decode cX11_findFewest 33 = .ok (.istore_n 3, 1) := by decide +kernel
theorem dX11_findFewest_34 : decode cX11_findFewest 34 = .ok (.iload_n 3, 1) := by decide +kernel
theorem dX11_findFewest_35 : decode cX11_findFewest 35 = .ok (.bipush 6, 2) := by decide +kernel
theorem dX11_findFewest_37 : decode cX11_findFewest 37 = .ok (.if_icmp .ge 56, 3) := by decide +kernel
theorem dX11_findFewest_40 : decode cX11_findFewest 40 = .ok (.aload_n 0, 1) := by decide +kernel
theorem dX11_findFewest_41 : decode cX11_findFewest 41 = .ok (.iload_n 2, 1) := by decide +kernel
theorem dX11_findFewest_42 : decode cX11_findFewest 42 = .ok (.iload_n 3, 1) := by decide +kernel
theorem dX11_findFewest_43 : decode cX11_findFewest 43 = .ok (.invokevirtual 256, 3) := by decide +kernel
theorem dX11_findFewest_46 : decode cX11_findFewest 46 = .ok (.istore 4, 2) := by decide +kernel
theorem dX11_findFewest_48 : decode cX11_findFewest 48 = .ok (.iload 4, 2) := by decide +kernel
theorem dX11_findFewest_50 : decode cX11_findFewest 50 = .ok (.iload_n 2, 1) := by decide +kernel
theorem dX11_findFewest_51 : decode cX11_findFewest 51 = .ok (.if_icmp .eq 36, 3) := by decide +kernel
theorem dX11_findFewest_54 : decode cX11_findFewest 54 = .ok (.aload_n 0, 1) := by decide +kernel
theorem dX11_findFewest_55 : decode cX11_findFewest 55 = .ok (.getfield 91, 3) := by decide +kernel
theorem dX11_findFewest_58 : decode cX11_findFewest 58 = .ok (.iload 4, 2) := by decide +kernel
theorem dX11_findFewest_60 : decode cX11_findFewest 60 = .ok (.iaload, 1) := by decide +kernel
theorem dX11_findFewest_61 : decode cX11_findFewest 61 = .ok (.iconst 1, 1) := by decide +kernel
theorem dX11_findFewest_62 : decode cX11_findFewest 62 = .ok (.iadd, 1) := by decide +kernel
theorem dX11_findFewest_63 : decode cX11_findFewest 63 = .ok (.aload_n 0, 1) := by decide +kernel
theorem dX11_findFewest_64 : decode cX11_findFewest 64 = .ok (.getfield 91, 3) := by decide +kernel
theorem dX11_findFewest_67 : decode cX11_findFewest 67 = .ok (.iload_n 2, 1) := by decide +kernel
theorem dX11_findFewest_68 : decode cX11_findFewest 68 = .ok (.iaload, 1) := by decide +kernel
theorem dX11_findFewest_69 : decode cX11_findFewest 69 = .ok (.if_icmp .ge 18, 3) := by decide +kernel
theorem dX11_findFewest_72 : decode cX11_findFewest 72 = .ok (.aload_n 0, 1) := by decide +kernel
theorem dX11_findFewest_73 : decode cX11_findFewest 73 = .ok (.getfield 91, 3) := by decide +kernel
theorem dX11_findFewest_76 : decode cX11_findFewest 76 = .ok (.iload_n 2, 1) := by decide +kernel
theorem dX11_findFewest_77 : decode cX11_findFewest 77 = .ok (.aload_n 0, 1) := by decide +kernel
theorem dX11_findFewest_78 : decode cX11_findFewest 78 = .ok (.getfield 91, 3) := by decide +kernel
theorem dX11_findFewest_81 : decode cX11_findFewest 81 = .ok (.iload 4, 2) := by decide +kernel
theorem dX11_findFewest_83 : decode cX11_findFewest 83 = .ok (.iaload, 1) := by decide +kernel
theorem dX11_findFewest_84 : decode cX11_findFewest 84 = .ok (.iconst 1, 1) := by decide +kernel
theorem dX11_findFewest_85 : decode cX11_findFewest 85 = .ok (.iadd, 1) := by decide +kernel
theorem dX11_findFewest_86 : decode cX11_findFewest 86 = .ok (.iastore, 1) := by decide +kernel
theorem dX11_findFewest_87 : decode cX11_findFewest 87 = .ok (.iinc 3 1, 3) := by decide +kernel
theorem dX11_findFewest_90 : decode cX11_findFewest 90 = .ok (.goto (-56), 3) := by decide +kernel
theorem dX11_findFewest_93 : decode cX11_findFewest 93 = .ok (.iinc 2 (-1), 3) := by decide +kernel
theorem dX11_findFewest_96 : decode cX11_findFewest 96 = .ok (.goto (-76), 3) := by decide +kernel
theorem dX11_findFewest_99 : decode cX11_findFewest 99 = .ok (.return_, 1) := by decide +kernel
theorem dX11_setups_0 : decode cX11_setups 0 = .ok (.aload_n 0, 1) := by decide +kernel
theorem dX11_setups_1 : decode cX11_setups 1 = .ok (.invokevirtual 260, 3) := by decide +kernel
theorem dX11_setups_4 : decode cX11_setups 4 = .ok (.aload_n 0, 1) := by decide +kernel
theorem dX11_setups_5 : decode cX11_setups 5 = .ok (.getfield 91, 3) := by decide +kernel
theorem dX11_setups_8 : decode cX11_setups 8 = .ok (.iconst 0, 1) := by decide +kernel
theorem dX11_setups_9 : decode cX11_setups 9 = .ok (.iaload, 1) := by decide +kernel
theorem dX11_setups_10 : decode cX11_setups 10 = .ok (.ireturn, 1) := by decide +kernel
theorem dX11_sideFor_0 : decode cX11_sideFor 0 = .ok (.iconst 0, 1) := by decide +kernel
theorem dX11_sideFor_1 : decode cX11_sideFor 1 = .ok (.istore_n 2, 1) := by decide +kernel
theorem dX11_sideFor_2 : decode cX11_sideFor 2 = .ok (.aload_n 0, 1) := by decide +kernel
theorem dX11_sideFor_3 : decode cX11_sideFor 3 = .ok (.iload_n 1, 1) := by decide +kernel
theorem dX11_sideFor_4 : decode cX11_sideFor 4 = .ok (.iload_n 2, 1) := by decide +kernel
theorem dX11_sideFor_5 : decode cX11_sideFor 5 = .ok (.invokevirtual 256, 3) := by decide +kernel
theorem dX11_sideFor_8 : decode cX11_sideFor 8 = .ok (.iload_n 1, 1) := by decide +kernel
theorem dX11_sideFor_9 : decode cX11_sideFor 9 = .ok (.if_icmp .eq 25, 3) := by decide +kernel
theorem dX11_sideFor_12 : decode cX11_sideFor 12 = .ok (.aload_n 0, 1) := by decide +kernel
theorem dX11_sideFor_13 : decode cX11_sideFor 13 = .ok (.getfield 91, 3) := by decide +kernel
theorem dX11_sideFor_16 : decode cX11_sideFor 16 = .ok (.aload_n 0, 1) := by decide +kernel
theorem dX11_sideFor_17 : decode cX11_sideFor 17 = .ok (.iload_n 1, 1) := by decide +kernel
theorem dX11_sideFor_18 : decode cX11_sideFor 18 = .ok (.iload_n 2, 1) := by decide +kernel
theorem dX11_sideFor_19 : decode cX11_sideFor 19 = .ok (.invokevirtual 256, 3) := by decide +kernel
theorem dX11_sideFor_22 : decode cX11_sideFor 22 = .ok (.iaload, 1) := by decide +kernel
theorem dX11_sideFor_23 : decode cX11_sideFor 23 = .ok (.iconst 1, 1) := by decide +kernel
theorem dX11_sideFor_24 : decode cX11_sideFor 24 = .ok (.iadd, 1) := by decide +kernel
theorem dX11_sideFor_25 : decode cX11_sideFor 25 = .ok (.aload_n 0, 1) := by decide +kernel
theorem dX11_sideFor_26 : decode cX11_sideFor 26 = .ok (.getfield 91, 3) := by decide +kernel
theorem dX11_sideFor_29 : decode cX11_sideFor 29 = .ok (.iload_n 1, 1) := by decide +kernel
theorem dX11_sideFor_30 : decode cX11_sideFor 30 = .ok (.iaload, 1) := by decide +kernel
theorem dX11_sideFor_31 : decode cX11_sideFor 31 = .ok (.if_icmp .eq 9, 3) := by decide +kernel
theorem dX11_sideFor_34 : decode cX11_sideFor 34 = .ok (.iinc 2 1, 3) := by decide +kernel
theorem dX11_sideFor_37 : decode cX11_sideFor 37 = .ok (.goto (-35), 3) := by decide +kernel
theorem dX11_sideFor_40 : decode cX11_sideFor 40 = .ok (.iload_n 2, 1) := by decide +kernel
theorem dX11_sideFor_41 : decode cX11_sideFor 41 = .ok (.ireturn, 1) := by decide +kernel
theorem dX11_setup_0 : decode cX11_setup 0 = .ok (.iload_n 1, 1) := by decide +kernel
theorem dX11_setup_1 : decode cX11_setup 1 = .ok (.ifCond .lt 13, 3) := by decide +kernel
theorem dX11_setup_4 : decode cX11_setup 4 = .ok (.aload_n 0, 1) := by decide +kernel
theorem dX11_setup_5 : decode cX11_setup 5 = .ok (.iload_n 2, 1) := by decide +kernel
theorem dX11_setup_6 : decode cX11_setup 6 = .ok (.iconst 0, 1) := by decide +kernel
theorem dX11_setup_7 : decode cX11_setup 7 = .ok (.iconst 1, 1) := by decide +kernel
theorem dX11_setup_8 : decode cX11_setup 8 = .ok (.invokevirtual 130, 3) := by decide +kernel
theorem dX11_setup_11 : decode cX11_setup 11 = .ok (.ifCond .ne 5, 3) := by decide +kernel
theorem dX11_setup_14 : decode cX11_setup 14 = .ok (.iconst (-1), 1) := by decide +kernel
theorem dX11_setup_15 : decode cX11_setup 15 = .ok (.ireturn, 1) := by decide +kernel
theorem dX11_setup_16 : decode cX11_setup 16 = .ok (.aload_n 0, 1) := by decide +kernel
theorem dX11_setup_17 : decode cX11_setup 17 = .ok (.invokevirtual 260, 3) := by decide +kernel
theorem dX11_setup_20 : decode cX11_setup 20 = .ok (.iload_n 1, 1) := by decide +kernel
theorem dX11_setup_21 : decode cX11_setup 21 = .ok (.aload_n 0, 1) := by decide +kernel
theorem dX11_setup_22 : decode cX11_setup 22 = .ok (.getfield 91, 3) := by decide +kernel
theorem dX11_setup_25 : decode cX11_setup 25 = .ok (.iconst 0, 1) := by decide +kernel
theorem dX11_setup_26 : decode cX11_setup 26 = .ok (.iaload, 1) := by decide +kernel
theorem dX11_setup_27 : decode cX11_setup 27 = .ok (.if_icmp .lt 6, 3) := by decide +kernel
theorem dX11_setup_30 : decode cX11_setup 30 = .ok (.bipush (-3), 2) := by decide +kernel
theorem dX11_setup_32 : decode cX11_setup 32 = .ok (.ireturn, 1) := by decide +kernel
theorem dX11_setup_33 : decode cX11_setup 33 = .ok (.iconst 0, 1) := by decide +kernel
theorem dX11_setup_34 : decode cX11_setup 34 = .ok (.istore_n 3, 1) := by decide +kernel
theorem dX11_setup_35 : decode cX11_setup 35 = .ok (.iconst 0, 1) := by decide +kernel
theorem dX11_setup_36 : decode cX11_setup 36 = .ok (.istore 4, 2) := by decide +kernel
theorem dX11_setup_38 : decode cX11_setup 38 = .ok (.iload 4, 2) := by decide +kernel
theorem dX11_setup_40 : decode cX11_setup 40 = .ok (.iload_n 1, 1) := by decide +kernel
theorem dX11_setup_41 : decode cX11_setup 41 = .ok (.if_icmp .ge 20, 3) := by decide +kernel
theorem dX11_setup_44 : decode cX11_setup 44 = .ok (.aload_n 0, 1) := by decide +kernel
theorem dX11_setup_45 : decode cX11_setup 45 = .ok (.iload_n 3, 1) := by decide +kernel
theorem dX11_setup_46 : decode cX11_setup 46 = .ok (.aload_n 0, 1) := by decide +kernel
theorem dX11_setup_47 : decode cX11_setup 47 = .ok (.iload_n 3, 1) := by decide +kernel
theorem dX11_setup_48 : decode cX11_setup 48 = .ok (.invokevirtual 263, 3) := by decide +kernel
theorem dX11_setup_51 : decode cX11_setup 51 = .ok (.invokevirtual 256, 3) := by decide +kernel
theorem dX11_setup_54 : decode cX11_setup 54 = .ok (.istore_n 3, 1) := by decide +kernel
theorem dX11_setup_55 : decode cX11_setup 55 = .ok (.iinc 4 1, 3) := by decide +kernel
theorem dX11_setup_58 : decode cX11_setup 58 = .ok (.goto (-20), 3) := by decide +kernel
theorem dX11_setup_61 : decode cX11_setup 61 = .ok (.iload_n 2, 1) := by decide +kernel
theorem dX11_setup_62 : decode cX11_setup 62 = .ok (.ifCond .ne 11, 3) := by decide +kernel
theorem dX11_setup_65 : decode cX11_setup 65 = .ok (.aload_n 0, 1) := by decide +kernel
theorem dX11_setup_66 : decode cX11_setup 66 = .ok (.iload_n 3, 1) := by decide +kernel
theorem dX11_setup_67 : decode cX11_setup 67 = .ok (.invokevirtual 263, 3) := by decide +kernel
theorem dX11_setup_70 : decode cX11_setup 70 = .ok (.goto 17, 3) := by decide +kernel
theorem dX11_setup_73 : decode cX11_setup 73 = .ok (.aload_n 0, 1) := by decide +kernel
theorem dX11_setup_74 : decode cX11_setup 74 = .ok (.iload_n 3, 1) := by decide +kernel
theorem dX11_setup_75 : decode cX11_setup 75 = .ok (.aload_n 0, 1) := by decide +kernel
theorem dX11_setup_76 : decode cX11_setup 76 = .ok (.iload_n 3, 1) := by decide +kernel
theorem dX11_setup_77 : decode cX11_setup 77 = .ok (.invokevirtual 263, 3) := by decide +kernel
theorem dX11_setup_80 : decode cX11_setup 80 = .ok (.invokevirtual 256, 3) := by decide +kernel
theorem dX11_setup_83 : decode cX11_setup 83 = .ok (.iload_n 3, 1) := by decide +kernel
theorem dX11_setup_84 : decode cX11_setup 84 = .ok (.iconst (-1), 1) := by decide +kernel
theorem dX11_setup_85 : decode cX11_setup 85 = .ok (.ixor, 1) := by decide +kernel
theorem dX11_setup_86 : decode cX11_setup 86 = .ok (.iand, 1) := by decide +kernel
theorem dX11_setup_87 : decode cX11_setup 87 = .ok (.ireturn, 1) := by decide +kernel
theorem dX11_told_0 : decode cX11_told 0 = .ok (.iload_n 1, 1) := by decide +kernel
theorem dX11_told_1 : decode cX11_told 1 = .ok (.ifCond .lt 14, 3) := by decide +kernel
theorem dX11_told_4 : decode cX11_told 4 = .ok (.aload_n 0, 1) := by decide +kernel
theorem dX11_told_5 : decode cX11_told 5 = .ok (.iload_n 2, 1) := by decide +kernel
theorem dX11_told_6 : decode cX11_told 6 = .ok (.iconst 1, 1) := by decide +kernel
theorem dX11_told_7 : decode cX11_told 7 = .ok (.bipush 10, 2) := by decide +kernel
theorem dX11_told_9 : decode cX11_told 9 = .ok (.invokevirtual 130, 3) := by decide +kernel
theorem dX11_told_12 : decode cX11_told 12 = .ok (.ifCond .ne 5, 3) := by decide +kernel
theorem dX11_told_15 : decode cX11_told 15 = .ok (.iconst (-1), 1) := by decide +kernel
theorem dX11_told_16 : decode cX11_told 16 = .ok (.ireturn, 1) := by decide +kernel
theorem dX11_told_17 : decode cX11_told 17 = .ok (.iconst 1, 1) := by decide +kernel
theorem dX11_told_18 : decode cX11_told 18 = .ok (.istore_n 3, 1) := by decide +kernel
theorem dX11_told_19 : decode cX11_told 19 = .ok (.iconst 0, 1) := by decide +kernel
theorem dX11_told_20 : decode cX11_told 20 = .ok (.istore 4, 2) := by decide +kernel
theorem dX11_told_22 : decode cX11_told 22 = .ok (.iload 4, 2) := by decide +kernel
theorem dX11_told_24 : decode cX11_told 24 = .ok (.iload_n 2, 1) := by decide +kernel
theorem dX11_told_25 : decode cX11_told 25 = .ok (.if_icmp .ge 14, 3) := by decide +kernel
theorem dX11_told_28 : decode cX11_told 28 = .ok (.iload_n 3, 1) := by decide +kernel
theorem dX11_told_29 : decode cX11_told 29 = .ok (.bipush 6, 2) := by decide +kernel
theorem dX11_told_31 : decode cX11_told 31 = .ok (.imul, 1) := by decide +kernel
theorem dX11_told_32 : decode cX11_told 32 = .ok (.istore_n 3, 1) := by decide +kernel
theorem dX11_told_33 : decode cX11_told 33 = .ok (.iinc 4 1, 3) := by decide +kernel
theorem dX11_told_36 : decode cX11_told 36 = .ok (.goto (-14), 3) := by decide +kernel
theorem dX11_told_39 : decode cX11_told 39 = .ok (.iload_n 1, 1) := by decide +kernel
theorem dX11_told_40 : decode cX11_told 40 = .ok (.iload_n 3, 1) := by decide +kernel
theorem dX11_told_41 : decode cX11_told 41 = .ok (.if_icmp .lt 5, 3) := by decide +kernel
theorem dX11_told_44 : decode cX11_told 44 = .ok (.iconst (-1), 1) := by decide +kernel
theorem dX11_told_45 : decode cX11_told 45 = .ok (.ireturn, 1) := by decide +kernel
theorem dX11_told_46 : decode cX11_told 46 = .ok (.iconst 1, 1) := by decide +kernel
theorem dX11_told_47 : decode cX11_told 47 = .ok (.aload_n 0, 1) := by decide +kernel
theorem dX11_told_48 : decode cX11_told 48 = .ok (.getfield 82, 3) := by decide +kernel
theorem dX11_told_51 : decode cX11_told 51 = .ok (.ishl, 1) := by decide +kernel
theorem dX11_told_52 : decode cX11_told 52 = .ok (.iconst 1, 1) := by decide +kernel
theorem dX11_told_53 : decode cX11_told 53 = .ok (.isub, 1) := by decide +kernel
theorem dX11_told_54 : decode cX11_told 54 = .ok (.istore 4, 2) := by decide +kernel
theorem dX11_told_56 : decode cX11_told 56 = .ok (.iconst 0, 1) := by decide +kernel
theorem dX11_told_57 : decode cX11_told 57 = .ok (.istore 5, 2) := by decide +kernel
theorem dX11_told_59 : decode cX11_told 59 = .ok (.iload_n 1, 1) := by decide +kernel
theorem dX11_told_60 : decode cX11_told 60 = .ok (.istore 6, 2) := by decide +kernel
theorem dX11_told_62 : decode cX11_told 62 = .ok (.iconst 0, 1) := by decide +kernel
theorem dX11_told_63 : decode cX11_told 63 = .ok (.istore 7, 2) := by decide +kernel
theorem dX11_told_65 : decode cX11_told 65 = .ok (.iload 7, 2) := by decide +kernel
theorem dX11_told_67 : decode cX11_told 67 = .ok (.iload_n 2, 1) := by decide +kernel
theorem dX11_told_68 : decode cX11_told 68 = .ok (.if_icmp .ge 39, 3) := by decide +kernel
theorem dX11_told_71 : decode cX11_told 71 = .ok (.iload 5, 2) := by decide +kernel
theorem dX11_told_73 : decode cX11_told 73 = .ok (.iload 4, 2) := by decide +kernel
theorem dX11_told_75 : decode cX11_told 75 = .ok (.if_icmp .ne 6, 3) := by decide +kernel
theorem dX11_told_78 : decode cX11_told 78 = .ok (.iload 7, 2) := by decide +kernel
theorem dX11_told_80 : decode cX11_told 80 = .ok (.ireturn, 1) := by decide +kernel
theorem dX11_told_81 : decode cX11_told 81 = .ok (.aload_n 0, 1) := by decide +kernel
theorem dX11_told_82 : decode cX11_told 82 = .ok (.iload 5, 2) := by decide +kernel
theorem dX11_told_84 : decode cX11_told 84 = .ok (.iload 6, 2) := by decide +kernel
theorem dX11_told_86 : decode cX11_told 86 = .ok (.bipush 6, 2) := by decide +kernel
theorem dX11_told_88 : decode cX11_told 88 = .ok (.irem, 1) := by decide +kernel
theorem dX11_told_89 : decode cX11_told 89 = .ok (.invokevirtual 256, 3) := by decide +kernel
theorem dX11_told_92 : decode cX11_told 92 = .ok (.istore 5, 2) := by decide +kernel
theorem dX11_told_94 : decode cX11_told 94 = .ok (.iload 6, 2) := by decide +kernel
theorem dX11_told_96 : decode cX11_told 96 = .ok (.bipush 6, 2) := by decide +kernel
theorem dX11_told_98 : decode cX11_told 98 = .ok (.idiv, 1) := by decide +kernel
theorem dX11_told_99 : decode cX11_told 99 = .ok (.istore 6, 2) := by decide +kernel
theorem dX11_told_101 : decode cX11_told 101 = .ok (.iinc 7 1, 3) := by decide +kernel
theorem dX11_told_104 : decode cX11_told 104 = .ok (.goto (-39), 3) := by decide +kernel
theorem dX11_told_107 : decode cX11_told 107 = .ok (.iload 5, 2) := by decide +kernel
theorem dX11_told_109 : decode cX11_told 109 = .ok (.iload 4, 2) := by decide +kernel
theorem dX11_told_111 : decode cX11_told 111 = .ok (.if_icmp .ne 7, 3) := by decide +kernel
theorem dX11_told_114 : decode cX11_told 114 = .ok (.iload_n 2, 1) := by decide +kernel
theorem dX11_told_115 : decode cX11_told 115 = .ok (.goto 5, 3) := by decide +kernel
theorem dX11_told_118 : decode cX11_told 118 = .ok (.bipush (-4), 2) := by decide +kernel
theorem dX11_told_120 : decode cX11_told 120 = .ok (.ireturn, 1) := by decide +kernel
theorem dX11_point_0 : decode cX11_point 0 = .ok (.aload_n 0, 1) := by decide +kernel
theorem dX11_point_1 : decode cX11_point 1 = .ok (.iload_n 1, 1) := by decide +kernel
theorem dX11_point_2 : decode cX11_point 2 = .ok (.sipush (-200), 3) := by decide +kernel
theorem dX11_point_5 : decode cX11_point 5 = .ok (.sipush 200, 3) := by decide +kernel
theorem dX11_point_8 : decode cX11_point 8 = .ok (.invokevirtual 130, 3) := by decide +kernel
theorem dX11_point_11 : decode cX11_point 11 = .ok (.ifCond .eq 17, 3) := by decide +kernel
theorem dX11_point_14 : decode cX11_point 14 = .ok (.aload_n 0, 1) := by decide +kernel
theorem dX11_point_15 : decode cX11_point 15 = .ok (.iload_n 2, 1) := by decide +kernel
theorem dX11_point_16 : decode cX11_point 16 = .ok (.sipush (-200), 3) := by decide +kernel
theorem dX11_point_19 : decode cX11_point 19 = .ok (.sipush 200, 3) := by decide +kernel
theorem dX11_point_22 : decode cX11_point 22 = .ok (.invokevirtual 130, 3) := by decide +kernel
theorem dX11_point_25 : decode cX11_point 25 = .ok (.ifCond .ne 5, 3) := by decide +kernel
theorem dX11_point_28 : decode cX11_point 28 = .ok (.iconst (-1), 1) := by decide +kernel
theorem dX11_point_29 : decode cX11_point 29 = .ok (.ireturn, 1) := by decide +kernel
theorem dX11_point_30 : decode cX11_point 30 = .ok (.aload_n 0, 1) := by decide +kernel
theorem dX11_point_31 : decode cX11_point 31 = .ok (.getfield 94, 3) := by decide +kernel
theorem dX11_point_34 : decode cX11_point 34 = .ok (.bipush 40, 2) := by decide +kernel
theorem dX11_point_36 : decode cX11_point 36 = .ok (.if_icmp .ne 6, 3) := by decide +kernel
theorem dX11_point_39 : decode cX11_point 39 = .ok (.bipush (-2), 2) := by decide +kernel
theorem dX11_point_41 : decode cX11_point 41 = .ok (.ireturn, 1) := by decide +kernel
theorem dX11_point_42 : decode cX11_point 42 = .ok (.aload_n 0, 1) := by decide +kernel
theorem dX11_point_43 : decode cX11_point 43 = .ok (.getfield 100, 3) := by decide +kernel
theorem dX11_point_46 : decode cX11_point 46 = .ok (.aload_n 0, 1) := by decide +kernel
theorem dX11_point_47 : decode cX11_point 47 = .ok (.getfield 94, 3) := by decide +kernel
theorem dX11_point_50 : decode cX11_point 50 = .ok (.iload_n 1, 1) := by decide +kernel
theorem dX11_point_51 : decode cX11_point 51 = .ok (.iastore, 1) := by decide +kernel
theorem dX11_point_52 : decode cX11_point 52 = .ok (.aload_n 0, 1) := by decide +kernel
theorem dX11_point_53 : decode cX11_point 53 = .ok (.getfield 103, 3) := by decide +kernel
theorem dX11_point_56 : decode cX11_point 56 = .ok (.aload_n 0, 1) := by decide +kernel
theorem dX11_point_57 : decode cX11_point 57 = .ok (.getfield 94, 3) := by decide +kernel
theorem dX11_point_60 : decode cX11_point 60 = .ok (.iload_n 2, 1) := by decide +kernel
theorem dX11_point_61 : decode cX11_point 61 = .ok (.iastore, 1) := by decide +kernel
theorem dX11_point_62 : decode cX11_point 62 = .ok (.aload_n 0, 1) := by decide +kernel
theorem dX11_point_63 : decode cX11_point 63 = .ok (.dup, 1) := by decide +kernel
theorem dX11_point_64 : decode cX11_point 64 = .ok (.getfield 94, 3) := by decide +kernel
theorem dX11_point_67 : decode cX11_point 67 = .ok (.iconst 1, 1) := by decide +kernel
theorem dX11_point_68 : decode cX11_point 68 = .ok (.iadd, 1) := by decide +kernel
theorem dX11_point_69 : decode cX11_point 69 = .ok (.putfield 94, 3) := by decide +kernel
theorem dX11_point_72 : decode cX11_point 72 = .ok (.aload_n 0, 1) := by decide +kernel
theorem dX11_point_73 : decode cX11_point 73 = .ok (.getfield 94, 3) := by decide +kernel
theorem dX11_point_76 : decode cX11_point 76 = .ok (.ireturn, 1) := by decide +kernel
theorem dX11_tool_0 : decode cX11_tool 0 = .ok (.aload_n 0, 1) := by decide +kernel
theorem dX11_tool_1 : decode cX11_tool 1 = .ok (.iload_n 1, 1) := by decide +kernel
theorem dX11_tool_2 : decode cX11_tool 2 = .ok (.iconst 0, 1) := by decide +kernel
theorem dX11_tool_3 : decode cX11_tool 3 = .ok (.bipush 20, 2) := by decide +kernel
theorem dX11_tool_5 : decode cX11_tool 5 = .ok (.invokevirtual 130, 3) := by decide +kernel
theorem dX11_tool_8 : decode cX11_tool 8 = .ok (.ifCond .ne 5, 3) := by decide +kernel
theorem dX11_tool_11 : decode cX11_tool 11 = .ok (.iconst (-1), 1) := by decide +kernel
theorem dX11_tool_12 : decode cX11_tool 12 = .ok (.ireturn, 1) := by decide +kernel
theorem dX11_tool_13 : decode cX11_tool 13 = .ok (.aload_n 0, 1) := by decide +kernel
theorem dX11_tool_14 : decode cX11_tool 14 = .ok (.getfield 94, 3) := by decide +kernel
theorem dX11_tool_17 : decode cX11_tool 17 = .ok (.istore_n 2, 1) := by decide +kernel
theorem dX11_tool_18 : decode cX11_tool 18 = .ok (.aload_n 0, 1) := by decide +kernel
theorem dX11_tool_19 : decode cX11_tool 19 = .ok (.iconst 0, 1) := by decide +kernel
theorem dX11_tool_20 : decode cX11_tool 20 = .ok (.putfield 94, 3) := by decide +kernel
theorem dX11_tool_23 : decode cX11_tool 23 = .ok (.aload_n 0, 1) := by decide +kernel
theorem dX11_tool_24 : decode cX11_tool 24 = .ok (.iload_n 1, 1) := by decide +kernel
theorem dX11_tool_25 : decode cX11_tool 25 = .ok (.putfield 97, 3) := by decide +kernel
theorem dX11_tool_28 : decode cX11_tool 28 = .ok (.iload_n 2, 1) := by decide +kernel
theorem dX11_tool_29 : decode cX11_tool 29 = .ok (.ireturn, 1) := by decide +kernel
theorem dX11_isNear_0 : decode cX11_isNear 0 = .ok (.aload_n 0, 1) := by decide +kernel
theorem dX11_isNear_1 : decode cX11_isNear 1 = .ok (.getfield 97, 3) := by decide +kernel
theorem dX11_isNear_4 : decode cX11_isNear 4 = .ok (.aload_n 0, 1) := by decide +kernel
theorem dX11_isNear_5 : decode cX11_isNear 5 = .ok (.getfield 32, 3) := by decide +kernel
theorem dX11_isNear_8 : decode cX11_isNear 8 = .ok (.iload_n 1, 1) := by decide +kernel
theorem dX11_isNear_9 : decode cX11_isNear 9 = .ok (.iaload, 1) := by decide +kernel
theorem dX11_isNear_10 : decode cX11_isNear 10 = .ok (.iadd, 1) := by decide +kernel
theorem dX11_isNear_11 : decode cX11_isNear 11 = .ok (.i2l, 1) := by decide +kernel
theorem dX11_isNear_12 : decode cX11_isNear 12 = .ok (.lstore 4, 2) := by decide +kernel
theorem dX11_isNear_14 : decode cX11_isNear 14 = .ok (.aload_n 0, 1) := by decide +kernel
theorem dX11_isNear_15 : decode cX11_isNear 15 = .ok (.getfield 23, 3) := by decide +kernel
theorem dX11_isNear_18 : decode cX11_isNear 18 = .ok (.iload_n 1, 1) := by decide +kernel
theorem dX11_isNear_19 : decode cX11_isNear 19 = .ok (.iaload, 1) := by decide +kernel
theorem dX11_isNear_20 : decode cX11_isNear 20 = .ok (.aload_n 0, 1) := by decide +kernel
theorem dX11_isNear_21 : decode cX11_isNear 21 = .ok (.getfield 100, 3) := by decide +kernel
theorem dX11_isNear_24 : decode cX11_isNear 24 = .ok (.iload_n 2, 1) := by decide +kernel
theorem dX11_isNear_25 : decode cX11_isNear 25 = .ok (.iaload, 1) := by decide +kernel
theorem dX11_isNear_26 : decode cX11_isNear 26 = .ok (.isub, 1) := by decide +kernel
theorem dX11_isNear_27 : decode cX11_isNear 27 = .ok (.i2l, 1) := by decide +kernel
theorem dX11_isNear_28 : decode cX11_isNear 28 = .ok (.lstore 6, 2) := by decide +kernel
theorem dX11_isNear_30 : decode cX11_isNear 30 = .ok (.aload_n 0, 1) := by decide +kernel
theorem dX11_isNear_31 : decode cX11_isNear 31 = .ok (.getfield 26, 3) := by decide +kernel
theorem dX11_isNear_34 : decode cX11_isNear 34 = .ok (.iload_n 1, 1) := by decide +kernel
theorem dX11_isNear_35 : decode cX11_isNear 35 = .ok (.iaload, 1) := by decide +kernel
theorem dX11_isNear_36 : decode cX11_isNear 36 = .ok (.aload_n 0, 1) := by decide +kernel
theorem dX11_isNear_37 : decode cX11_isNear 37 = .ok (.getfield 103, 3) := by decide +kernel
theorem dX11_isNear_40 : decode cX11_isNear 40 = .ok (.iload_n 2, 1) := by decide +kernel
theorem dX11_isNear_41 : decode cX11_isNear 41 = .ok (.iaload, 1) := by decide +kernel
theorem dX11_isNear_42 : decode cX11_isNear 42 = .ok (.isub, 1) := by decide +kernel
theorem dX11_isNear_43 : decode cX11_isNear 43 = .ok (.i2l, 1) := by decide +kernel
theorem dX11_isNear_44 : decode cX11_isNear 44 = .ok (.lstore 8, 2) := by decide +kernel
theorem dX11_isNear_46 : decode cX11_isNear 46 = .ok (.aload_n 0, 1) := by decide +kernel
theorem dX11_isNear_47 : decode cX11_isNear 47 = .ok (.getfield 100, 3) := by decide +kernel
theorem dX11_isNear_50 : decode cX11_isNear 50 = .ok (.iload_n 3, 1) := by decide +kernel
theorem dX11_isNear_51 : decode cX11_isNear 51 = .ok (.iaload, 1) := by decide +kernel
theorem dX11_isNear_52 : decode cX11_isNear 52 = .ok (.aload_n 0, 1) := by decide +kernel
theorem dX11_isNear_53 : decode cX11_isNear 53 = .ok (.getfield 100, 3) := by decide +kernel
theorem dX11_isNear_56 : decode cX11_isNear 56 = .ok (.iload_n 2, 1) := by decide +kernel
theorem dX11_isNear_57 : decode cX11_isNear 57 = .ok (.iaload, 1) := by decide +kernel
theorem dX11_isNear_58 : decode cX11_isNear 58 = .ok (.isub, 1) := by decide +kernel
theorem dX11_isNear_59 : decode cX11_isNear 59 = .ok (.i2l, 1) := by decide +kernel
theorem dX11_isNear_60 : decode cX11_isNear 60 = .ok (.lstore 10, 2) := by decide +kernel
theorem dX11_isNear_62 : decode cX11_isNear 62 = .ok (.aload_n 0, 1) := by decide +kernel
theorem dX11_isNear_63 : decode cX11_isNear 63 = .ok (.getfield 103, 3) := by decide +kernel
theorem dX11_isNear_66 : decode cX11_isNear 66 = .ok (.iload_n 3, 1) := by decide +kernel
theorem dX11_isNear_67 : decode cX11_isNear 67 = .ok (.iaload, 1) := by decide +kernel
theorem dX11_isNear_68 : decode cX11_isNear 68 = .ok (.aload_n 0, 1) := by decide +kernel
theorem dX11_isNear_69 : decode cX11_isNear 69 = .ok (.getfield 103, 3) := by decide +kernel
theorem dX11_isNear_72 : decode cX11_isNear 72 = .ok (.iload_n 2, 1) := by decide +kernel
theorem dX11_isNear_73 : decode cX11_isNear 73 = .ok (.iaload, 1) := by decide +kernel
theorem dX11_isNear_74 : decode cX11_isNear 74 = .ok (.isub, 1) := by decide +kernel
theorem dX11_isNear_75 : decode cX11_isNear 75 = .ok (.i2l, 1) := by decide +kernel
theorem dX11_isNear_76 : decode cX11_isNear 76 = .ok (.lstore 12, 2) := by decide +kernel
theorem dX11_isNear_78 : decode cX11_isNear 78 = .ok (.lload 6, 2) := by decide +kernel
theorem dX11_isNear_80 : decode cX11_isNear 80 = .ok (.lload 10, 2) := by decide +kernel
theorem dX11_isNear_82 : decode cX11_isNear 82 = .ok (.lmul, 1) := by decide +kernel
theorem dX11_isNear_83 : decode cX11_isNear 83 = .ok (.lload 8, 2) := by decide +kernel
theorem dX11_isNear_85 : decode cX11_isNear 85 = .ok (.lload 12, 2) := by decide +kernel
theorem dX11_isNear_87 : decode cX11_isNear 87 = .ok (.lmul, 1) := by decide +kernel
theorem dX11_isNear_88 : decode cX11_isNear 88 = .ok (.ladd, 1) := by decide +kernel
theorem dX11_isNear_89 : decode cX11_isNear 89 = .ok (.lstore 14, 2) := by decide +kernel
theorem dX11_isNear_91 : decode cX11_isNear 91 = .ok (.lload 10, 2) := by decide +kernel
theorem dX11_isNear_93 : decode cX11_isNear 93 = .ok (.lload 10, 2) := by decide +kernel
theorem dX11_isNear_95 : decode cX11_isNear 95 = .ok (.lmul, 1) := by decide +kernel
theorem dX11_isNear_96 : decode cX11_isNear 96 = .ok (.lload 12, 2) := by decide +kernel
theorem dX11_isNear_98 : decode cX11_isNear 98 = .ok (.lload 12, 2) := by decide +kernel
theorem dX11_isNear_100 : decode cX11_isNear 100 = .ok (.lmul, 1) := by decide +kernel
theorem dX11_isNear_101 : decode cX11_isNear 101 = .ok (.ladd, 1) := by decide +kernel
theorem dX11_isNear_102 : decode cX11_isNear 102 = .ok (.lstore 16, 2) := by decide +kernel
theorem dX11_isNear_104 : decode cX11_isNear 104 = .ok (.lload 14, 2) := by decide +kernel
theorem dX11_isNear_106 : decode cX11_isNear 106 = .ok (.lconst 0, 1) := by decide +kernel
theorem dX11_isNear_107 : decode cX11_isNear 107 = .ok (.lcmp, 1) := by decide +kernel
theorem dX11_isNear_108 : decode cX11_isNear 108 = .ok (.ifCond .gt 29, 3) := by decide +kernel
theorem dX11_isNear_111 : decode cX11_isNear 111 = .ok (.lload 6, 2) := by decide +kernel
theorem dX11_isNear_113 : decode cX11_isNear 113 = .ok (.lload 6, 2) := by decide +kernel
theorem dX11_isNear_115 : decode cX11_isNear 115 = .ok (.lmul, 1) := by decide +kernel
theorem dX11_isNear_116 : decode cX11_isNear 116 = .ok (.lload 8, 2) := by decide +kernel
theorem dX11_isNear_118 : decode cX11_isNear 118 = .ok (.lload 8, 2) := by decide +kernel
theorem dX11_isNear_120 : decode cX11_isNear 120 = .ok (.lmul, 1) := by decide +kernel
theorem dX11_isNear_121 : decode cX11_isNear 121 = .ok (.ladd, 1) := by decide +kernel
theorem dX11_isNear_122 : decode cX11_isNear 122 = .ok (.lload 4, 2) := by decide +kernel
theorem dX11_isNear_124 : decode cX11_isNear 124 = .ok (.lload 4, 2) := by decide +kernel
theorem dX11_isNear_126 : decode cX11_isNear 126 = .ok (.lmul, 1) := by decide +kernel
theorem dX11_isNear_127 : decode cX11_isNear 127 = .ok (.lcmp, 1) := by decide +kernel
theorem dX11_isNear_128 : decode cX11_isNear 128 = .ok (.ifCond .ge 7, 3) := by decide +kernel
theorem dX11_isNear_131 : decode cX11_isNear 131 = .ok (.iconst 1, 1) := by decide +kernel
theorem dX11_isNear_132 : decode cX11_isNear 132 = .ok (.goto 4, 3) := by decide +kernel
theorem dX11_isNear_135 : decode cX11_isNear 135 = .ok (.iconst 0, 1) := by decide +kernel
theorem dX11_isNear_136 : decode cX11_isNear 136 = .ok (.ireturn, 1) := by decide +kernel
theorem dX11_isNear_137 : decode cX11_isNear 137 = .ok (.lload 14, 2) := by decide +kernel
theorem dX11_isNear_139 : decode cX11_isNear 139 = .ok (.lload 16, 2) := by decide +kernel
theorem dX11_isNear_141 : decode cX11_isNear 141 = .ok (.lcmp, 1) := by decide +kernel
theorem dX11_isNear_142 : decode cX11_isNear 142 = .ok (.ifCond .lt 41, 3) := by decide +kernel
theorem dX11_isNear_145 : decode cX11_isNear 145 = .ok (.lload 6, 2) := by decide +kernel
theorem dX11_isNear_147 : decode cX11_isNear 147 = .ok (.lload 10, 2) := by decide +kernel
theorem dX11_isNear_149 : decode cX11_isNear 149 = .ok (.lsub, 1) := by decide +kernel
theorem dX11_isNear_150 : decode cX11_isNear 150 = .ok (.lload 6, 2) := by decide +kernel
theorem dX11_isNear_152 : decode cX11_isNear 152 = .ok (.lload 10, 2) := by decide +kernel
theorem dX11_isNear_154 : decode cX11_isNear 154 = .ok (.lsub, 1) := by decide +kernel
theorem dX11_isNear_155 : decode cX11_isNear 155 = .ok (.lmul, 1) := by decide +kernel
theorem dX11_isNear_156 : decode cX11_isNear 156 = .ok (.lload 8, 2) := by decide +kernel
theorem dX11_isNear_158 : decode cX11_isNear 158 = .ok (.lload 12, 2) := by decide +kernel
theorem dX11_isNear_160 : decode cX11_isNear 160 = .ok (.lsub, 1) := by decide +kernel
theorem dX11_isNear_161 : decode cX11_isNear 161 = .ok (.lload 8, 2) := by decide +kernel
theorem dX11_isNear_163 : decode cX11_isNear 163 = .ok (.lload 12, 2) := by decide +kernel
theorem dX11_isNear_165 : decode cX11_isNear 165 = .ok (.lsub, 1) := by decide +kernel
theorem dX11_isNear_166 : decode cX11_isNear 166 = .ok (.lmul, 1) := by decide +kernel
theorem dX11_isNear_167 : decode cX11_isNear 167 = .ok (.ladd, 1) := by decide +kernel
theorem dX11_isNear_168 : decode cX11_isNear 168 = .ok (.lload 4, 2) := by decide +kernel
theorem dX11_isNear_170 : decode cX11_isNear 170 = .ok (.lload 4, 2) := by decide +kernel
theorem dX11_isNear_172 : decode cX11_isNear 172 = .ok (.lmul, 1) := by decide +kernel
theorem dX11_isNear_173 : decode cX11_isNear 173 = .ok (.lcmp, 1) := by decide +kernel
theorem dX11_isNear_174 : decode cX11_isNear 174 = .ok (.ifCond .ge 7, 3) := by decide +kernel
theorem dX11_isNear_177 : decode cX11_isNear 177 = .ok (.iconst 1, 1) := by decide +kernel
theorem dX11_isNear_178 : decode cX11_isNear 178 = .ok (.goto 4, 3) := by decide +kernel
theorem dX11_isNear_181 : decode cX11_isNear 181 = .ok (.iconst 0, 1) := by decide +kernel
theorem dX11_isNear_182 : decode cX11_isNear 182 = .ok (.ireturn, 1) := by decide +kernel
theorem dX11_isNear_183 : decode cX11_isNear 183 = .ok (.lload 10, 2) := by decide +kernel
theorem dX11_isNear_185 : decode cX11_isNear 185 = .ok (.lload 8, 2) := by decide +kernel
theorem dX11_isNear_187 : decode cX11_isNear 187 = .ok (.lmul, 1) := by decide +kernel
theorem dX11_isNear_188 : decode cX11_isNear 188 = .ok (.lload 12, 2) := by decide +kernel
theorem dX11_isNear_190 : decode cX11_isNear 190 = .ok (.lload 6, 2) := by decide +kernel
theorem dX11_isNear_192 : decode cX11_isNear 192 = .ok (.lmul, 1) := by decide +kernel
theorem dX11_isNear_193 : decode cX11_isNear 193 = .ok (.lsub, 1) := by decide +kernel
theorem dX11_isNear_194 : decode cX11_isNear 194 = .ok (.lstore 18, 2) := by decide +kernel
theorem dX11_isNear_196 : decode cX11_isNear 196 = .ok (.lload 18, 2) := by decide +kernel
theorem dX11_isNear_198 : decode cX11_isNear 198 = .ok (.lload 18, 2) := by decide +kernel
theorem dX11_isNear_200 : decode cX11_isNear 200 = .ok (.lmul, 1) := by decide +kernel
theorem dX11_isNear_201 : decode cX11_isNear 201 = .ok (.lload 4, 2) := by decide +kernel
theorem dX11_isNear_203 : decode cX11_isNear 203 = .ok (.lload 4, 2) := by decide +kernel
theorem dX11_isNear_205 : decode cX11_isNear 205 = .ok (.lmul, 1) := by decide +kernel
theorem dX11_isNear_206 : decode cX11_isNear 206 = .ok (.lload 16, 2) := by decide +kernel
theorem dX11_isNear_208 : decode cX11_isNear 208 = .ok (.lmul, 1) := by decide +kernel
theorem dX11_isNear_209 : decode cX11_isNear 209 = .ok (.lcmp, 1) := by decide +kernel
theorem dX11_isNear_210 : decode cX11_isNear 210 = .ok (.ifCond .ge 7, 3) := by decide +kernel
theorem dX11_isNear_213 : decode cX11_isNear 213 = .ok (.iconst 1, 1) := by decide +kernel
theorem dX11_isNear_214 : decode cX11_isNear 214 = .ok (.goto 4, 3) := by decide +kernel
theorem dX11_isNear_217 : decode cX11_isNear 217 = .ok (.iconst 0, 1) := by decide +kernel
theorem dX11_isNear_218 : decode cX11_isNear 218 = .ok (.ireturn, 1) := by decide +kernel
theorem dX11_firstMeeting_0 : decode cX11_firstMeeting 0 = .ok (.aload_n 0, 1) := by decide +kernel
theorem dX11_firstMeeting_1 : decode cX11_firstMeeting 1 = .ok (.getfield 94, 3) := by decide +kernel
theorem dX11_firstMeeting_4 : decode cX11_firstMeeting 4 = .ok (.iconst 1, 1) := by decide +kernel
theorem dX11_firstMeeting_5 : decode cX11_firstMeeting 5 = .ok (.if_icmp .ne 20, 3) := by decide +kernel
theorem dX11_firstMeeting_8 : decode cX11_firstMeeting 8 = .ok (.aload_n 0, 1) := by decide +kernel
theorem dX11_firstMeeting_9 : decode cX11_firstMeeting 9 = .ok (.iload_n 1, 1) := by decide +kernel
theorem dX11_firstMeeting_10 : decode cX11_firstMeeting 10 = .ok (.iconst 0, 1) := by decide +kernel
theorem dX11_firstMeeting_11 : decode cX11_firstMeeting 11 = .ok (.iconst 0, 1) := by decide +kernel
theorem dX11_firstMeeting_12 : decode cX11_firstMeeting 12 = .ok (.invokevirtual 266, 3) := by decide +kernel
theorem dX11_firstMeeting_15 : decode cX11_firstMeeting 15 = .ok (.ifCond .eq 7, 3) := by decide +kernel
theorem dX11_firstMeeting_18 : decode cX11_firstMeeting 18 = .ok (.iconst 0, 1) := by decide +kernel
theorem dX11_firstMeeting_19 : decode cX11_firstMeeting 19 = .ok (.goto 5, 3) := by decide +kernel
theorem dX11_firstMeeting_22 : decode cX11_firstMeeting 22 = .ok (.bipush (-2), 2) := by decide +kernel
theorem dX11_firstMeeting_24 : decode cX11_firstMeeting 24 = .ok (.ireturn, 1) := by decide +kernel
theorem dX11_firstMeeting_25 : decode cX11_firstMeeting 25 = .ok (.iconst 0, 1) := by decide +kernel
theorem dX11_firstMeeting_26 : decode cX11_firstMeeting 26 = .ok (.istore_n 2, 1) := by decide +kernel
theorem dX11_firstMeeting_27 : decode cX11_firstMeeting 27 = .ok (.iload_n 2, 1) := by decide +kernel
theorem dX11_firstMeeting_28 : decode cX11_firstMeeting 28 = .ok (.aload_n 0, 1) := by decide +kernel
theorem dX11_firstMeeting_29 : decode cX11_firstMeeting 29 = .ok (.getfield 94, 3) := by decide +kernel
theorem dX11_firstMeeting_32 : decode cX11_firstMeeting 32 = .ok (.iconst 1, 1) := by decide +kernel
theorem dX11_firstMeeting_33 : decode cX11_firstMeeting 33 = .ok (.isub, 1) := by decide +kernel
theorem dX11_firstMeeting_34 : decode cX11_firstMeeting 34 = .ok (.if_icmp .ge 23, 3) := by decide +kernel
theorem dX11_firstMeeting_37 : decode cX11_firstMeeting 37 = .ok (.aload_n 0, 1) := by decide +kernel
theorem dX11_firstMeeting_38 : decode cX11_firstMeeting 38 = .ok (.iload_n 1, 1) := by decide +kernel
theorem dX11_firstMeeting_39 : decode cX11_firstMeeting 39 = .ok (.iload_n 2, 1) := by decide +kernel
theorem dX11_firstMeeting_40 : decode cX11_firstMeeting 40 = .ok (.iload_n 2, 1) := by decide +kernel
theorem dX11_firstMeeting_41 : decode cX11_firstMeeting 41 = .ok (.iconst 1, 1) := by decide +kernel
theorem dX11_firstMeeting_42 : decode cX11_firstMeeting 42 = .ok (.iadd, 1) := by decide +kernel
theorem dX11_firstMeeting_43 : decode cX11_firstMeeting 43 = .ok (.invokevirtual 266, 3) := by decide +kernel
theorem dX11_firstMeeting_46 : decode cX11_firstMeeting 46 = .ok (.ifCond .eq 5, 3) := by decide +kernel
theorem dX11_firstMeeting_49 : decode cX11_firstMeeting 49 = .ok (.iload_n 2, 1) := by decide +kernel
theorem dX11_firstMeeting_50 : decode cX11_firstMeeting 50 = .ok (.ireturn, 1) := by decide +kernel
theorem dX11_firstMeeting_51 : decode cX11_firstMeeting 51 = .ok (.iinc 2 1, 3) := by decide +kernel
theorem dX11_firstMeeting_54 : decode cX11_firstMeeting 54 = .ok (.goto (-27), 3) := by decide +kernel
theorem dX11_firstMeeting_57 : decode cX11_firstMeeting 57 = .ok (.bipush (-2), 2) := by decide +kernel
theorem dX11_firstMeeting_59 : decode cX11_firstMeeting 59 = .ok (.ireturn, 1) := by decide +kernel
theorem dX11_meets_0 : decode cX11_meets 0 = .ok (.aload_n 0, 1) := by decide +kernel
theorem dX11_meets_1 : decode cX11_meets 1 = .ok (.iload_n 1, 1) := by decide +kernel
theorem dX11_meets_2 : decode cX11_meets 2 = .ok (.invokevirtual 142, 3) := by decide +kernel
theorem dX11_meets_5 : decode cX11_meets 5 = .ok (.ifCond .ne 5, 3) := by decide +kernel
theorem dX11_meets_8 : decode cX11_meets 8 = .ok (.iconst (-1), 1) := by decide +kernel
theorem dX11_meets_9 : decode cX11_meets 9 = .ok (.ireturn, 1) := by decide +kernel
theorem dX11_meets_10 : decode cX11_meets 10 = .ok (.aload_n 0, 1) := by decide +kernel
theorem dX11_meets_11 : decode cX11_meets 11 = .ok (.getfield 94, 3) := by decide +kernel
theorem dX11_meets_14 : decode cX11_meets 14 = .ok (.ifCond .ne 8, 3) := by decide +kernel
theorem dX11_meets_17 : decode cX11_meets 17 = .ok (.bipush (-3), 2) := by decide +kernel
theorem dX11_meets_19 : decode cX11_meets 19 = .ok (.goto 8, 3) := by decide +kernel
theorem dX11_meets_22 : decode cX11_meets 22 = .ok (.aload_n 0, 1) := by decide +kernel
theorem dX11_meets_23 : decode cX11_meets 23 = .ok (.iload_n 1, 1) := by decide +kernel
theorem dX11_meets_24 : decode cX11_meets 24 = .ok (.invokevirtual 269, 3) := by decide +kernel
theorem dX11_meets_27 : decode cX11_meets 27 = .ok (.ireturn, 1) := by decide +kernel
theorem dX11_met_0 : decode cX11_met 0 = .ok (.aload_n 0, 1) := by decide +kernel
theorem dX11_met_1 : decode cX11_met 1 = .ok (.getfield 94, 3) := by decide +kernel
theorem dX11_met_4 : decode cX11_met 4 = .ok (.ifCond .ne 6, 3) := by decide +kernel
theorem dX11_met_7 : decode cX11_met 7 = .ok (.bipush (-3), 2) := by decide +kernel
theorem dX11_met_9 : decode cX11_met 9 = .ok (.ireturn, 1) := by decide +kernel
theorem dX11_met_10 : decode cX11_met 10 = .ok (.iconst 0, 1) := by decide +kernel
theorem dX11_met_11 : decode cX11_met 11 = .ok (.istore_n 1, 1) := by decide +kernel
theorem dX11_met_12 : decode cX11_met 12 = .ok (.iconst 0, 1) := by decide +kernel
theorem dX11_met_13 : decode cX11_met 13 = .ok (.istore_n 2, 1) := by decide +kernel
theorem dX11_met_14 : decode cX11_met 14 = .ok (.iload_n 2, 1) := by decide +kernel
theorem dX11_met_15 : decode cX11_met 15 = .ok (.aload_n 0, 1) := by decide +kernel
theorem dX11_met_16 : decode cX11_met 16 = .ok (.getfield 13, 3) := by decide +kernel
theorem dX11_met_19 : decode cX11_met 19 = .ok (.if_icmp .ge 27, 3) := by decide +kernel
theorem dX11_met_22 : decode cX11_met 22 = .ok (.iload_n 1, 1) := by decide +kernel
theorem dX11_met_23 : decode cX11_met 23 = .ok (.aload_n 0, 1) := by decide +kernel
theorem dX11_met_24 : decode cX11_met 24 = .ok (.iload_n 2, 1) := by decide +kernel
theorem dX11_met_25 : decode cX11_met 25 = .ok (.invokevirtual 269, 3) := by decide +kernel
theorem dX11_met_28 : decode cX11_met 28 = .ok (.ifCond .lt 9, 3) := by decide +kernel
theorem dX11_met_31 : decode cX11_met 31 = .ok (.iconst 1, 1) := by decide +kernel
theorem dX11_met_32 : decode cX11_met 32 = .ok (.iload_n 2, 1) := by decide +kernel
theorem dX11_met_33 : decode cX11_met 33 = .ok (.ishl, 1) := by decide +kernel
theorem dX11_met_34 : decode cX11_met 34 = .ok (.goto 4, 3) := by decide +kernel
theorem dX11_met_37 : decode cX11_met 37 = .ok (.iconst 0, 1) := by decide +kernel
theorem dX11_met_38 : decode cX11_met 38 = .ok (.ior, 1) := by decide +kernel
theorem dX11_met_39 : decode cX11_met 39 = .ok (.istore_n 1, 1) := by decide +kernel
theorem dX11_met_40 : decode cX11_met 40 = .ok (.iinc 2 1, 3) := by decide +kernel
theorem dX11_met_43 : decode cX11_met 43 = .ok (.goto (-29), 3) := by decide +kernel
theorem dX11_met_46 : decode cX11_met 46 = .ok (.iload_n 1, 1) := by decide +kernel
theorem dX11_met_47 : decode cX11_met 47 = .ok (.ireturn, 1) := by decide +kernel
theorem dX11_count_0 : decode cX11_count 0 = .ok (.iload_n 1, 1) := by decide +kernel
theorem dX11_count_1 : decode cX11_count 1 = .ok (.ifCond .ne 10, 3) := by decide +kernel
theorem dX11_count_4 : decode cX11_count 4 = .ok (.aload_n 0, 1) := by decide +kernel
theorem dX11_count_5 : decode cX11_count 5 = .ok (.getfield 13, 3) := by decide +kernel
theorem dX11_count_8 : decode cX11_count 8 = .ok (.goto 52, 3) := by decide +kernel
theorem dX11_count_11 : decode cX11_count 11 = .ok (.iload_n 1, 1) := by decide +kernel
theorem dX11_count_12 : decode cX11_count 12 = .ok (.iconst 1, 1) := by decide +kernel
theorem dX11_count_13 : decode cX11_count 13 = .ok (.if_icmp .ne 10, 3) := by decide +kernel
theorem dX11_count_16 : decode cX11_count 16 = .ok (.aload_n 0, 1) := by decide +kernel
theorem dX11_count_17 : decode cX11_count 17 = .ok (.getfield 63, 3) := by decide +kernel
theorem dX11_count_20 : decode cX11_count 20 = .ok (.goto 40, 3) := by decide +kernel
theorem dX11_count_23 : decode cX11_count 23 = .ok (.iload_n 1, 1) := by decide +kernel
theorem dX11_count_24 : decode cX11_count 24 = .ok (.iconst 2, 1) := by decide +kernel
theorem dX11_count_25 : decode cX11_count 25 = .ok (.if_icmp .ne 10, 3) := by decide +kernel
theorem dX11_count_28 : decode cX11_count 28 = .ok (.aload_n 0, 1) := by decide +kernel
theorem dX11_count_29 : decode cX11_count 29 = .ok (.getfield 82, 3) := by decide +kernel
theorem dX11_count_32 : decode cX11_count 32 = .ok (.goto 28, 3) := by decide +kernel
theorem dX11_count_35 : decode cX11_count 35 = .ok (.iload_n 1, 1) := by decide +kernel
theorem dX11_count_36 : decode cX11_count 36 = .ok (.iconst 3, 1) := by decide +kernel
theorem dX11_count_37 : decode cX11_count 37 = .ok (.if_icmp .ne 10, 3) := by decide +kernel
theorem dX11_count_40 : decode cX11_count 40 = .ok (.aload_n 0, 1) := by decide +kernel
theorem dX11_count_41 : decode cX11_count 41 = .ok (.getfield 94, 3) := by decide +kernel
theorem dX11_count_44 : decode cX11_count 44 = .ok (.goto 16, 3) := by decide +kernel
theorem dX11_count_47 : decode cX11_count 47 = .ok (.iload_n 1, 1) := by decide +kernel
theorem dX11_count_48 : decode cX11_count 48 = .ok (.iconst 4, 1) := by decide +kernel
theorem dX11_count_49 : decode cX11_count 49 = .ok (.if_icmp .ne 10, 3) := by decide +kernel
theorem dX11_count_52 : decode cX11_count 52 = .ok (.aload_n 0, 1) := by decide +kernel
theorem dX11_count_53 : decode cX11_count 53 = .ok (.getfield 97, 3) := by decide +kernel
theorem dX11_count_56 : decode cX11_count 56 = .ok (.goto 4, 3) := by decide +kernel
theorem dX11_count_59 : decode cX11_count 59 = .ok (.iconst (-1), 1) := by decide +kernel
theorem dX11_count_60 : decode cX11_count 60 = .ok (.ireturn, 1) := by decide +kernel
theorem dX11_isShelf_0 : decode cX11_isShelf 0 = .ok (.aload_n 0, 1) := by decide +kernel
theorem dX11_isShelf_1 : decode cX11_isShelf 1 = .ok (.iload_n 1, 1) := by decide +kernel
theorem dX11_isShelf_2 : decode cX11_isShelf 2 = .ok (.iconst 0, 1) := by decide +kernel
theorem dX11_isShelf_3 : decode cX11_isShelf 3 = .ok (.bipush 7, 2) := by decide +kernel
theorem dX11_isShelf_5 : decode cX11_isShelf 5 = .ok (.invokevirtual 130, 3) := by decide +kernel
theorem dX11_isShelf_8 : decode cX11_isShelf 8 = .ok (.ireturn, 1) := by decide +kernel
theorem dX11_wipe_0 : decode cX11_wipe 0 = .ok (.iconst 0, 1) := by decide +kernel
theorem dX11_wipe_1 : decode cX11_wipe 1 = .ok (.istore_n 2, 1) := by decide +kernel
theorem dX11_wipe_2 : decode cX11_wipe 2 = .ok (.iload_n 2, 1) := by decide +kernel
theorem dX11_wipe_3 : decode cX11_wipe 3 = .ok (.bipush 60, 2) := by decide +kernel
theorem dX11_wipe_5 : decode cX11_wipe 5 = .ok (.if_icmp .ge 21, 3) := by decide +kernel
theorem dX11_wipe_8 : decode cX11_wipe 8 = .ok (.aload_n 0, 1) := by decide +kernel
theorem dX11_wipe_9 : decode cX11_wipe 9 = .ok (.getfield 124, 3) := by decide +kernel
theorem dX11_wipe_12 : decode cX11_wipe 12 = .ok (.bipush 60, 2) := by decide +kernel
theorem dX11_wipe_14 : decode cX11_wipe 14 = .ok (.iload_n 1, 1) := by decide +kernel
theorem dX11_wipe_15 : decode cX11_wipe 15 = .ok (.imul, 1) := by decide +kernel
theorem dX11_wipe_16 : decode cX11_wipe 16 = .ok (.iload_n 2, 1) := by decide +kernel
theorem dX11_wipe_17 : decode cX11_wipe 17 = .ok (.iadd, 1) := by decide +kernel
theorem dX11_wipe_18 : decode cX11_wipe 18 = .ok (.iconst 0, 1) := by decide +kernel
theorem dX11_wipe_19 : decode cX11_wipe 19 = .ok (.iastore, 1) := by decide +kernel
theorem dX11_wipe_20 : decode cX11_wipe 20 = .ok (.iinc 2 1, 3) := by decide +kernel
theorem dX11_wipe_23 : decode cX11_wipe 23 = .ok (.goto (-21), 3) := by decide +kernel
theorem dX11_wipe_26 : decode cX11_wipe 26 = .ok (.return_, 1) := by decide +kernel
theorem dX11_keep_0 : decode cX11_keep 0 = .ok (.aload_n 0, 1) := by decide +kernel
theorem dX11_keep_1 : decode cX11_keep 1 = .ok (.iload_n 1, 1) := by decide +kernel
theorem dX11_keep_2 : decode cX11_keep 2 = .ok (.invokevirtual 272, 3) := by decide +kernel
theorem dX11_keep_5 : decode cX11_keep 5 = .ok (.ifCond .eq 34, 3) := by decide +kernel
theorem dX11_keep_8 : decode cX11_keep 8 = .ok (.iload_n 2, 1) := by decide +kernel
theorem dX11_keep_9 : decode cX11_keep 9 = .ok (.ifCond .eq 26, 3) := by decide +kernel
theorem dX11_keep_12 : decode cX11_keep 12 = .ok (.iload_n 2, 1) := by decide +kernel
theorem dX11_keep_13 : decode cX11_keep 13 = .ok (.iconst 3, 1) := by decide +kernel
theorem dX11_keep_14 : decode cX11_keep 14 = .ok (.if_icmp .eq 21, 3) := by decide +kernel
theorem dX11_keep_17 : decode cX11_keep 17 = .ok (.iload_n 2, 1) := by decide +kernel
theorem dX11_keep_18 : decode cX11_keep 18 = .ok (.iconst 4, 1) := by decide +kernel
theorem dX11_keep_19 : decode cX11_keep 19 = .ok (.if_icmp .eq 16, 3) := by decide +kernel
theorem dX11_keep_22 : decode cX11_keep 22 = .ok (.iload_n 2, 1) := by decide +kernel
theorem dX11_keep_23 : decode cX11_keep 23 = .ok (.iconst 1, 1) := by decide +kernel
theorem dX11_keep_24 : decode cX11_keep 24 = .ok (.if_icmp .ne 15, 3) := by decide +kernel
theorem dX11_keep_27 : decode cX11_keep 27 = .ok (.aload_n 0, 1) := by decide +kernel
theorem dX11_keep_28 : decode cX11_keep 28 = .ok (.iload_n 3, 1) := by decide +kernel
theorem dX11_keep_29 : decode cX11_keep 29 = .ok (.invokevirtual 142, 3) := by decide +kernel
theorem dX11_keep_32 : decode cX11_keep 32 = .ok (.ifCond .eq 7, 3) := by decide +kernel
theorem dX11_keep_35 : decode cX11_keep 35 = .ok (.iconst 1, 1) := by decide +kernel
theorem dX11_keep_36 : decode cX11_keep 36 = .ok (.goto 4, 3) := by decide +kernel
theorem dX11_keep_39 : decode cX11_keep 39 = .ok (.iconst 0, 1) := by decide +kernel
theorem dX11_keep_40 : decode cX11_keep 40 = .ok (.istore 4, 2) := by decide +kernel
theorem dX11_keep_42 : decode cX11_keep 42 = .ok (.iload 4, 2) := by decide +kernel
theorem dX11_keep_44 : decode cX11_keep 44 = .ok (.ifCond .ne 5, 3) := by decide +kernel
theorem dX11_keep_47 : decode cX11_keep 47 = .ok (.iconst (-1), 1) := by decide +kernel
theorem dX11_keep_48 : decode cX11_keep 48 = .ok (.ireturn, 1) := by decide +kernel
theorem dX11_keep_49 : decode cX11_keep 49 = .ok (.aload_n 0, 1) := by decide +kernel
theorem dX11_keep_50 : decode cX11_keep 50 = .ok (.getfield 106, 3) := by decide +kernel
theorem dX11_keep_53 : decode cX11_keep 53 = .ok (.iload_n 1, 1) := by decide +kernel
theorem dX11_keep_54 : decode cX11_keep 54 = .ok (.iload_n 2, 1) := by decide +kernel
theorem dX11_keep_55 : decode cX11_keep 55 = .ok (.iastore, 1) := by decide +kernel
theorem dX11_keep_56 : decode cX11_keep 56 = .ok (.aload_n 0, 1) := by decide +kernel
theorem dX11_keep_57 : decode cX11_keep 57 = .ok (.iload_n 1, 1) := by decide +kernel
theorem dX11_keep_58 : decode cX11_keep 58 = .ok (.invokevirtual 275, 3) := by decide +kernel
theorem dX11_keep_61 : decode cX11_keep 61 = .ok (.iload_n 2, 1) := by decide +kernel
theorem dX11_keep_62 : decode cX11_keep 62 = .ok (.iconst 1, 1) := by decide +kernel
theorem dX11_keep_63 : decode cX11_keep 63 = .ok (.if_icmp .ne 46, 3) := by decide +kernel
theorem dX11_keep_66 : decode cX11_keep 66 = .ok (.aload_n 0, 1) := by decide +kernel
theorem dX11_keep_67 : decode cX11_keep 67 = .ok (.getfield 109, 3) := by decide +kernel
theorem dX11_keep_70 : decode cX11_keep 70 = .ok (.iload_n 1, 1) := by decide +kernel
theorem dX11_keep_71 : decode cX11_keep 71 = .ok (.iload_n 3, 1) := by decide +kernel
theorem dX11_keep_72 : decode cX11_keep 72 = .ok (.iastore, 1) := by decide +kernel
theorem dX11_keep_73 : decode cX11_keep 73 = .ok (.aload_n 0, 1) := by decide +kernel
theorem dX11_keep_74 : decode cX11_keep 74 = .ok (.getfield 112, 3) := by decide +kernel
theorem dX11_keep_77 : decode cX11_keep 77 = .ok (.iload_n 1, 1) := by decide +kernel
theorem dX11_keep_78 : decode cX11_keep 78 = .ok (.aload_n 0, 1) := by decide +kernel
theorem dX11_keep_79 : decode cX11_keep 79 = .ok (.getfield 16, 3) := by decide +kernel
theorem dX11_keep_82 : decode cX11_keep 82 = .ok (.iload_n 3, 1) := by decide +kernel
theorem dX11_keep_83 : decode cX11_keep 83 = .ok (.iaload, 1) := by decide +kernel
theorem dX11_keep_84 : decode cX11_keep 84 = .ok (.iastore, 1) := by decide +kernel
theorem dX11_keep_85 : decode cX11_keep 85 = .ok (.aload_n 0, 1) := by decide +kernel
theorem dX11_keep_86 : decode cX11_keep 86 = .ok (.getfield 115, 3) := by decide +kernel
theorem dX11_keep_89 : decode cX11_keep 89 = .ok (.iload_n 1, 1) := by decide +kernel
theorem dX11_keep_90 : decode cX11_keep 90 = .ok (.aload_n 0, 1) := by decide +kernel
theorem dX11_keep_91 : decode cX11_keep 91 = .ok (.getfield 29, 3) := by decide +kernel
theorem dX11_keep_94 : decode cX11_keep 94 = .ok (.iload_n 3, 1) := by decide +kernel
theorem dX11_keep_95 : decode cX11_keep 95 = .ok (.iaload, 1) := by decide +kernel
theorem dX11_keep_96 : decode cX11_keep 96 = .ok (.iastore, 1) := by decide +kernel
theorem dX11_keep_97 : decode cX11_keep 97 = .ok (.aload_n 0, 1) := by decide +kernel
theorem dX11_keep_98 : decode cX11_keep 98 = .ok (.getfield 118, 3) := by decide +kernel
theorem dX11_keep_101 : decode cX11_keep 101 = .ok (.iload_n 1, 1) := by decide +kernel
theorem dX11_keep_102 : decode cX11_keep 102 = .ok (.aload_n 0, 1) := by decide +kernel
theorem dX11_keep_103 : decode cX11_keep 103 = .ok (.getfield 32, 3) := by decide +kernel
theorem dX11_keep_106 : decode cX11_keep 106 = .ok (.iload_n 3, 1) := by decide +kernel
theorem dX11_keep_107 : decode cX11_keep 107 = .ok (.iaload, 1) := by decide +kernel
theorem dX11_keep_108 : decode cX11_keep 108 = .ok (.iastore, 1) := by decide +kernel
theorem dX11_keep_109 : decode cX11_keep 109 = .ok (.aload_n 0, 1) := by decide +kernel
theorem dX11_keep_110 : decode cX11_keep 110 = .ok (.getfield 121, 3) := by decide +kernel
theorem dX11_keep_113 : decode cX11_keep 113 = .ok (.iload_n 1, 1) := by decide +kernel
theorem dX11_keep_114 : decode cX11_keep 114 = .ok (.iload_n 2, 1) := by decide +kernel
theorem dX11_keep_115 : decode cX11_keep 115 = .ok (.iconst 3, 1) := by decide +kernel
theorem dX11_keep_116 : decode cX11_keep 116 = .ok (.if_icmp .ne 12, 3) := by decide +kernel
theorem dX11_keep_119 : decode cX11_keep 119 = .ok (.iconst 3, 1) := by decide +kernel
theorem dX11_keep_120 : decode cX11_keep 120 = .ok (.aload_n 0, 1) := by decide +kernel
theorem dX11_keep_121 : decode cX11_keep 121 = .ok (.getfield 13, 3) := by decide +kernel
theorem dX11_keep_124 : decode cX11_keep 124 = .ok (.imul, 1) := by decide +kernel
theorem dX11_keep_125 : decode cX11_keep 125 = .ok (.goto 4, 3) := by decide +kernel
theorem dX11_keep_128 : decode cX11_keep 128 = .ok (.iconst 0, 1) := by decide +kernel
theorem dX11_keep_129 : decode cX11_keep 129 = .ok (.iastore, 1) := by decide +kernel
theorem dX11_keep_130 : decode cX11_keep 130 = .ok (.iconst 0, 1) := by decide +kernel
theorem dX11_keep_131 : decode cX11_keep 131 = .ok (.istore 5, 2) := by decide +kernel
theorem dX11_keep_133 : decode cX11_keep 133 = .ok (.iload 5, 2) := by decide +kernel
theorem dX11_keep_135 : decode cX11_keep 135 = .ok (.iconst 3, 1) := by decide +kernel
theorem dX11_keep_136 : decode cX11_keep 136 = .ok (.aload_n 0, 1) := by decide +kernel
theorem dX11_keep_137 : decode cX11_keep 137 = .ok (.getfield 13, 3) := by decide +kernel
theorem dX11_keep_140 : decode cX11_keep 140 = .ok (.imul, 1) := by decide +kernel
theorem dX11_keep_141 : decode cX11_keep 141 = .ok (.if_icmp .ge 39, 3) := by decide +kernel
theorem dX11_keep_144 : decode cX11_keep 144 = .ok (.iload_n 2, 1) := by decide +kernel
theorem dX11_keep_145 : decode cX11_keep 145 = .ok (.iconst 3, 1) := by decide +kernel
theorem dX11_keep_146 : decode cX11_keep 146 = .ok (.if_icmp .ne 34, 3) := by decide +kernel
theorem dX11_keep_149 : decode cX11_keep 149 = .ok (.aload_n 0, 1) := by decide +kernel
theorem dX11_keep_150 : decode cX11_keep 150 = .ok (.getfield 124, 3) := by decide +kernel
theorem dX11_keep_153 : decode cX11_keep 153 = .ok (.bipush 60, 2) := by decide +kernel
theorem dX11_keep_155 : decode cX11_keep 155 = .ok (.iload_n 1, 1) := by decide +kernel
theorem dX11_keep_156 : decode cX11_keep 156 = .ok (.imul, 1) := by decide +kernel
theorem dX11_keep_157 : decode cX11_keep 157 = .ok (.iload 5, 2) := by decide +kernel
theorem dX11_keep_159 : decode cX11_keep 159 = .ok (.iadd, 1) := by decide +kernel
theorem dX11_keep_160 : decode cX11_keep 160 = .ok (.aload_n 0, 1) := by decide +kernel
theorem dX11_keep_161 : decode cX11_keep 161 = .ok (.iload 5, 2) := by decide +kernel
theorem dX11_keep_163 : decode cX11_keep 163 = .ok (.iconst 3, 1) := by decide +kernel
theorem dX11_keep_164 : decode cX11_keep 164 = .ok (.idiv, 1) := by decide +kernel
theorem dX11_keep_165 : decode cX11_keep 165 = .ok (.iload 5, 2) := by decide +kernel
theorem dX11_keep_167 : decode cX11_keep 167 = .ok (.iconst 3, 1) := by decide +kernel
theorem dX11_keep_168 : decode cX11_keep 168 = .ok (.irem, 1) := by decide +kernel
theorem dX11_keep_169 : decode cX11_keep 169 = .ok (.invokevirtual 161, 3) := by decide +kernel
theorem dX11_keep_172 : decode cX11_keep 172 = .ok (.l2i, 1) := by decide +kernel
theorem dX11_keep_173 : decode cX11_keep 173 = .ok (.iastore, 1) := by decide +kernel
theorem dX11_keep_174 : decode cX11_keep 174 = .ok (.iinc 5 1, 3) := by decide +kernel
theorem dX11_keep_177 : decode cX11_keep 177 = .ok (.goto (-44), 3) := by decide +kernel
theorem dX11_keep_180 : decode cX11_keep 180 = .ok (.iload_n 2, 1) := by decide +kernel
theorem dX11_keep_181 : decode cX11_keep 181 = .ok (.iconst 4, 1) := by decide +kernel
theorem dX11_keep_182 : decode cX11_keep 182 = .ok (.if_icmp .eq 5, 3) := by decide +kernel
theorem dX11_keep_185 : decode cX11_keep 185 = .ok (.iconst 0, 1) := by decide +kernel
theorem dX11_keep_186 : decode cX11_keep 186 = .ok (.ireturn, 1) := by decide +kernel
theorem dX11_keep_187 : decode cX11_keep 187 = .ok (.aload_n 0, 1) := by decide +kernel
theorem dX11_keep_188 : decode cX11_keep 188 = .ok (.invokevirtual 260, 3) := by decide +kernel
theorem dX11_keep_191 : decode cX11_keep 191 = .ok (.aload_n 0, 1) := by decide +kernel
theorem dX11_keep_192 : decode cX11_keep 192 = .ok (.getfield 121, 3) := by decide +kernel
theorem dX11_keep_195 : decode cX11_keep 195 = .ok (.iload_n 1, 1) := by decide +kernel
theorem dX11_keep_196 : decode cX11_keep 196 = .ok (.aload_n 0, 1) := by decide +kernel
theorem dX11_keep_197 : decode cX11_keep 197 = .ok (.getfield 91, 3) := by decide +kernel
theorem dX11_keep_200 : decode cX11_keep 200 = .ok (.iconst 0, 1) := by decide +kernel
theorem dX11_keep_201 : decode cX11_keep 201 = .ok (.iaload, 1) := by decide +kernel
theorem dX11_keep_202 : decode cX11_keep 202 = .ok (.iastore, 1) := by decide +kernel
theorem dX11_keep_203 : decode cX11_keep 203 = .ok (.iconst 0, 1) := by decide +kernel
theorem dX11_keep_204 : decode cX11_keep 204 = .ok (.istore 5, 2) := by decide +kernel
theorem dX11_keep_206 : decode cX11_keep 206 = .ok (.iconst 0, 1) := by decide +kernel
theorem dX11_keep_207 : decode cX11_keep 207 = .ok (.istore 6, 2) := by decide +kernel
theorem dX11_keep_209 : decode cX11_keep 209 = .ok (.iload 6, 2) := by decide +kernel
theorem dX11_keep_211 : decode cX11_keep 211 = .ok (.aload_n 0, 1) := by decide +kernel
theorem dX11_keep_212 : decode cX11_keep 212 = .ok (.getfield 91, 3) := by decide +kernel
theorem dX11_keep_215 : decode cX11_keep 215 = .ok (.iconst 0, 1) := by decide +kernel
theorem dX11_keep_216 : decode cX11_keep 216 = .ok (.iaload, 1) := by decide +kernel
theorem dX11_keep_217 : decode cX11_keep 217 = .ok (.if_icmp .ge 41, 3) := by decide +kernel
theorem dX11_keep_220 : decode cX11_keep 220 = .ok (.aload_n 0, 1) := by decide +kernel
theorem dX11_keep_221 : decode cX11_keep 221 = .ok (.getfield 124, 3) := by decide +kernel
theorem dX11_keep_224 : decode cX11_keep 224 = .ok (.bipush 60, 2) := by decide +kernel
theorem dX11_keep_226 : decode cX11_keep 226 = .ok (.iload_n 1, 1) := by decide +kernel
theorem dX11_keep_227 : decode cX11_keep 227 = .ok (.imul, 1) := by decide +kernel
theorem dX11_keep_228 : decode cX11_keep 228 = .ok (.iload 6, 2) := by decide +kernel
theorem dX11_keep_230 : decode cX11_keep 230 = .ok (.iadd, 1) := by decide +kernel
theorem dX11_keep_231 : decode cX11_keep 231 = .ok (.aload_n 0, 1) := by decide +kernel
theorem dX11_keep_232 : decode cX11_keep 232 = .ok (.iload 5, 2) := by decide +kernel
theorem dX11_keep_234 : decode cX11_keep 234 = .ok (.invokevirtual 263, 3) := by decide +kernel
theorem dX11_keep_237 : decode cX11_keep 237 = .ok (.iastore, 1) := by decide +kernel
theorem dX11_keep_238 : decode cX11_keep 238 = .ok (.aload_n 0, 1) := by decide +kernel
theorem dX11_keep_239 : decode cX11_keep 239 = .ok (.iload 5, 2) := by decide +kernel
theorem dX11_keep_241 : decode cX11_keep 241 = .ok (.aload_n 0, 1) := by decide +kernel
theorem dX11_keep_242 : decode cX11_keep 242 = .ok (.iload 5, 2) := by decide +kernel
theorem dX11_keep_244 : decode cX11_keep 244 = .ok (.invokevirtual 263, 3) := by decide +kernel
theorem dX11_keep_247 : decode cX11_keep 247 = .ok (.invokevirtual 256, 3) := by decide +kernel
theorem dX11_keep_250 : decode cX11_keep 250 = .ok (.istore 5, 2) := by decide +kernel
theorem dX11_keep_252 : decode cX11_keep 252 = .ok (.iinc 6 1, 3) := by decide +kernel
theorem dX11_keep_255 : decode cX11_keep 255 = .ok (.goto (-46), 3) := by decide +kernel
theorem dX11_keep_258 : decode cX11_keep 258 = .ok (.iconst 0, 1) := by decide +kernel
theorem dX11_keep_259 : decode cX11_keep 259 = .ok (.ireturn, 1) := by decide +kernel
theorem dX11_make_0 : decode cX11_make 0 = .ok (.aload_n 0, 1) := by decide +kernel
theorem dX11_make_1 : decode cX11_make 1 = .ok (.iload_n 1, 1) := by decide +kernel
theorem dX11_make_2 : decode cX11_make 2 = .ok (.invokevirtual 272, 3) := by decide +kernel
theorem dX11_make_5 : decode cX11_make 5 = .ok (.ifCond .eq 19, 3) := by decide +kernel
theorem dX11_make_8 : decode cX11_make 8 = .ok (.aload_n 0, 1) := by decide +kernel
theorem dX11_make_9 : decode cX11_make 9 = .ok (.iload_n 2, 1) := by decide +kernel
theorem dX11_make_10 : decode cX11_make 10 = .ok (.iconst 3, 1) := by decide +kernel
theorem dX11_make_11 : decode cX11_make 11 = .ok (.iconst 4, 1) := by decide +kernel
theorem dX11_make_12 : decode cX11_make 12 = .ok (.invokevirtual 130, 3) := by decide +kernel
theorem dX11_make_15 : decode cX11_make 15 = .ok (.ifCond .eq 9, 3) := by decide +kernel
theorem dX11_make_18 : decode cX11_make 18 = .ok (.iload_n 3, 1) := by decide +kernel
theorem dX11_make_19 : decode cX11_make 19 = .ok (.bipush 60, 2) := by decide +kernel
theorem dX11_make_21 : decode cX11_make 21 = .ok (.if_icmp .le 5, 3) := by decide +kernel
theorem dX11_make_24 : decode cX11_make 24 = .ok (.iconst (-1), 1) := by decide +kernel
theorem dX11_make_25 : decode cX11_make 25 = .ok (.ireturn, 1) := by decide +kernel
theorem dX11_make_26 : decode cX11_make 26 = .ok (.iload_n 3, 1) := by decide +kernel
theorem dX11_make_27 : decode cX11_make 27 = .ok (.ifCond .ge 6, 3) := by decide +kernel
theorem dX11_make_30 : decode cX11_make 30 = .ok (.bipush (-14), 2) := by decide +kernel
theorem dX11_make_32 : decode cX11_make 32 = .ok (.ireturn, 1) := by decide +kernel
theorem dX11_make_33 : decode cX11_make 33 = .ok (.aload_n 0, 1) := by decide +kernel
theorem dX11_make_34 : decode cX11_make 34 = .ok (.getfield 106, 3) := by decide +kernel
theorem dX11_make_37 : decode cX11_make 37 = .ok (.iload_n 1, 1) := by decide +kernel
theorem dX11_make_38 : decode cX11_make 38 = .ok (.iload_n 2, 1) := by decide +kernel
theorem dX11_make_39 : decode cX11_make 39 = .ok (.iastore, 1) := by decide +kernel
theorem dX11_make_40 : decode cX11_make 40 = .ok (.aload_n 0, 1) := by decide +kernel
theorem dX11_make_41 : decode cX11_make 41 = .ok (.getfield 121, 3) := by decide +kernel
theorem dX11_make_44 : decode cX11_make 44 = .ok (.iload_n 1, 1) := by decide +kernel
theorem dX11_make_45 : decode cX11_make 45 = .ok (.iload_n 3, 1) := by decide +kernel
theorem dX11_make_46 : decode cX11_make 46 = .ok (.iastore, 1) := by decide +kernel
theorem dX11_make_47 : decode cX11_make 47 = .ok (.aload_n 0, 1) := by decide +kernel
theorem dX11_make_48 : decode cX11_make 48 = .ok (.iload_n 1, 1) := by decide +kernel
theorem dX11_make_49 : decode cX11_make 49 = .ok (.invokevirtual 275, 3) := by decide +kernel
theorem dX11_make_52 : decode cX11_make 52 = .ok (.iconst 0, 1) := by decide +kernel
theorem dX11_make_53 : decode cX11_make 53 = .ok (.ireturn, 1) := by decide +kernel
theorem dX11_element_0 : decode cX11_element 0 = .ok (.aload_n 0, 1) := by decide +kernel
theorem dX11_element_1 : decode cX11_element 1 = .ok (.aload_n 0, 1) := by decide +kernel
theorem dX11_element_2 : decode cX11_element 2 = .ok (.iload_n 1, 1) := by decide +kernel
theorem dX11_element_3 : decode cX11_element 3 = .ok (.invokevirtual 272, 3) := by decide +kernel
theorem dX11_element_6 : decode cX11_element 6 = .ok (.ifCond .ne 7, 3) := by decide +kernel
theorem dX11_element_9 : decode cX11_element 9 = .ok (.iconst 1, 1) := by decide +kernel
theorem dX11_element_10 : decode cX11_element 10 = .ok (.goto 35, 3) := by decide +kernel
theorem dX11_element_13 : decode cX11_element 13 = .ok (.aload_n 0, 1) := by decide +kernel
theorem dX11_element_14 : decode cX11_element 14 = .ok (.getfield 106, 3) := by decide +kernel
theorem dX11_element_17 : decode cX11_element 17 = .ok (.iload_n 1, 1) := by decide +kernel
theorem dX11_element_18 : decode cX11_element 18 = .ok (.iaload, 1) := by decide +kernel
theorem dX11_element_19 : decode cX11_element 19 = .ok (.iconst 3, 1) := by decide +kernel
theorem dX11_element_20 : decode cX11_element 20 = .ok (.if_icmp .lt 20, 3) := by decide +kernel
theorem dX11_element_23 : decode cX11_element 23 = .ok (.aload_n 0, 1) := by decide +kernel
theorem dX11_element_24 : decode cX11_element 24 = .ok (.iload_n 2, 1) := by decide +kernel
theorem dX11_element_25 : decode cX11_element 25 = .ok (.iconst 0, 1) := by decide +kernel
theorem dX11_element_26 : decode cX11_element 26 = .ok (.aload_n 0, 1) := by decide +kernel
theorem dX11_element_27 : decode cX11_element 27 = .ok (.getfield 121, 3) := by decide +kernel
theorem dX11_element_30 : decode cX11_element 30 = .ok (.iload_n 1, 1) := by decide +kernel
theorem dX11_element_31 : decode cX11_element 31 = .ok (.iaload, 1) := by decide +kernel
theorem dX11_element_32 : decode cX11_element 32 = .ok (.iconst 1, 1) := by decide +kernel
theorem dX11_element_33 : decode cX11_element 33 = .ok (.isub, 1) := by decide +kernel
theorem dX11_element_34 : decode cX11_element 34 = .ok (.invokevirtual 130, 3) := by decide +kernel
theorem dX11_element_37 : decode cX11_element 37 = .ok (.ifCond .ne 7, 3) := by decide +kernel
theorem dX11_element_40 : decode cX11_element 40 = .ok (.iconst 2, 1) := by decide +kernel
theorem dX11_element_41 : decode cX11_element 41 = .ok (.goto 4, 3) := by decide +kernel
theorem dX11_element_44 : decode cX11_element 44 = .ok (.iconst 0, 1) := by decide +kernel
theorem dX11_element_45 : decode cX11_element 45 = .ok (.putfield 7, 3) := by decide +kernel
theorem dX11_element_48 : decode cX11_element 48 = .ok (.aload_n 0, 1) := by decide +kernel
theorem dX11_element_49 : decode cX11_element 49 = .ok (.getfield 7, 3) := by decide +kernel
theorem dX11_element_52 : decode cX11_element 52 = .ok (.ifCond .le 7, 3) := by decide +kernel
theorem dX11_element_55 : decode cX11_element 55 = .ok (.lconst 0, 1) := by decide +kernel
theorem dX11_element_56 : decode cX11_element 56 = .ok (.goto 15, 3) := by decide +kernel
theorem dX11_element_59 : decode cX11_element 59 = .ok (.aload_n 0, 1) := by decide +kernel
theorem dX11_element_60 : decode cX11_element 60 = .ok (.getfield 124, 3) := by decide +kernel
theorem dX11_element_63 : decode cX11_element 63 = .ok (.bipush 60, 2) := by decide +kernel
theorem dX11_element_65 : decode cX11_element 65 = .ok (.iload_n 1, 1) := by decide +kernel
theorem dX11_element_66 : decode cX11_element 66 = .ok (.imul, 1) := by decide +kernel
theorem dX11_element_67 : decode cX11_element 67 = .ok (.iload_n 2, 1) := by decide +kernel
theorem dX11_element_68 : decode cX11_element 68 = .ok (.iadd, 1) := by decide +kernel
theorem dX11_element_69 : decode cX11_element 69 = .ok (.iaload, 1) := by decide +kernel
theorem dX11_element_70 : decode cX11_element 70 = .ok (.i2l, 1) := by decide +kernel
theorem dX11_element_71 : decode cX11_element 71 = .ok (.lreturn, 1) := by decide +kernel
theorem dX11_copy_0 : decode cX11_copy 0 = .ok (.aload_n 0, 1) := by decide +kernel
theorem dX11_copy_1 : decode cX11_copy 1 = .ok (.iload_n 1, 1) := by decide +kernel
theorem dX11_copy_2 : decode cX11_copy 2 = .ok (.invokevirtual 272, 3) := by decide +kernel
theorem dX11_copy_5 : decode cX11_copy 5 = .ok (.ifCond .eq 11, 3) := by decide +kernel
theorem dX11_copy_8 : decode cX11_copy 8 = .ok (.aload_n 0, 1) := by decide +kernel
theorem dX11_copy_9 : decode cX11_copy 9 = .ok (.iload_n 3, 1) := by decide +kernel
theorem dX11_copy_10 : decode cX11_copy 10 = .ok (.invokevirtual 272, 3) := by decide +kernel
theorem dX11_copy_13 : decode cX11_copy 13 = .ok (.ifCond .ne 5, 3) := by decide +kernel
theorem dX11_copy_16 : decode cX11_copy 16 = .ok (.iconst (-1), 1) := by decide +kernel
theorem dX11_copy_17 : decode cX11_copy 17 = .ok (.ireturn, 1) := by decide +kernel
theorem dX11_copy_18 : decode cX11_copy 18 = .ok (.aload_n 0, 1) := by decide +kernel
theorem dX11_copy_19 : decode cX11_copy 19 = .ok (.getfield 106, 3) := by decide +kernel
theorem dX11_copy_22 : decode cX11_copy 22 = .ok (.iload_n 1, 1) := by decide +kernel
theorem dX11_copy_23 : decode cX11_copy 23 = .ok (.iaload, 1) := by decide +kernel
theorem dX11_copy_24 : decode cX11_copy 24 = .ok (.ifCond .eq 12, 3) := by decide +kernel
theorem dX11_copy_27 : decode cX11_copy 27 = .ok (.aload_n 0, 1) := by decide +kernel
theorem dX11_copy_28 : decode cX11_copy 28 = .ok (.getfield 106, 3) := by decide +kernel
theorem dX11_copy_31 : decode cX11_copy 31 = .ok (.iload_n 3, 1) := by decide +kernel
theorem dX11_copy_32 : decode cX11_copy 32 = .ok (.iaload, 1) := by decide +kernel
theorem dX11_copy_33 : decode cX11_copy 33 = .ok (.ifCond .ne 6, 3) := by decide +kernel
theorem dX11_copy_36 : decode cX11_copy 36 = .ok (.bipush (-11), 2) := by decide +kernel
theorem dX11_copy_38 : decode cX11_copy 38 = .ok (.ireturn, 1) := by decide +kernel
theorem dX11_copy_39 : decode cX11_copy 39 = .ok (.aload_n 0, 1) := by decide +kernel
theorem dX11_copy_40 : decode cX11_copy 40 = .ok (.getfield 106, 3) := by decide +kernel
theorem dX11_copy_43 : decode cX11_copy 43 = .ok (.iload_n 1, 1) := by decide +kernel
theorem dX11_copy_44 : decode cX11_copy 44 = .ok (.iaload, 1) := by decide +kernel
theorem dX11_copy_45 : decode cX11_copy 45 = .ok (.iconst 3, 1) := by decide +kernel
theorem dX11_copy_46 : decode cX11_copy 46 = .ok (.if_icmp .lt 18, 3) := by decide +kernel
theorem dX11_copy_49 : decode cX11_copy 49 = .ok (.aload_n 0, 1) := by decide +kernel
theorem dX11_copy_50 : decode cX11_copy 50 = .ok (.getfield 106, 3) := by decide +kernel
theorem dX11_copy_53 : decode cX11_copy 53 = .ok (.iload_n 1, 1) := by decide +kernel
theorem dX11_copy_54 : decode cX11_copy 54 = .ok (.iaload, 1) := by decide +kernel
theorem dX11_copy_55 : decode cX11_copy 55 = .ok (.aload_n 0, 1) := by decide +kernel
theorem dX11_copy_56 : decode cX11_copy 56 = .ok (.getfield 106, 3) := by decide +kernel
theorem dX11_copy_59 : decode cX11_copy 59 = .ok (.iload_n 3, 1) := by decide +kernel
theorem dX11_copy_60 : decode cX11_copy 60 = .ok (.iaload, 1) := by decide +kernel
theorem dX11_copy_61 : decode cX11_copy 61 = .ok (.if_icmp .eq 6, 3) := by decide +kernel
theorem dX11_copy_64 : decode cX11_copy 64 = .ok (.bipush (-12), 2) := by decide +kernel
theorem dX11_copy_66 : decode cX11_copy 66 = .ok (.ireturn, 1) := by decide +kernel
theorem dX11_copy_67 : decode cX11_copy 67 = .ok (.iload 5, 2) := by decide +kernel
theorem dX11_copy_69 : decode cX11_copy 69 = .ok (.ifCond .lt 39, 3) := by decide +kernel
theorem dX11_copy_72 : decode cX11_copy 72 = .ok (.iload_n 2, 1) := by decide +kernel
theorem dX11_copy_73 : decode cX11_copy 73 = .ok (.ifCond .lt 35, 3) := by decide +kernel
theorem dX11_copy_76 : decode cX11_copy 76 = .ok (.iload 4, 2) := by decide +kernel
theorem dX11_copy_78 : decode cX11_copy 78 = .ok (.ifCond .lt 30, 3) := by decide +kernel
theorem dX11_copy_81 : decode cX11_copy 81 = .ok (.iload_n 2, 1) := by decide +kernel
theorem dX11_copy_82 : decode cX11_copy 82 = .ok (.aload_n 0, 1) := by decide +kernel
theorem dX11_copy_83 : decode cX11_copy 83 = .ok (.getfield 121, 3) := by decide +kernel
theorem dX11_copy_86 : decode cX11_copy 86 = .ok (.iload_n 1, 1) := by decide +kernel
theorem dX11_copy_87 : decode cX11_copy 87 = .ok (.iaload, 1) := by decide +kernel
theorem dX11_copy_88 : decode cX11_copy 88 = .ok (.iload 5, 2) := by decide +kernel
theorem dX11_copy_90 : decode cX11_copy 90 = .ok (.isub, 1) := by decide +kernel
theorem dX11_copy_91 : decode cX11_copy 91 = .ok (.if_icmp .gt 17, 3) := by decide +kernel
theorem dX11_copy_94 : decode cX11_copy 94 = .ok (.iload 4, 2) := by decide +kernel
theorem dX11_copy_96 : decode cX11_copy 96 = .ok (.aload_n 0, 1) := by decide +kernel
theorem dX11_copy_97 : decode cX11_copy 97 = .ok (.getfield 121, 3) := by decide +kernel
theorem dX11_copy_100 : decode cX11_copy 100 = .ok (.iload_n 3, 1) := by decide +kernel
theorem dX11_copy_101 : decode cX11_copy 101 = .ok (.iaload, 1) := by decide +kernel
theorem dX11_copy_102 : decode cX11_copy 102 = .ok (.iload 5, 2) := by decide +kernel
theorem dX11_copy_104 : decode cX11_copy 104 = .ok (.isub, 1) := by decide +kernel
theorem dX11_copy_105 : decode cX11_copy 105 = .ok (.if_icmp .le 6, 3) := by decide +kernel
theorem dX11_copy_108 : decode cX11_copy 108 = .ok (.bipush (-13), 2) := by decide +kernel
theorem dX11_copy_110 : decode cX11_copy 110 = .ok (.ireturn, 1) := by decide +kernel
theorem dX11_copy_111 : decode cX11_copy 111 = .ok (.iconst 0, 1) := by decide +kernel
theorem dX11_copy_112 : decode cX11_copy 112 = .ok (.istore 6, 2) := by decide +kernel
theorem dX11_copy_114 : decode cX11_copy 114 = .ok (.iload 6, 2) := by decide +kernel
theorem dX11_copy_116 : decode cX11_copy 116 = .ok (.iload 5, 2) := by decide +kernel
theorem dX11_copy_118 : decode cX11_copy 118 = .ok (.if_icmp .ge 30, 3) := by decide +kernel
theorem dX11_copy_121 : decode cX11_copy 121 = .ok (.aload_n 0, 1) := by decide +kernel
theorem dX11_copy_122 : decode cX11_copy 122 = .ok (.getfield 127, 3) := by decide +kernel
theorem dX11_copy_125 : decode cX11_copy 125 = .ok (.iload 6, 2) := by decide +kernel
theorem dX11_copy_127 : decode cX11_copy 127 = .ok (.aload_n 0, 1) := by decide +kernel
theorem dX11_copy_128 : decode cX11_copy 128 = .ok (.getfield 124, 3) := by decide +kernel
theorem dX11_copy_131 : decode cX11_copy 131 = .ok (.bipush 60, 2) := by decide +kernel
theorem dX11_copy_133 : decode cX11_copy 133 = .ok (.iload_n 1, 1) := by decide +kernel
theorem dX11_copy_134 : decode cX11_copy 134 = .ok (.imul, 1) := by decide +kernel
theorem dX11_copy_135 : decode cX11_copy 135 = .ok (.iload_n 2, 1) := by decide +kernel
theorem dX11_copy_136 : decode cX11_copy 136 = .ok (.iadd, 1) := by decide +kernel
theorem dX11_copy_137 : decode cX11_copy 137 = .ok (.iload 6, 2) := by decide +kernel
theorem dX11_copy_139 : decode cX11_copy 139 = .ok (.iadd, 1) := by decide +kernel
theorem dX11_copy_140 : decode cX11_copy 140 = .ok (.iaload, 1) := by decide +kernel
theorem dX11_copy_141 : decode cX11_copy 141 = .ok (.iastore, 1) := by decide +kernel
theorem dX11_copy_142 : decode cX11_copy 142 = .ok (.iinc 6 1, 3) := by decide +kernel
theorem dX11_copy_145 : decode cX11_copy 145 = .ok (.goto (-31), 3) := by decide +kernel
theorem dX11_copy_148 : decode cX11_copy 148 = .ok (.iconst 0, 1) := by decide +kernel
theorem dX11_copy_149 : decode cX11_copy 149 = .ok (.istore 6, 2) := by decide +kernel
theorem dX11_copy_151 : decode cX11_copy 151 = .ok (.iload 6, 2) := by decide +kernel
theorem dX11_copy_153 : decode cX11_copy 153 = .ok (.iload 5, 2) := by decide +kernel
theorem dX11_copy_155 : decode cX11_copy 155 = .ok (.if_icmp .ge 31, 3) := by decide +kernel
theorem dX11_copy_158 : decode cX11_copy 158 = .ok (.aload_n 0, 1) := by decide +kernel
theorem dX11_copy_159 : decode cX11_copy 159 = .ok (.getfield 124, 3) := by decide +kernel
theorem dX11_copy_162 : decode cX11_copy 162 = .ok (.bipush 60, 2) := by decide +kernel
theorem dX11_copy_164 : decode cX11_copy 164 = .ok (.iload_n 3, 1) := by decide +kernel
theorem dX11_copy_165 : decode cX11_copy 165 = .ok (.imul, 1) := by decide +kernel
theorem dX11_copy_166 : decode cX11_copy 166 = .ok (.iload 4, 2) := by decide +kernel
theorem dX11_copy_168 : decode cX11_copy 168 = .ok (.iadd, 1) := by decide +kernel
theorem dX11_copy_169 : decode cX11_copy 169 = .ok (.iload 6, 2) := by decide +kernel
theorem dX11_copy_171 : decode cX11_copy 171 = .ok (.iadd, 1) := by decide +kernel
theorem dX11_copy_172 : decode cX11_copy 172 = .ok (.aload_n 0, 1) := by decide +kernel
theorem dX11_copy_173 : decode cX11_copy 173 = .ok (.getfield 127, 3) := by decide +kernel
theorem dX11_copy_176 : decode cX11_copy 176 = .ok (.iload 6, 2) := by decide +kernel
theorem dX11_copy_178 : decode cX11_copy 178 = .ok (.iaload, 1) := by decide +kernel
theorem dX11_copy_179 : decode cX11_copy 179 = .ok (.iastore, 1) := by decide +kernel
theorem dX11_copy_180 : decode cX11_copy 180 = .ok (.iinc 6 1, 3) := by decide +kernel
theorem dX11_copy_183 : decode cX11_copy 183 = .ok (.goto (-32), 3) := by decide +kernel
theorem dX11_copy_186 : decode cX11_copy 186 = .ok (.iload 5, 2) := by decide +kernel
theorem dX11_copy_188 : decode cX11_copy 188 = .ok (.ireturn, 1) := by decide +kernel
theorem dX11_lacksContact_0 : decode cX11_lacksContact 0 = .ok (.aload_n 0, 1) := by decide +kernel
theorem dX11_lacksContact_1 : decode cX11_lacksContact 1 = .ok (.iload_n 1, 1) := by decide +kernel
theorem dX11_lacksContact_2 : decode cX11_lacksContact 2 = .ok (.invokevirtual 272, 3) := by decide +kernel
theorem dX11_lacksContact_5 : decode cX11_lacksContact 5 = .ok (.ifCond .ne 7, 3) := by decide +kernel
theorem dX11_lacksContact_8 : decode cX11_lacksContact 8 = .ok (.iconst (-1), 1) := by decide +kernel
theorem dX11_lacksContact_9 : decode cX11_lacksContact 9 = .ok (.goto 33, 3) := by decide +kernel
theorem dX11_lacksContact_12 : decode cX11_lacksContact 12 = .ok (.aload_n 0, 1) := by decide +kernel
theorem dX11_lacksContact_13 : decode cX11_lacksContact 13 = .ok (.getfield 106, 3) := by decide +kernel
theorem dX11_lacksContact_16 : decode cX11_lacksContact 16 = .ok (.iload_n 1, 1) := by decide +kernel
theorem dX11_lacksContact_17 : decode cX11_lacksContact 17 = .ok (.iaload, 1) := by decide +kernel
theorem dX11_lacksContact_18 : decode cX11_lacksContact 18 = .ok (.ifCond .ne 8, 3) := by decide +kernel
theorem dX11_lacksContact_21 : decode cX11_lacksContact 21 = .ok (.bipush (-11), 2) := by decide +kernel
theorem dX11_lacksContact_23 : decode cX11_lacksContact 23 = .ok (.goto 19, 3) := by decide +kernel
theorem dX11_lacksContact_26 : decode cX11_lacksContact 26 = .ok (.aload_n 0, 1) := by decide +kernel
theorem dX11_lacksContact_27 : decode cX11_lacksContact 27 = .ok (.getfield 106, 3) := by decide +kernel
theorem dX11_lacksContact_30 : decode cX11_lacksContact 30 = .ok (.iload_n 1, 1) := by decide +kernel
theorem dX11_lacksContact_31 : decode cX11_lacksContact 31 = .ok (.iaload, 1) := by decide +kernel
theorem dX11_lacksContact_32 : decode cX11_lacksContact 32 = .ok (.iconst 1, 1) := by decide +kernel
theorem dX11_lacksContact_33 : decode cX11_lacksContact 33 = .ok (.if_icmp .eq 8, 3) := by decide +kernel
theorem dX11_lacksContact_36 : decode cX11_lacksContact 36 = .ok (.bipush (-12), 2) := by decide +kernel
theorem dX11_lacksContact_38 : decode cX11_lacksContact 38 = .ok (.goto 4, 3) := by decide +kernel
theorem dX11_lacksContact_41 : decode cX11_lacksContact 41 = .ok (.iconst 0, 1) := by decide +kernel
theorem dX11_lacksContact_42 : decode cX11_lacksContact 42 = .ok (.ireturn, 1) := by decide +kernel
theorem dX11_weight_0 : decode cX11_weight 0 = .ok (.aload_n 0, 1) := by decide +kernel
theorem dX11_weight_1 : decode cX11_weight 1 = .ok (.iload_n 1, 1) := by decide +kernel
theorem dX11_weight_2 : decode cX11_weight 2 = .ok (.invokevirtual 279, 3) := by decide +kernel
theorem dX11_weight_5 : decode cX11_weight 5 = .ok (.ifCond .eq 9, 3) := by decide +kernel
theorem dX11_weight_8 : decode cX11_weight 8 = .ok (.aload_n 0, 1) := by decide +kernel
theorem dX11_weight_9 : decode cX11_weight 9 = .ok (.iload_n 1, 1) := by decide +kernel
theorem dX11_weight_10 : decode cX11_weight 10 = .ok (.invokevirtual 279, 3) := by decide +kernel
theorem dX11_weight_13 : decode cX11_weight 13 = .ok (.ireturn, 1) := by decide +kernel
theorem dX11_weight_14 : decode cX11_weight 14 = .ok (.aload_n 0, 1) := by decide +kernel
theorem dX11_weight_15 : decode cX11_weight 15 = .ok (.getfield 112, 3) := by decide +kernel
theorem dX11_weight_18 : decode cX11_weight 18 = .ok (.iload_n 1, 1) := by decide +kernel
theorem dX11_weight_19 : decode cX11_weight 19 = .ok (.iaload, 1) := by decide +kernel
theorem dX11_weight_20 : decode cX11_weight 20 = .ok (.istore_n 2, 1) := by decide +kernel
theorem dX11_weight_21 : decode cX11_weight 21 = .ok (.bipush 10, 2) := by decide +kernel
theorem dX11_weight_23 : decode cX11_weight 23 = .ok (.aload_n 0, 1) := by decide +kernel
theorem dX11_weight_24 : decode cX11_weight 24 = .ok (.getfield 118, 3) := by decide +kernel
theorem dX11_weight_27 : decode cX11_weight 27 = .ok (.iload_n 1, 1) := by decide +kernel
theorem dX11_weight_28 : decode cX11_weight 28 = .ok (.iaload, 1) := by decide +kernel
theorem dX11_weight_29 : decode cX11_weight 29 = .ok (.iadd, 1) := by decide +kernel
theorem dX11_weight_30 : decode cX11_weight 30 = .ok (.aload_n 0, 1) := by decide +kernel
theorem dX11_weight_31 : decode cX11_weight 31 = .ok (.iload_n 2, 1) := by decide +kernel
theorem dX11_weight_32 : decode cX11_weight 32 = .ok (.invokevirtual 138, 3) := by decide +kernel
theorem dX11_weight_35 : decode cX11_weight 35 = .ok (.ifCond .eq 15, 3) := by decide +kernel
theorem dX11_weight_38 : decode cX11_weight 38 = .ok (.aload_n 0, 1) := by decide +kernel
theorem dX11_weight_39 : decode cX11_weight 39 = .ok (.getfield 115, 3) := by decide +kernel
theorem dX11_weight_42 : decode cX11_weight 42 = .ok (.iload_n 1, 1) := by decide +kernel
theorem dX11_weight_43 : decode cX11_weight 43 = .ok (.iaload, 1) := by decide +kernel
theorem dX11_weight_44 : decode cX11_weight 44 = .ok (.bipush 100, 2) := by decide +kernel
theorem dX11_weight_46 : decode cX11_weight 46 = .ok (.iadd, 1) := by decide +kernel
theorem dX11_weight_47 : decode cX11_weight 47 = .ok (.goto 4, 3) := by decide +kernel
theorem dX11_weight_50 : decode cX11_weight 50 = .ok (.iconst 0, 1) := by decide +kernel
theorem dX11_weight_51 : decode cX11_weight 51 = .ok (.iadd, 1) := by decide +kernel
theorem dX11_weight_52 : decode cX11_weight 52 = .ok (.iload_n 2, 1) := by decide +kernel
theorem dX11_weight_53 : decode cX11_weight 53 = .ok (.iconst 2, 1) := by decide +kernel
theorem dX11_weight_54 : decode cX11_weight 54 = .ok (.if_icmp .ne 9, 3) := by decide +kernel
theorem dX11_weight_57 : decode cX11_weight 57 = .ok (.sipush 1000, 3) := by decide +kernel
theorem dX11_weight_60 : decode cX11_weight 60 = .ok (.goto 4, 3) := by decide +kernel
theorem dX11_weight_63 : decode cX11_weight 63 = .ok (.iconst 0, 1) := by decide +kernel
theorem dX11_weight_64 : decode cX11_weight 64 = .ok (.iadd, 1) := by decide +kernel
theorem dX11_weight_65 : decode cX11_weight 65 = .ok (.istore_n 3, 1) := by decide +kernel
theorem dX11_weight_66 : decode cX11_weight 66 = .ok (.iload_n 2, 1) := by decide +kernel
theorem dX11_weight_67 : decode cX11_weight 67 = .ok (.iconst 3, 1) := by decide +kernel
theorem dX11_weight_68 : decode cX11_weight 68 = .ok (.if_icmp .ne 9, 3) := by decide +kernel
theorem dX11_weight_71 : decode cX11_weight 71 = .ok (.iconst 2, 1) := by decide +kernel
theorem dX11_weight_72 : decode cX11_weight 72 = .ok (.iload_n 3, 1) := by decide +kernel
theorem dX11_weight_73 : decode cX11_weight 73 = .ok (.imul, 1) := by decide +kernel
theorem dX11_weight_74 : decode cX11_weight 74 = .ok (.goto 4, 3) := by decide +kernel
theorem dX11_weight_77 : decode cX11_weight 77 = .ok (.iload_n 3, 1) := by decide +kernel
theorem dX11_weight_78 : decode cX11_weight 78 = .ok (.ireturn, 1) := by decide +kernel
theorem dX11_toss_0 : decode cX11_toss 0 = .ok (.aload_n 0, 1) := by decide +kernel
theorem dX11_toss_1 : decode cX11_toss 1 = .ok (.iload_n 1, 1) := by decide +kernel
theorem dX11_toss_2 : decode cX11_toss 2 = .ok (.invokevirtual 279, 3) := by decide +kernel
theorem dX11_toss_5 : decode cX11_toss 5 = .ok (.ifCond .eq 9, 3) := by decide +kernel
theorem dX11_toss_8 : decode cX11_toss 8 = .ok (.aload_n 0, 1) := by decide +kernel
theorem dX11_toss_9 : decode cX11_toss 9 = .ok (.iload_n 1, 1) := by decide +kernel
theorem dX11_toss_10 : decode cX11_toss 10 = .ok (.invokevirtual 279, 3) := by decide +kernel
theorem dX11_toss_13 : decode cX11_toss 13 = .ok (.ireturn, 1) := by decide +kernel
theorem dX11_toss_14 : decode cX11_toss 14 = .ok (.aload_n 0, 1) := by decide +kernel
theorem dX11_toss_15 : decode cX11_toss 15 = .ok (.aload_n 0, 1) := by decide +kernel
theorem dX11_toss_16 : decode cX11_toss 16 = .ok (.getfield 112, 3) := by decide +kernel
theorem dX11_toss_19 : decode cX11_toss 19 = .ok (.iload_n 1, 1) := by decide +kernel
theorem dX11_toss_20 : decode cX11_toss 20 = .ok (.iaload, 1) := by decide +kernel
theorem dX11_toss_21 : decode cX11_toss 21 = .ok (.invokevirtual 138, 3) := by decide +kernel
theorem dX11_toss_24 : decode cX11_toss 24 = .ok (.ifCond .eq 12, 3) := by decide +kernel
theorem dX11_toss_27 : decode cX11_toss 27 = .ok (.aload_n 0, 1) := by decide +kernel
theorem dX11_toss_28 : decode cX11_toss 28 = .ok (.getfield 109, 3) := by decide +kernel
theorem dX11_toss_31 : decode cX11_toss 31 = .ok (.iload_n 1, 1) := by decide +kernel
theorem dX11_toss_32 : decode cX11_toss 32 = .ok (.iaload, 1) := by decide +kernel
theorem dX11_toss_33 : decode cX11_toss 33 = .ok (.goto 5, 3) := by decide +kernel
theorem dX11_toss_36 : decode cX11_toss 36 = .ok (.bipush (-15), 2) := by decide +kernel
theorem dX11_toss_38 : decode cX11_toss 38 = .ok (.ireturn, 1) := by decide +kernel
theorem dJ9_floorDiv_f86c9_0 : decode cJ9_floorDiv_f86c9 0 = .ok (.lload_n 0, 1) := by decide +kernel
theorem dJ9_floorDiv_f86c9_1 : decode cJ9_floorDiv_f86c9 1 = .ok (.lload_n 2, 1) := by decide +kernel
theorem dJ9_floorDiv_f86c9_2 : decode cJ9_floorDiv_f86c9 2 = .ok (.ldiv, 1) := by decide +kernel
theorem dJ9_floorDiv_f86c9_3 : decode cJ9_floorDiv_f86c9 3 = .ok (.lstore 4, 2) := by decide +kernel
theorem dJ9_floorDiv_f86c9_5 : decode cJ9_floorDiv_f86c9 5 = .ok (.lload_n 0, 1) := by decide +kernel
theorem dJ9_floorDiv_f86c9_6 : decode cJ9_floorDiv_f86c9 6 = .ok (.lload_n 2, 1) := by decide +kernel
theorem dJ9_floorDiv_f86c9_7 : decode cJ9_floorDiv_f86c9 7 = .ok (.lxor, 1) := by decide +kernel
theorem dJ9_floorDiv_f86c9_8 : decode cJ9_floorDiv_f86c9 8 = .ok (.lconst 0, 1) := by decide +kernel
theorem dJ9_floorDiv_f86c9_9 : decode cJ9_floorDiv_f86c9 9 = .ok (.lcmp, 1) := by decide +kernel
theorem dJ9_floorDiv_f86c9_10 : decode cJ9_floorDiv_f86c9 10 = .ok (.ifCond .ge 17, 3) := by decide +kernel
theorem dJ9_floorDiv_f86c9_13 : decode cJ9_floorDiv_f86c9 13 = .ok (.lload 4, 2) := by decide +kernel
theorem dJ9_floorDiv_f86c9_15 : decode cJ9_floorDiv_f86c9 15 = .ok (.lload_n 2, 1) := by decide +kernel
theorem dJ9_floorDiv_f86c9_16 : decode cJ9_floorDiv_f86c9 16 = .ok (.lmul, 1) := by decide +kernel
theorem dJ9_floorDiv_f86c9_17 : decode cJ9_floorDiv_f86c9 17 = .ok (.lload_n 0, 1) := by decide +kernel
theorem dJ9_floorDiv_f86c9_18 : decode cJ9_floorDiv_f86c9 18 = .ok (.lcmp, 1) := by decide +kernel
theorem dJ9_floorDiv_f86c9_19 : decode cJ9_floorDiv_f86c9 19 = .ok (.ifCond .eq 8, 3) := by decide +kernel
theorem dJ9_floorDiv_f86c9_22 : decode cJ9_floorDiv_f86c9 22 = .ok (.lload 4, 2) := by decide +kernel
theorem dJ9_floorDiv_f86c9_24 : decode cJ9_floorDiv_f86c9 24 = .ok (.lconst 1, 1) := by decide +kernel
theorem dJ9_floorDiv_f86c9_25 : decode cJ9_floorDiv_f86c9 25 = .ok (.lsub, 1) := by decide +kernel
theorem dJ9_floorDiv_f86c9_26 : decode cJ9_floorDiv_f86c9 26 = .ok (.lreturn, 1) := by decide +kernel
theorem dJ9_floorDiv_f86c9_27 : decode cJ9_floorDiv_f86c9 27 = .ok (.lload 4, 2) := by decide +kernel
theorem dJ9_floorDiv_f86c9_29 : decode cJ9_floorDiv_f86c9 29 = .ok (.lreturn, 1) := by decide +kernel
theorem dJ9_abs_067f4_0 : decode cJ9_abs_067f4 0 = .ok (.lload_n 0, 1) := by decide +kernel
theorem dJ9_abs_067f4_1 : decode cJ9_abs_067f4 1 = .ok (.lconst 0, 1) := by decide +kernel
theorem dJ9_abs_067f4_2 : decode cJ9_abs_067f4 2 = .ok (.lcmp, 1) := by decide +kernel
theorem dJ9_abs_067f4_3 : decode cJ9_abs_067f4 3 = .ok (.ifCond .ge 8, 3) := by decide +kernel
theorem dJ9_abs_067f4_6 : decode cJ9_abs_067f4 6 = .ok (.lload_n 0, 1) := by decide +kernel
theorem dJ9_abs_067f4_7 : decode cJ9_abs_067f4 7 = .ok (.lneg, 1) := by decide +kernel
theorem dJ9_abs_067f4_8 : decode cJ9_abs_067f4 8 = .ok (.goto 4, 3) := by decide +kernel
theorem dJ9_abs_067f4_11 : decode cJ9_abs_067f4 11 = .ok (.lload_n 0, 1) := by decide +kernel
theorem dJ9_abs_067f4_12 : decode cJ9_abs_067f4 12 = .ok (.lreturn, 1) := by decide +kernel
theorem dJ9_max_f86c9_0 : decode cJ9_max_f86c9 0 = .ok (.lload_n 0, 1) := by decide +kernel
theorem dJ9_max_f86c9_1 : decode cJ9_max_f86c9 1 = .ok (.lload_n 2, 1) := by decide +kernel
theorem dJ9_max_f86c9_2 : decode cJ9_max_f86c9 2 = .ok (.lcmp, 1) := by decide +kernel
theorem dJ9_max_f86c9_3 : decode cJ9_max_f86c9 3 = .ok (.ifCond .lt 7, 3) := by decide +kernel
theorem dJ9_max_f86c9_6 : decode cJ9_max_f86c9 6 = .ok (.lload_n 0, 1) := by decide +kernel
theorem dJ9_max_f86c9_7 : decode cJ9_max_f86c9 7 = .ok (.goto 4, 3) := by decide +kernel
theorem dJ9_max_f86c9_10 : decode cJ9_max_f86c9 10 = .ok (.lload_n 2, 1) := by decide +kernel
theorem dJ9_max_f86c9_11 : decode cJ9_max_f86c9 11 = .ok (.lreturn, 1) := by decide +kernel
theorem dJ9_min_7cf53_0 : decode cJ9_min_7cf53 0 = .ok (.iload_n 0, 1) := by decide +kernel
theorem dJ9_min_7cf53_1 : decode cJ9_min_7cf53 1 = .ok (.iload_n 1, 1) := by decide +kernel
theorem dJ9_min_7cf53_2 : decode cJ9_min_7cf53 2 = .ok (.if_icmp .gt 7, 3) := by decide +kernel
theorem dJ9_min_7cf53_5 : decode cJ9_min_7cf53 5 = .ok (.iload_n 0, 1) := by decide +kernel
theorem dJ9_min_7cf53_6 : decode cJ9_min_7cf53 6 = .ok (.goto 4, 3) := by decide +kernel
theorem dJ9_min_7cf53_9 : decode cJ9_min_7cf53 9 = .ok (.iload_n 1, 1) := by decide +kernel
theorem dJ9_min_7cf53_10 : decode cJ9_min_7cf53 10 = .ok (.ireturn, 1) := by decide +kernel
theorem dJ9_min_f86c9_0 : decode cJ9_min_f86c9 0 = .ok (.lload_n 0, 1) := by decide +kernel
theorem dJ9_min_f86c9_1 : decode cJ9_min_f86c9 1 = .ok (.lload_n 2, 1) := by decide +kernel
theorem dJ9_min_f86c9_2 : decode cJ9_min_f86c9 2 = .ok (.lcmp, 1) := by decide +kernel
theorem dJ9_min_f86c9_3 : decode cJ9_min_f86c9 3 = .ok (.ifCond .gt 7, 3) := by decide +kernel
theorem dJ9_min_f86c9_6 : decode cJ9_min_f86c9 6 = .ok (.lload_n 0, 1) := by decide +kernel
theorem dJ9_min_f86c9_7 : decode cJ9_min_f86c9 7 = .ok (.goto 4, 3) := by decide +kernel
theorem dJ9_min_f86c9_10 : decode cJ9_min_f86c9 10 = .ok (.lload_n 2, 1) := by decide +kernel
theorem dJ9_min_f86c9_11 : decode cJ9_min_f86c9 11 = .ok (.lreturn, 1) := by decide +kernel
theorem dL_wrench_0 : decode cL_wrench 0 = .ok (.aload 4, 2) := by decide +kernel
theorem dL_wrench_2 : decode cL_wrench 2 = .ok (.iconst 0, 1) := by decide +kernel
theorem dL_wrench_3 : decode cL_wrench 3 = .ok (.aload_n 0, 1) := by decide +kernel
theorem dL_wrench_4 : decode cL_wrench 4 = .ok (.iload_n 1, 1) := by decide +kernel
theorem dL_wrench_5 : decode cL_wrench 5 = .ok (.iload_n 2, 1) := by decide +kernel
theorem dL_wrench_6 : decode cL_wrench 6 = .ok (.iload_n 3, 1) := by decide +kernel
theorem dL_wrench_7 : decode cL_wrench 7 = .ok (.invokevirtual 7, 3) := by decide +kernel
theorem dL_wrench_10 : decode cL_wrench 10 = .ok (.lastore, 1) := by decide +kernel
theorem dL_wrench_11 : decode cL_wrench 11 = .ok (.goto 7, 3) := by decide +kernel
theorem dL_wrench_14 : decode cL_wrench 14 = .ok (.astore 5, 2) := by decide +kernel
theorem dL_wrench_16 : decode cL_wrench 16 = .ok (.iconst 1, 1) := by decide +kernel
theorem dL_wrench_17 : decode cL_wrench 17 = .ok (.ireturn, 1) := by decide +kernel
theorem dL_wrench_18 : decode cL_wrench 18 = .ok (.iconst 0, 1) := by decide +kernel
theorem dL_wrench_19 : decode cL_wrench 19 = .ok (.ireturn, 1) := by decide +kernel
theorem dL_hidden_0 : decode cL_hidden 0 = .ok (.aload_n 2, 1) := by decide +kernel
theorem dL_hidden_1 : decode cL_hidden 1 = .ok (.iconst 0, 1) := by decide +kernel
theorem dL_hidden_2 : decode cL_hidden 2 = .ok (.aload_n 0, 1) := by decide +kernel
theorem dL_hidden_3 : decode cL_hidden 3 = .ok (.iload_n 1, 1) := by decide +kernel
theorem dL_hidden_4 : decode cL_hidden 4 = .ok (.invokevirtual 15, 3) := by decide +kernel
theorem dL_hidden_7 : decode cL_hidden 7 = .ok (.lastore, 1) := by decide +kernel
theorem dL_hidden_8 : decode cL_hidden 8 = .ok (.goto 9, 3) := by decide +kernel
theorem dL_hidden_11 : decode cL_hidden 11 = .ok (.astore_n 3, 1) := by decide +kernel
theorem dL_hidden_12 : decode cL_hidden 12 = .ok (.iconst 1, 1) := by decide +kernel
theorem dL_hidden_13 : decode cL_hidden 13 = .ok (.ireturn, 1) := by decide +kernel
theorem dL_hidden_14 : decode cL_hidden 14 = .ok (.astore_n 3, 1) := by decide +kernel
theorem dL_hidden_15 : decode cL_hidden 15 = .ok (.iconst 2, 1) := by decide +kernel
theorem dL_hidden_16 : decode cL_hidden 16 = .ok (.ireturn, 1) := by decide +kernel
theorem dL_hidden_17 : decode cL_hidden 17 = .ok (.iconst 0, 1) := by decide +kernel
theorem dL_hidden_18 : decode cL_hidden 18 = .ok (.ireturn, 1) := by decide +kernel
theorem dL_worst_0 : decode cL_worst 0 = .ok (.aload 6, 2) := by decide +kernel
theorem dL_worst_2 : decode cL_worst 2 = .ok (.iconst 0, 1) := by decide +kernel
theorem dL_worst_3 : decode cL_worst 3 = .ok (.aload_n 0, 1) := by decide +kernel
theorem dL_worst_4 : decode cL_worst 4 = .ok (.iload_n 1, 1) := by decide +kernel
theorem dL_worst_5 : decode cL_worst 5 = .ok (.iload_n 2, 1) := by decide +kernel
theorem dL_worst_6 : decode cL_worst 6 = .ok (.iload_n 3, 1) := by decide +kernel
theorem dL_worst_7 : decode cL_worst 7 = .ok (.iload 4, 2) := by decide +kernel
theorem dL_worst_9 : decode cL_worst 9 = .ok (.iload 5, 2) := by decide +kernel
theorem dL_worst_11 : decode cL_worst 11 = .ok (.invokevirtual 21, 3) := by decide +kernel
theorem dL_worst_14 : decode cL_worst 14 = .ok (.lastore, 1) := by decide +kernel
theorem dL_worst_15 : decode cL_worst 15 = .ok (.goto 11, 3) := by decide +kernel
theorem dL_worst_18 : decode cL_worst 18 = .ok (.astore 7, 2) := by decide +kernel
theorem dL_worst_20 : decode cL_worst 20 = .ok (.iconst 1, 1) := by decide +kernel
theorem dL_worst_21 : decode cL_worst 21 = .ok (.ireturn, 1) := by decide +kernel
theorem dL_worst_22 : decode cL_worst 22 = .ok (.astore 7, 2) := by decide +kernel
theorem dL_worst_24 : decode cL_worst 24 = .ok (.iconst 2, 1) := by decide +kernel
theorem dL_worst_25 : decode cL_worst 25 = .ok (.ireturn, 1) := by decide +kernel
theorem dL_worst_26 : decode cL_worst 26 = .ok (.iconst 0, 1) := by decide +kernel
theorem dL_worst_27 : decode cL_worst 27 = .ok (.ireturn, 1) := by decide +kernel
theorem dL_element_0 : decode cL_element 0 = .ok (.aload_n 3, 1) := by decide +kernel
theorem dL_element_1 : decode cL_element 1 = .ok (.iconst 0, 1) := by decide +kernel
theorem dL_element_2 : decode cL_element 2 = .ok (.aload_n 0, 1) := by decide +kernel
theorem dL_element_3 : decode cL_element 3 = .ok (.iload_n 1, 1) := by decide +kernel
theorem dL_element_4 : decode cL_element 4 = .ok (.iload_n 2, 1) := by decide +kernel
theorem dL_element_5 : decode cL_element 5 = .ok (.invokevirtual 25, 3) := by decide +kernel
theorem dL_element_8 : decode cL_element 8 = .ok (.lastore, 1) := by decide +kernel
theorem dL_element_9 : decode cL_element 9 = .ok (.goto 11, 3) := by decide +kernel
theorem dL_element_12 : decode cL_element 12 = .ok (.astore 4, 2) := by decide +kernel
theorem dL_element_14 : decode cL_element 14 = .ok (.iconst 1, 1) := by decide +kernel
theorem dL_element_15 : decode cL_element 15 = .ok (.ireturn, 1) := by decide +kernel
theorem dL_element_16 : decode cL_element 16 = .ok (.astore 4, 2) := by decide +kernel
theorem dL_element_18 : decode cL_element 18 = .ok (.iconst 2, 1) := by decide +kernel
theorem dL_element_19 : decode cL_element 19 = .ok (.ireturn, 1) := by decide +kernel
theorem dL_element_20 : decode cL_element 20 = .ok (.iconst 0, 1) := by decide +kernel
theorem dL_element_21 : decode cL_element 21 = .ok (.ireturn, 1) := by decide +kernel
theorem dL_law_0 : decode cL_law 0 = .ok (.new 8, 3) := by decide +kernel
theorem dL_law_3 : decode cL_law 3 = .ok (.dup, 1) := by decide +kernel
theorem dL_law_4 : decode cL_law 4 = .ok (.invokespecial 29, 3) := by decide +kernel
theorem dL_law_7 : decode cL_law 7 = .ok (.astore_n 1, 1) := by decide +kernel
theorem dL_law_8 : decode cL_law 8 = .ok (.new 30, 3) := by decide +kernel
theorem dL_law_11 : decode cL_law 11 = .ok (.dup, 1) := by decide +kernel
theorem dL_law_12 : decode cL_law 12 = .ok (.invokespecial 32, 3) := by decide +kernel
theorem dL_law_15 : decode cL_law 15 = .ok (.astore_n 2, 1) := by decide +kernel
theorem dL_law_16 : decode cL_law 16 = .ok (.iconst 1, 1) := by decide +kernel
theorem dL_law_17 : decode cL_law 17 = .ok (.newarray .long, 2) := by decide +kernel
theorem dL_law_19 : decode cL_law 19 = .ok (.astore_n 3, 1) := by decide +kernel
theorem dL_law_20 : decode cL_law 20 = .ok (.iconst 0, 1) := by decide +kernel
theorem dL_law_21 : decode cL_law 21 = .ok (.istore 4, 2) := by decide +kernel
theorem dL_law_23 : decode cL_law 23 = .ok (.iload 4, 2) := by decide +kernel
theorem dL_law_25 : decode cL_law 25 = .ok (.aload_n 0, 1) := by decide +kernel
theorem dL_law_26 : decode cL_law 26 = .ok (.arraylength, 1) := by decide +kernel
theorem dL_law_27 : decode cL_law 27 = .ok (.bipush 6, 2) := by decide +kernel
theorem dL_law_29 : decode cL_law 29 = .ok (.isub, 1) := by decide +kernel
theorem dL_law_30 : decode cL_law 30 = .ok (.if_icmp .gt 1408, 3) := by decide +kernel
theorem dL_law_33 : decode cL_law 33 = .ok (.aload_n 0, 1) := by decide +kernel
theorem dL_law_34 : decode cL_law 34 = .ok (.iload 4, 2) := by decide +kernel
theorem dL_law_36 : decode cL_law 36 = .ok (.iaload, 1) := by decide +kernel
theorem dL_law_37 : decode cL_law 37 = .ok (.bipush 31, 2) := by decide +kernel
theorem dL_law_39 : decode cL_law 39 = .ok (.iand, 1) := by decide +kernel
theorem dL_law_40 : decode cL_law 40 = .ok (.tableswitch 1392 0 31 #[144, 205, 218, 267, 304, 341, 420, 433, 488, 501, 526, 587, 636, 649, 674, 687, 806, 855, 892, 905, 942, 979, 1016, 1041, 1066, 1079, 1104, 1153, 1202, 1269, 1342, 1367], 144) := by decide +kernel
theorem dL_law_184 : decode cL_law 184 = .ok (.aload_n 1, 1) := by decide +kernel
theorem dL_law_185 : decode cL_law 185 = .ok (.aload_n 0, 1) := by decide +kernel
theorem dL_law_186 : decode cL_law 186 = .ok (.iload 4, 2) := by decide +kernel
theorem dL_law_188 : decode cL_law 188 = .ok (.iconst 1, 1) := by decide +kernel
theorem dL_law_189 : decode cL_law 189 = .ok (.iadd, 1) := by decide +kernel
theorem dL_law_190 : decode cL_law 190 = .ok (.iaload, 1) := by decide +kernel
theorem dL_law_191 : decode cL_law 191 = .ok (.aload_n 0, 1) := by decide +kernel
theorem dL_law_192 : decode cL_law 192 = .ok (.iload 4, 2) := by decide +kernel
theorem dL_law_194 : decode cL_law 194 = .ok (.iconst 2, 1) := by decide +kernel
theorem dL_law_195 : decode cL_law 195 = .ok (.iadd, 1) := by decide +kernel
theorem dL_law_196 : decode cL_law 196 = .ok (.iaload, 1) := by decide +kernel
theorem dL_law_197 : decode cL_law 197 = .ok (.aload_n 0, 1) := by decide +kernel
theorem dL_law_198 : decode cL_law 198 = .ok (.iload 4, 2) := by decide +kernel
theorem dL_law_200 : decode cL_law 200 = .ok (.iconst 3, 1) := by decide +kernel
theorem dL_law_201 : decode cL_law 201 = .ok (.iadd, 1) := by decide +kernel
theorem dL_law_202 : decode cL_law 202 = .ok (.iaload, 1) := by decide +kernel
theorem dL_law_203 : decode cL_law 203 = .ok (.aload_n 0, 1) := by decide +kernel
theorem dL_law_204 : decode cL_law 204 = .ok (.iload 4, 2) := by decide +kernel
theorem dL_law_206 : decode cL_law 206 = .ok (.iconst 4, 1) := by decide +kernel
theorem dL_law_207 : decode cL_law 207 = .ok (.iadd, 1) := by decide +kernel
theorem dL_law_208 : decode cL_law 208 = .ok (.iaload, 1) := by decide +kernel
theorem dL_law_209 : decode cL_law 209 = .ok (.invokevirtual 33, 3) := by decide +kernel
theorem dL_law_212 : decode cL_law 212 = .ok (.aload_n 2, 1) := by decide +kernel
theorem dL_law_213 : decode cL_law 213 = .ok (.aload_n 0, 1) := by decide +kernel
theorem dL_law_214 : decode cL_law 214 = .ok (.iload 4, 2) := by decide +kernel
theorem dL_law_216 : decode cL_law 216 = .ok (.iconst 1, 1) := by decide +kernel
theorem dL_law_217 : decode cL_law 217 = .ok (.iadd, 1) := by decide +kernel
theorem dL_law_218 : decode cL_law 218 = .ok (.iaload, 1) := by decide +kernel
theorem dL_law_219 : decode cL_law 219 = .ok (.aload_n 0, 1) := by decide +kernel
theorem dL_law_220 : decode cL_law 220 = .ok (.iload 4, 2) := by decide +kernel
theorem dL_law_222 : decode cL_law 222 = .ok (.iconst 2, 1) := by decide +kernel
theorem dL_law_223 : decode cL_law 223 = .ok (.iadd, 1) := by decide +kernel
theorem dL_law_224 : decode cL_law 224 = .ok (.iaload, 1) := by decide +kernel
theorem dL_law_225 : decode cL_law 225 = .ok (.aload_n 0, 1) := by decide +kernel
theorem dL_law_226 : decode cL_law 226 = .ok (.iload 4, 2) := by decide +kernel
theorem dL_law_228 : decode cL_law 228 = .ok (.iconst 3, 1) := by decide +kernel
theorem dL_law_229 : decode cL_law 229 = .ok (.iadd, 1) := by decide +kernel
theorem dL_law_230 : decode cL_law 230 = .ok (.iaload, 1) := by decide +kernel
theorem dL_law_231 : decode cL_law 231 = .ok (.aload_n 0, 1) := by decide +kernel
theorem dL_law_232 : decode cL_law 232 = .ok (.iload 4, 2) := by decide +kernel
theorem dL_law_234 : decode cL_law 234 = .ok (.iconst 4, 1) := by decide +kernel
theorem dL_law_235 : decode cL_law 235 = .ok (.iadd, 1) := by decide +kernel
theorem dL_law_236 : decode cL_law 236 = .ok (.iaload, 1) := by decide +kernel
theorem dL_law_237 : decode cL_law 237 = .ok (.invokevirtual 37, 3) := by decide +kernel
theorem dL_law_240 : decode cL_law 240 = .ok (.if_icmp .eq 1192, 3) := by decide +kernel
theorem dL_law_243 : decode cL_law 243 = .ok (.iconst 0, 1) := by decide +kernel
theorem dL_law_244 : decode cL_law 244 = .ok (.ireturn, 1) := by decide +kernel
theorem dL_law_245 : decode cL_law 245 = .ok (.aload_n 1, 1) := by decide +kernel
theorem dL_law_246 : decode cL_law 246 = .ok (.invokevirtual 38, 3) := by decide +kernel
theorem dL_law_249 : decode cL_law 249 = .ok (.aload_n 2, 1) := by decide +kernel
theorem dL_law_250 : decode cL_law 250 = .ok (.invokevirtual 42, 3) := by decide +kernel
theorem dL_law_253 : decode cL_law 253 = .ok (.if_icmp .eq 1179, 3) := by decide +kernel
theorem dL_law_256 : decode cL_law 256 = .ok (.iconst 0, 1) := by decide +kernel
theorem dL_law_257 : decode cL_law 257 = .ok (.ireturn, 1) := by decide +kernel
theorem dL_law_258 : decode cL_law 258 = .ok (.aload_n 1, 1) := by decide +kernel
theorem dL_law_259 : decode cL_law 259 = .ok (.aload_n 0, 1) := by decide +kernel
theorem dL_law_260 : decode cL_law 260 = .ok (.iload 4, 2) := by decide +kernel
theorem dL_law_262 : decode cL_law 262 = .ok (.iconst 1, 1) := by decide +kernel
theorem dL_law_263 : decode cL_law 263 = .ok (.iadd, 1) := by decide +kernel
theorem dL_law_264 : decode cL_law 264 = .ok (.iaload, 1) := by decide +kernel
theorem dL_law_265 : decode cL_law 265 = .ok (.aload_n 0, 1) := by decide +kernel
theorem dL_law_266 : decode cL_law 266 = .ok (.iload 4, 2) := by decide +kernel
theorem dL_law_268 : decode cL_law 268 = .ok (.iconst 2, 1) := by decide +kernel
theorem dL_law_269 : decode cL_law 269 = .ok (.iadd, 1) := by decide +kernel
theorem dL_law_270 : decode cL_law 270 = .ok (.iaload, 1) := by decide +kernel
theorem dL_law_271 : decode cL_law 271 = .ok (.aload_n 0, 1) := by decide +kernel
theorem dL_law_272 : decode cL_law 272 = .ok (.iload 4, 2) := by decide +kernel
theorem dL_law_274 : decode cL_law 274 = .ok (.iconst 3, 1) := by decide +kernel
theorem dL_law_275 : decode cL_law 275 = .ok (.iadd, 1) := by decide +kernel
theorem dL_law_276 : decode cL_law 276 = .ok (.iaload, 1) := by decide +kernel
theorem dL_law_277 : decode cL_law 277 = .ok (.invokevirtual 43, 3) := by decide +kernel
theorem dL_law_280 : decode cL_law 280 = .ok (.aload_n 2, 1) := by decide +kernel
theorem dL_law_281 : decode cL_law 281 = .ok (.aload_n 0, 1) := by decide +kernel
theorem dL_law_282 : decode cL_law 282 = .ok (.iload 4, 2) := by decide +kernel
theorem dL_law_284 : decode cL_law 284 = .ok (.iconst 1, 1) := by decide +kernel
theorem dL_law_285 : decode cL_law 285 = .ok (.iadd, 1) := by decide +kernel
theorem dL_law_286 : decode cL_law 286 = .ok (.iaload, 1) := by decide +kernel
theorem dL_law_287 : decode cL_law 287 = .ok (.aload_n 0, 1) := by decide +kernel
theorem dL_law_288 : decode cL_law 288 = .ok (.iload 4, 2) := by decide +kernel
theorem dL_law_290 : decode cL_law 290 = .ok (.iconst 2, 1) := by decide +kernel
theorem dL_law_291 : decode cL_law 291 = .ok (.iadd, 1) := by decide +kernel
theorem dL_law_292 : decode cL_law 292 = .ok (.iaload, 1) := by decide +kernel
theorem dL_law_293 : decode cL_law 293 = .ok (.aload_n 0, 1) := by decide +kernel
theorem dL_law_294 : decode cL_law 294 = .ok (.iload 4, 2) := by decide +kernel
theorem dL_law_296 : decode cL_law 296 = .ok (.iconst 3, 1) := by decide +kernel
theorem dL_law_297 : decode cL_law 297 = .ok (.iadd, 1) := by decide +kernel
theorem dL_law_298 : decode cL_law 298 = .ok (.iaload, 1) := by decide +kernel
theorem dL_law_299 : decode cL_law 299 = .ok (.invokevirtual 47, 3) := by decide +kernel
theorem dL_law_302 : decode cL_law 302 = .ok (.if_icmp .eq 1130, 3) := by decide +kernel
theorem dL_law_305 : decode cL_law 305 = .ok (.iconst 0, 1) := by decide +kernel
theorem dL_law_306 : decode cL_law 306 = .ok (.ireturn, 1) := by decide +kernel
theorem dL_law_307 : decode cL_law 307 = .ok (.aload_n 1, 1) := by decide +kernel
theorem dL_law_308 : decode cL_law 308 = .ok (.aload_n 0, 1) := by decide +kernel
theorem dL_law_309 : decode cL_law 309 = .ok (.iload 4, 2) := by decide +kernel
theorem dL_law_311 : decode cL_law 311 = .ok (.iconst 1, 1) := by decide +kernel
theorem dL_law_312 : decode cL_law 312 = .ok (.iadd, 1) := by decide +kernel
theorem dL_law_313 : decode cL_law 313 = .ok (.iaload, 1) := by decide +kernel
theorem dL_law_314 : decode cL_law 314 = .ok (.aload_n 0, 1) := by decide +kernel
theorem dL_law_315 : decode cL_law 315 = .ok (.iload 4, 2) := by decide +kernel
theorem dL_law_317 : decode cL_law 317 = .ok (.iconst 2, 1) := by decide +kernel
theorem dL_law_318 : decode cL_law 318 = .ok (.iadd, 1) := by decide +kernel
theorem dL_law_319 : decode cL_law 319 = .ok (.iaload, 1) := by decide +kernel
theorem dL_law_320 : decode cL_law 320 = .ok (.invokevirtual 48, 3) := by decide +kernel
theorem dL_law_323 : decode cL_law 323 = .ok (.aload_n 2, 1) := by decide +kernel
theorem dL_law_324 : decode cL_law 324 = .ok (.aload_n 0, 1) := by decide +kernel
theorem dL_law_325 : decode cL_law 325 = .ok (.iload 4, 2) := by decide +kernel
theorem dL_law_327 : decode cL_law 327 = .ok (.iconst 1, 1) := by decide +kernel
theorem dL_law_328 : decode cL_law 328 = .ok (.iadd, 1) := by decide +kernel
theorem dL_law_329 : decode cL_law 329 = .ok (.iaload, 1) := by decide +kernel
theorem dL_law_330 : decode cL_law 330 = .ok (.aload_n 0, 1) := by decide +kernel
theorem dL_law_331 : decode cL_law 331 = .ok (.iload 4, 2) := by decide +kernel
theorem dL_law_333 : decode cL_law 333 = .ok (.iconst 2, 1) := by decide +kernel
theorem dL_law_334 : decode cL_law 334 = .ok (.iadd, 1) := by decide +kernel
theorem dL_law_335 : decode cL_law 335 = .ok (.iaload, 1) := by decide +kernel
theorem dL_law_336 : decode cL_law 336 = .ok (.invokevirtual 52, 3) := by decide +kernel
theorem dL_law_339 : decode cL_law 339 = .ok (.if_icmp .eq 1093, 3) := by decide +kernel
theorem dL_law_342 : decode cL_law 342 = .ok (.iconst 0, 1) := by decide +kernel
theorem dL_law_343 : decode cL_law 343 = .ok (.ireturn, 1) := by decide +kernel
theorem dL_law_344 : decode cL_law 344 = .ok (.aload_n 1, 1) := by decide +kernel
theorem dL_law_345 : decode cL_law 345 = .ok (.aload_n 0, 1) := by decide +kernel
theorem dL_law_346 : decode cL_law 346 = .ok (.iload 4, 2) := by decide +kernel
theorem dL_law_348 : decode cL_law 348 = .ok (.iconst 1, 1) := by decide +kernel
theorem dL_law_349 : decode cL_law 349 = .ok (.iadd, 1) := by decide +kernel
theorem dL_law_350 : decode cL_law 350 = .ok (.iaload, 1) := by decide +kernel
theorem dL_law_351 : decode cL_law 351 = .ok (.aload_n 0, 1) := by decide +kernel
theorem dL_law_352 : decode cL_law 352 = .ok (.iload 4, 2) := by decide +kernel
theorem dL_law_354 : decode cL_law 354 = .ok (.iconst 2, 1) := by decide +kernel
theorem dL_law_355 : decode cL_law 355 = .ok (.iadd, 1) := by decide +kernel
theorem dL_law_356 : decode cL_law 356 = .ok (.iaload, 1) := by decide +kernel
theorem dL_law_357 : decode cL_law 357 = .ok (.invokevirtual 53, 3) := by decide +kernel
theorem dL_law_360 : decode cL_law 360 = .ok (.aload_n 2, 1) := by decide +kernel
theorem dL_law_361 : decode cL_law 361 = .ok (.aload_n 0, 1) := by decide +kernel
theorem dL_law_362 : decode cL_law 362 = .ok (.iload 4, 2) := by decide +kernel
theorem dL_law_364 : decode cL_law 364 = .ok (.iconst 1, 1) := by decide +kernel
theorem dL_law_365 : decode cL_law 365 = .ok (.iadd, 1) := by decide +kernel
theorem dL_law_366 : decode cL_law 366 = .ok (.iaload, 1) := by decide +kernel
theorem dL_law_367 : decode cL_law 367 = .ok (.aload_n 0, 1) := by decide +kernel
theorem dL_law_368 : decode cL_law 368 = .ok (.iload 4, 2) := by decide +kernel
theorem dL_law_370 : decode cL_law 370 = .ok (.iconst 2, 1) := by decide +kernel
theorem dL_law_371 : decode cL_law 371 = .ok (.iadd, 1) := by decide +kernel
theorem dL_law_372 : decode cL_law 372 = .ok (.iaload, 1) := by decide +kernel
theorem dL_law_373 : decode cL_law 373 = .ok (.invokevirtual 56, 3) := by decide +kernel
theorem dL_law_376 : decode cL_law 376 = .ok (.if_icmp .eq 1056, 3) := by decide +kernel
theorem dL_law_379 : decode cL_law 379 = .ok (.iconst 0, 1) := by decide +kernel
theorem dL_law_380 : decode cL_law 380 = .ok (.ireturn, 1) := by decide +kernel
theorem dL_law_381 : decode cL_law 381 = .ok (.aload_n 1, 1) := by decide +kernel
theorem dL_law_382 : decode cL_law 382 = .ok (.aload_n 0, 1) := by decide +kernel
theorem dL_law_383 : decode cL_law 383 = .ok (.iload 4, 2) := by decide +kernel
theorem dL_law_385 : decode cL_law 385 = .ok (.iconst 1, 1) := by decide +kernel
theorem dL_law_386 : decode cL_law 386 = .ok (.iadd, 1) := by decide +kernel
theorem dL_law_387 : decode cL_law 387 = .ok (.iaload, 1) := by decide +kernel
theorem dL_law_388 : decode cL_law 388 = .ok (.aload_n 0, 1) := by decide +kernel
theorem dL_law_389 : decode cL_law 389 = .ok (.iload 4, 2) := by decide +kernel
theorem dL_law_391 : decode cL_law 391 = .ok (.iconst 2, 1) := by decide +kernel
theorem dL_law_392 : decode cL_law 392 = .ok (.iadd, 1) := by decide +kernel
theorem dL_law_393 : decode cL_law 393 = .ok (.iaload, 1) := by decide +kernel
theorem dL_law_394 : decode cL_law 394 = .ok (.aload_n 0, 1) := by decide +kernel
theorem dL_law_395 : decode cL_law 395 = .ok (.iload 4, 2) := by decide +kernel
theorem dL_law_397 : decode cL_law 397 = .ok (.iconst 3, 1) := by decide +kernel
theorem dL_law_398 : decode cL_law 398 = .ok (.iadd, 1) := by decide +kernel
theorem dL_law_399 : decode cL_law 399 = .ok (.iaload, 1) := by decide +kernel
theorem dL_law_400 : decode cL_law 400 = .ok (.aload_n 3, 1) := by decide +kernel
theorem dL_law_401 : decode cL_law 401 = .ok (.invokestatic 57, 3) := by decide +kernel
theorem dL_law_404 : decode cL_law 404 = .ok (.istore 5, 2) := by decide +kernel
theorem dL_law_406 : decode cL_law 406 = .ok (.aload_n 2, 1) := by decide +kernel
theorem dL_law_407 : decode cL_law 407 = .ok (.aload_n 0, 1) := by decide +kernel
theorem dL_law_408 : decode cL_law 408 = .ok (.iload 4, 2) := by decide +kernel
theorem dL_law_410 : decode cL_law 410 = .ok (.iconst 1, 1) := by decide +kernel
theorem dL_law_411 : decode cL_law 411 = .ok (.iadd, 1) := by decide +kernel
theorem dL_law_412 : decode cL_law 412 = .ok (.iaload, 1) := by decide +kernel
theorem dL_law_413 : decode cL_law 413 = .ok (.aload_n 0, 1) := by decide +kernel
theorem dL_law_414 : decode cL_law 414 = .ok (.iload 4, 2) := by decide +kernel
theorem dL_law_416 : decode cL_law 416 = .ok (.iconst 2, 1) := by decide +kernel
theorem dL_law_417 : decode cL_law 417 = .ok (.iadd, 1) := by decide +kernel
theorem dL_law_418 : decode cL_law 418 = .ok (.iaload, 1) := by decide +kernel
theorem dL_law_419 : decode cL_law 419 = .ok (.aload_n 0, 1) := by decide +kernel
theorem dL_law_420 : decode cL_law 420 = .ok (.iload 4, 2) := by decide +kernel
theorem dL_law_422 : decode cL_law 422 = .ok (.iconst 3, 1) := by decide +kernel
theorem dL_law_423 : decode cL_law 423 = .ok (.iadd, 1) := by decide +kernel
theorem dL_law_424 : decode cL_law 424 = .ok (.iaload, 1) := by decide +kernel
theorem dL_law_425 : decode cL_law 425 = .ok (.invokevirtual 62, 3) := by decide +kernel
theorem dL_law_428 : decode cL_law 428 = .ok (.lstore 6, 2) := by decide +kernel
theorem dL_law_430 : decode cL_law 430 = .ok (.aload_n 2, 1) := by decide +kernel
theorem dL_law_431 : decode cL_law 431 = .ok (.invokevirtual 63, 3) := by decide +kernel
theorem dL_law_434 : decode cL_law 434 = .ok (.iload 5, 2) := by decide +kernel
theorem dL_law_436 : decode cL_law 436 = .ok (.if_icmp .eq 5, 3) := by decide +kernel
theorem dL_law_439 : decode cL_law 439 = .ok (.iconst 0, 1) := by decide +kernel
theorem dL_law_440 : decode cL_law 440 = .ok (.ireturn, 1) := by decide +kernel
theorem dL_law_441 : decode cL_law 441 = .ok (.iload 5, 2) := by decide +kernel
theorem dL_law_443 : decode cL_law 443 = .ok (.ifCond .ne 14, 3) := by decide +kernel
theorem dL_law_446 : decode cL_law 446 = .ok (.aload_n 3, 1) := by decide +kernel
theorem dL_law_447 : decode cL_law 447 = .ok (.iconst 0, 1) := by decide +kernel
theorem dL_law_448 : decode cL_law 448 = .ok (.laload, 1) := by decide +kernel
theorem dL_law_449 : decode cL_law 449 = .ok (.lload 6, 2) := by decide +kernel
theorem dL_law_451 : decode cL_law 451 = .ok (.lcmp, 1) := by decide +kernel
theorem dL_law_452 : decode cL_law 452 = .ok (.ifCond .eq 5, 3) := by decide +kernel
theorem dL_law_455 : decode cL_law 455 = .ok (.iconst 0, 1) := by decide +kernel
theorem dL_law_456 : decode cL_law 456 = .ok (.ireturn, 1) := by decide +kernel
theorem dL_law_457 : decode cL_law 457 = .ok (.goto 975, 3) := by decide +kernel
theorem dL_law_460 : decode cL_law 460 = .ok (.aload_n 1, 1) := by decide +kernel
theorem dL_law_461 : decode cL_law 461 = .ok (.invokevirtual 66, 3) := by decide +kernel
theorem dL_law_464 : decode cL_law 464 = .ok (.aload_n 2, 1) := by decide +kernel
theorem dL_law_465 : decode cL_law 465 = .ok (.invokevirtual 69, 3) := by decide +kernel
theorem dL_law_468 : decode cL_law 468 = .ok (.if_icmp .eq 964, 3) := by decide +kernel
theorem dL_law_471 : decode cL_law 471 = .ok (.iconst 0, 1) := by decide +kernel
theorem dL_law_472 : decode cL_law 472 = .ok (.ireturn, 1) := by decide +kernel
theorem dL_law_473 : decode cL_law 473 = .ok (.aload_n 1, 1) := by decide +kernel
theorem dL_law_474 : decode cL_law 474 = .ok (.aload_n 0, 1) := by decide +kernel
theorem dL_law_475 : decode cL_law 475 = .ok (.iload 4, 2) := by decide +kernel
theorem dL_law_477 : decode cL_law 477 = .ok (.iconst 1, 1) := by decide +kernel
theorem dL_law_478 : decode cL_law 478 = .ok (.iadd, 1) := by decide +kernel
theorem dL_law_479 : decode cL_law 479 = .ok (.iaload, 1) := by decide +kernel
theorem dL_law_480 : decode cL_law 480 = .ok (.aload_n 3, 1) := by decide +kernel
theorem dL_law_481 : decode cL_law 481 = .ok (.invokestatic 70, 3) := by decide +kernel
theorem dL_law_484 : decode cL_law 484 = .ok (.istore 5, 2) := by decide +kernel
theorem dL_law_486 : decode cL_law 486 = .ok (.aload_n 2, 1) := by decide +kernel
theorem dL_law_487 : decode cL_law 487 = .ok (.aload_n 0, 1) := by decide +kernel
theorem dL_law_488 : decode cL_law 488 = .ok (.iload 4, 2) := by decide +kernel
theorem dL_law_490 : decode cL_law 490 = .ok (.iconst 1, 1) := by decide +kernel
theorem dL_law_491 : decode cL_law 491 = .ok (.iadd, 1) := by decide +kernel
theorem dL_law_492 : decode cL_law 492 = .ok (.iaload, 1) := by decide +kernel
theorem dL_law_493 : decode cL_law 493 = .ok (.invokevirtual 73, 3) := by decide +kernel
theorem dL_law_496 : decode cL_law 496 = .ok (.lstore 6, 2) := by decide +kernel
theorem dL_law_498 : decode cL_law 498 = .ok (.aload_n 2, 1) := by decide +kernel
theorem dL_law_499 : decode cL_law 499 = .ok (.invokevirtual 63, 3) := by decide +kernel
theorem dL_law_502 : decode cL_law 502 = .ok (.iload 5, 2) := by decide +kernel
theorem dL_law_504 : decode cL_law 504 = .ok (.if_icmp .eq 5, 3) := by decide +kernel
theorem dL_law_507 : decode cL_law 507 = .ok (.iconst 0, 1) := by decide +kernel
theorem dL_law_508 : decode cL_law 508 = .ok (.ireturn, 1) := by decide +kernel
theorem dL_law_509 : decode cL_law 509 = .ok (.iload 5, 2) := by decide +kernel
theorem dL_law_511 : decode cL_law 511 = .ok (.ifCond .ne 14, 3) := by decide +kernel
theorem dL_law_514 : decode cL_law 514 = .ok (.aload_n 3, 1) := by decide +kernel
theorem dL_law_515 : decode cL_law 515 = .ok (.iconst 0, 1) := by decide +kernel
theorem dL_law_516 : decode cL_law 516 = .ok (.laload, 1) := by decide +kernel
theorem dL_law_517 : decode cL_law 517 = .ok (.lload 6, 2) := by decide +kernel
theorem dL_law_519 : decode cL_law 519 = .ok (.lcmp, 1) := by decide +kernel
theorem dL_law_520 : decode cL_law 520 = .ok (.ifCond .eq 5, 3) := by decide +kernel
theorem dL_law_523 : decode cL_law 523 = .ok (.iconst 0, 1) := by decide +kernel
theorem dL_law_524 : decode cL_law 524 = .ok (.ireturn, 1) := by decide +kernel
theorem dL_law_525 : decode cL_law 525 = .ok (.goto 907, 3) := by decide +kernel
theorem dL_law_528 : decode cL_law 528 = .ok (.aload_n 1, 1) := by decide +kernel
theorem dL_law_529 : decode cL_law 529 = .ok (.invokevirtual 74, 3) := by decide +kernel
theorem dL_law_532 : decode cL_law 532 = .ok (.aload_n 2, 1) := by decide +kernel
theorem dL_law_533 : decode cL_law 533 = .ok (.invokevirtual 77, 3) := by decide +kernel
theorem dL_law_536 : decode cL_law 536 = .ok (.if_icmp .eq 896, 3) := by decide +kernel
theorem dL_law_539 : decode cL_law 539 = .ok (.iconst 0, 1) := by decide +kernel
theorem dL_law_540 : decode cL_law 540 = .ok (.ireturn, 1) := by decide +kernel
theorem dL_law_541 : decode cL_law 541 = .ok (.aload_n 1, 1) := by decide +kernel
theorem dL_law_542 : decode cL_law 542 = .ok (.aload_n 0, 1) := by decide +kernel
theorem dL_law_543 : decode cL_law 543 = .ok (.iload 4, 2) := by decide +kernel
theorem dL_law_545 : decode cL_law 545 = .ok (.iconst 1, 1) := by decide +kernel
theorem dL_law_546 : decode cL_law 546 = .ok (.iadd, 1) := by decide +kernel
theorem dL_law_547 : decode cL_law 547 = .ok (.iaload, 1) := by decide +kernel
theorem dL_law_548 : decode cL_law 548 = .ok (.invokevirtual 78, 3) := by decide +kernel
theorem dL_law_551 : decode cL_law 551 = .ok (.aload_n 2, 1) := by decide +kernel
theorem dL_law_552 : decode cL_law 552 = .ok (.aload_n 0, 1) := by decide +kernel
theorem dL_law_553 : decode cL_law 553 = .ok (.iload 4, 2) := by decide +kernel
theorem dL_law_555 : decode cL_law 555 = .ok (.iconst 1, 1) := by decide +kernel
theorem dL_law_556 : decode cL_law 556 = .ok (.iadd, 1) := by decide +kernel
theorem dL_law_557 : decode cL_law 557 = .ok (.iaload, 1) := by decide +kernel
theorem dL_law_558 : decode cL_law 558 = .ok (.invokevirtual 82, 3) := by decide +kernel
theorem dL_law_561 : decode cL_law 561 = .ok (.if_icmp .eq 871, 3) := by decide +kernel
theorem dL_law_564 : decode cL_law 564 = .ok (.iconst 0, 1) := by decide +kernel
theorem dL_law_565 : decode cL_law 565 = .ok (.ireturn, 1) := by decide +kernel
theorem dL_law_566 : decode cL_law 566 = .ok (.aload_n 1, 1) := by decide +kernel
theorem dL_law_567 : decode cL_law 567 = .ok (.aload_n 0, 1) := by decide +kernel
theorem dL_law_568 : decode cL_law 568 = .ok (.iload 4, 2) := by decide +kernel
theorem dL_law_570 : decode cL_law 570 = .ok (.iconst 1, 1) := by decide +kernel
theorem dL_law_571 : decode cL_law 571 = .ok (.iadd, 1) := by decide +kernel
theorem dL_law_572 : decode cL_law 572 = .ok (.iaload, 1) := by decide +kernel
theorem dL_law_573 : decode cL_law 573 = .ok (.aload_n 0, 1) := by decide +kernel
theorem dL_law_574 : decode cL_law 574 = .ok (.iload 4, 2) := by decide +kernel
theorem dL_law_576 : decode cL_law 576 = .ok (.iconst 2, 1) := by decide +kernel
theorem dL_law_577 : decode cL_law 577 = .ok (.iadd, 1) := by decide +kernel
theorem dL_law_578 : decode cL_law 578 = .ok (.iaload, 1) := by decide +kernel
theorem dL_law_579 : decode cL_law 579 = .ok (.aload_n 0, 1) := by decide +kernel
theorem dL_law_580 : decode cL_law 580 = .ok (.iload 4, 2) := by decide +kernel
theorem dL_law_582 : decode cL_law 582 = .ok (.iconst 3, 1) := by decide +kernel
theorem dL_law_583 : decode cL_law 583 = .ok (.iadd, 1) := by decide +kernel
theorem dL_law_584 : decode cL_law 584 = .ok (.iaload, 1) := by decide +kernel
theorem dL_law_585 : decode cL_law 585 = .ok (.aload_n 0, 1) := by decide +kernel
theorem dL_law_586 : decode cL_law 586 = .ok (.iload 4, 2) := by decide +kernel
theorem dL_law_588 : decode cL_law 588 = .ok (.iconst 4, 1) := by decide +kernel
theorem dL_law_589 : decode cL_law 589 = .ok (.iadd, 1) := by decide +kernel
theorem dL_law_590 : decode cL_law 590 = .ok (.iaload, 1) := by decide +kernel
theorem dL_law_591 : decode cL_law 591 = .ok (.invokevirtual 83, 3) := by decide +kernel
theorem dL_law_594 : decode cL_law 594 = .ok (.aload_n 2, 1) := by decide +kernel
theorem dL_law_595 : decode cL_law 595 = .ok (.aload_n 0, 1) := by decide +kernel
theorem dL_law_596 : decode cL_law 596 = .ok (.iload 4, 2) := by decide +kernel
theorem dL_law_598 : decode cL_law 598 = .ok (.iconst 1, 1) := by decide +kernel
theorem dL_law_599 : decode cL_law 599 = .ok (.iadd, 1) := by decide +kernel
theorem dL_law_600 : decode cL_law 600 = .ok (.iaload, 1) := by decide +kernel
theorem dL_law_601 : decode cL_law 601 = .ok (.aload_n 0, 1) := by decide +kernel
theorem dL_law_602 : decode cL_law 602 = .ok (.iload 4, 2) := by decide +kernel
theorem dL_law_604 : decode cL_law 604 = .ok (.iconst 2, 1) := by decide +kernel
theorem dL_law_605 : decode cL_law 605 = .ok (.iadd, 1) := by decide +kernel
theorem dL_law_606 : decode cL_law 606 = .ok (.iaload, 1) := by decide +kernel
theorem dL_law_607 : decode cL_law 607 = .ok (.aload_n 0, 1) := by decide +kernel
theorem dL_law_608 : decode cL_law 608 = .ok (.iload 4, 2) := by decide +kernel
theorem dL_law_610 : decode cL_law 610 = .ok (.iconst 3, 1) := by decide +kernel
theorem dL_law_611 : decode cL_law 611 = .ok (.iadd, 1) := by decide +kernel
theorem dL_law_612 : decode cL_law 612 = .ok (.iaload, 1) := by decide +kernel
theorem dL_law_613 : decode cL_law 613 = .ok (.aload_n 0, 1) := by decide +kernel
theorem dL_law_614 : decode cL_law 614 = .ok (.iload 4, 2) := by decide +kernel
theorem dL_law_616 : decode cL_law 616 = .ok (.iconst 4, 1) := by decide +kernel
theorem dL_law_617 : decode cL_law 617 = .ok (.iadd, 1) := by decide +kernel
theorem dL_law_618 : decode cL_law 618 = .ok (.iaload, 1) := by decide +kernel
theorem dL_law_619 : decode cL_law 619 = .ok (.invokevirtual 86, 3) := by decide +kernel
theorem dL_law_622 : decode cL_law 622 = .ok (.if_icmp .eq 810, 3) := by decide +kernel
theorem dL_law_625 : decode cL_law 625 = .ok (.iconst 0, 1) := by decide +kernel
theorem dL_law_626 : decode cL_law 626 = .ok (.ireturn, 1) := by decide +kernel
theorem dL_law_627 : decode cL_law 627 = .ok (.aload_n 1, 1) := by decide +kernel
theorem dL_law_628 : decode cL_law 628 = .ok (.aload_n 0, 1) := by decide +kernel
theorem dL_law_629 : decode cL_law 629 = .ok (.iload 4, 2) := by decide +kernel
theorem dL_law_631 : decode cL_law 631 = .ok (.iconst 1, 1) := by decide +kernel
theorem dL_law_632 : decode cL_law 632 = .ok (.iadd, 1) := by decide +kernel
theorem dL_law_633 : decode cL_law 633 = .ok (.iaload, 1) := by decide +kernel
theorem dL_law_634 : decode cL_law 634 = .ok (.aload_n 0, 1) := by decide +kernel
theorem dL_law_635 : decode cL_law 635 = .ok (.iload 4, 2) := by decide +kernel
theorem dL_law_637 : decode cL_law 637 = .ok (.iconst 2, 1) := by decide +kernel
theorem dL_law_638 : decode cL_law 638 = .ok (.iadd, 1) := by decide +kernel
theorem dL_law_639 : decode cL_law 639 = .ok (.iaload, 1) := by decide +kernel
theorem dL_law_640 : decode cL_law 640 = .ok (.aload_n 0, 1) := by decide +kernel
theorem dL_law_641 : decode cL_law 641 = .ok (.iload 4, 2) := by decide +kernel
theorem dL_law_643 : decode cL_law 643 = .ok (.iconst 3, 1) := by decide +kernel
theorem dL_law_644 : decode cL_law 644 = .ok (.iadd, 1) := by decide +kernel
theorem dL_law_645 : decode cL_law 645 = .ok (.iaload, 1) := by decide +kernel
theorem dL_law_646 : decode cL_law 646 = .ok (.invokevirtual 87, 3) := by decide +kernel
theorem dL_law_649 : decode cL_law 649 = .ok (.aload_n 2, 1) := by decide +kernel
theorem dL_law_650 : decode cL_law 650 = .ok (.aload_n 0, 1) := by decide +kernel
theorem dL_law_651 : decode cL_law 651 = .ok (.iload 4, 2) := by decide +kernel
theorem dL_law_653 : decode cL_law 653 = .ok (.iconst 1, 1) := by decide +kernel
theorem dL_law_654 : decode cL_law 654 = .ok (.iadd, 1) := by decide +kernel
theorem dL_law_655 : decode cL_law 655 = .ok (.iaload, 1) := by decide +kernel
theorem dL_law_656 : decode cL_law 656 = .ok (.aload_n 0, 1) := by decide +kernel
theorem dL_law_657 : decode cL_law 657 = .ok (.iload 4, 2) := by decide +kernel
theorem dL_law_659 : decode cL_law 659 = .ok (.iconst 2, 1) := by decide +kernel
theorem dL_law_660 : decode cL_law 660 = .ok (.iadd, 1) := by decide +kernel
theorem dL_law_661 : decode cL_law 661 = .ok (.iaload, 1) := by decide +kernel
theorem dL_law_662 : decode cL_law 662 = .ok (.aload_n 0, 1) := by decide +kernel
theorem dL_law_663 : decode cL_law 663 = .ok (.iload 4, 2) := by decide +kernel
theorem dL_law_665 : decode cL_law 665 = .ok (.iconst 3, 1) := by decide +kernel
theorem dL_law_666 : decode cL_law 666 = .ok (.iadd, 1) := by decide +kernel
theorem dL_law_667 : decode cL_law 667 = .ok (.iaload, 1) := by decide +kernel
theorem dL_law_668 : decode cL_law 668 = .ok (.invokevirtual 90, 3) := by decide +kernel
theorem dL_law_671 : decode cL_law 671 = .ok (.if_icmp .eq 761, 3) := by decide +kernel
theorem dL_law_674 : decode cL_law 674 = .ok (.iconst 0, 1) := by decide +kernel
theorem dL_law_675 : decode cL_law 675 = .ok (.ireturn, 1) := by decide +kernel
theorem dL_law_676 : decode cL_law 676 = .ok (.aload_n 1, 1) := by decide +kernel
theorem dL_law_677 : decode cL_law 677 = .ok (.invokevirtual 91, 3) := by decide +kernel
theorem dL_law_680 : decode cL_law 680 = .ok (.aload_n 2, 1) := by decide +kernel
theorem dL_law_681 : decode cL_law 681 = .ok (.invokevirtual 94, 3) := by decide +kernel
theorem dL_law_684 : decode cL_law 684 = .ok (.if_icmp .eq 748, 3) := by decide +kernel
theorem dL_law_687 : decode cL_law 687 = .ok (.iconst 0, 1) := by decide +kernel
theorem dL_law_688 : decode cL_law 688 = .ok (.ireturn, 1) := by decide +kernel
theorem dL_law_689 : decode cL_law 689 = .ok (.aload_n 1, 1) := by decide +kernel
theorem dL_law_690 : decode cL_law 690 = .ok (.aload_n 0, 1) := by decide +kernel
theorem dL_law_691 : decode cL_law 691 = .ok (.iload 4, 2) := by decide +kernel
theorem dL_law_693 : decode cL_law 693 = .ok (.iconst 1, 1) := by decide +kernel
theorem dL_law_694 : decode cL_law 694 = .ok (.iadd, 1) := by decide +kernel
theorem dL_law_695 : decode cL_law 695 = .ok (.iaload, 1) := by decide +kernel
theorem dL_law_696 : decode cL_law 696 = .ok (.invokevirtual 95, 3) := by decide +kernel
theorem dL_law_699 : decode cL_law 699 = .ok (.aload_n 2, 1) := by decide +kernel
theorem dL_law_700 : decode cL_law 700 = .ok (.aload_n 0, 1) := by decide +kernel
theorem dL_law_701 : decode cL_law 701 = .ok (.iload 4, 2) := by decide +kernel
theorem dL_law_703 : decode cL_law 703 = .ok (.iconst 1, 1) := by decide +kernel
theorem dL_law_704 : decode cL_law 704 = .ok (.iadd, 1) := by decide +kernel
theorem dL_law_705 : decode cL_law 705 = .ok (.iaload, 1) := by decide +kernel
theorem dL_law_706 : decode cL_law 706 = .ok (.invokevirtual 98, 3) := by decide +kernel
theorem dL_law_709 : decode cL_law 709 = .ok (.if_icmp .eq 723, 3) := by decide +kernel
theorem dL_law_712 : decode cL_law 712 = .ok (.iconst 0, 1) := by decide +kernel
theorem dL_law_713 : decode cL_law 713 = .ok (.ireturn, 1) := by decide +kernel
theorem dL_law_714 : decode cL_law 714 = .ok (.aload_n 1, 1) := by decide +kernel
theorem dL_law_715 : decode cL_law 715 = .ok (.invokevirtual 99, 3) := by decide +kernel
theorem dL_law_718 : decode cL_law 718 = .ok (.aload_n 2, 1) := by decide +kernel
theorem dL_law_719 : decode cL_law 719 = .ok (.invokevirtual 102, 3) := by decide +kernel
theorem dL_law_722 : decode cL_law 722 = .ok (.if_icmp .eq 710, 3) := by decide +kernel
theorem dL_law_725 : decode cL_law 725 = .ok (.iconst 0, 1) := by decide +kernel
theorem dL_law_726 : decode cL_law 726 = .ok (.ireturn, 1) := by decide +kernel
theorem dL_law_727 : decode cL_law 727 = .ok (.aload_n 1, 1) := by decide +kernel
theorem dL_law_728 : decode cL_law 728 = .ok (.aload_n 0, 1) := by decide +kernel
theorem dL_law_729 : decode cL_law 729 = .ok (.iload 4, 2) := by decide +kernel
theorem dL_law_731 : decode cL_law 731 = .ok (.iconst 1, 1) := by decide +kernel
theorem dL_law_732 : decode cL_law 732 = .ok (.iadd, 1) := by decide +kernel
theorem dL_law_733 : decode cL_law 733 = .ok (.iaload, 1) := by decide +kernel
theorem dL_law_734 : decode cL_law 734 = .ok (.aload_n 0, 1) := by decide +kernel
theorem dL_law_735 : decode cL_law 735 = .ok (.iload 4, 2) := by decide +kernel
theorem dL_law_737 : decode cL_law 737 = .ok (.iconst 2, 1) := by decide +kernel
theorem dL_law_738 : decode cL_law 738 = .ok (.iadd, 1) := by decide +kernel
theorem dL_law_739 : decode cL_law 739 = .ok (.iaload, 1) := by decide +kernel
theorem dL_law_740 : decode cL_law 740 = .ok (.aload_n 0, 1) := by decide +kernel
theorem dL_law_741 : decode cL_law 741 = .ok (.iload 4, 2) := by decide +kernel
theorem dL_law_743 : decode cL_law 743 = .ok (.iconst 3, 1) := by decide +kernel
theorem dL_law_744 : decode cL_law 744 = .ok (.iadd, 1) := by decide +kernel
theorem dL_law_745 : decode cL_law 745 = .ok (.iaload, 1) := by decide +kernel
theorem dL_law_746 : decode cL_law 746 = .ok (.aload_n 0, 1) := by decide +kernel
theorem dL_law_747 : decode cL_law 747 = .ok (.iload 4, 2) := by decide +kernel
theorem dL_law_749 : decode cL_law 749 = .ok (.iconst 4, 1) := by decide +kernel
theorem dL_law_750 : decode cL_law 750 = .ok (.iadd, 1) := by decide +kernel
theorem dL_law_751 : decode cL_law 751 = .ok (.iaload, 1) := by decide +kernel
theorem dL_law_752 : decode cL_law 752 = .ok (.aload_n 0, 1) := by decide +kernel
theorem dL_law_753 : decode cL_law 753 = .ok (.iload 4, 2) := by decide +kernel
theorem dL_law_755 : decode cL_law 755 = .ok (.iconst 5, 1) := by decide +kernel
theorem dL_law_756 : decode cL_law 756 = .ok (.iadd, 1) := by decide +kernel
theorem dL_law_757 : decode cL_law 757 = .ok (.iaload, 1) := by decide +kernel
theorem dL_law_758 : decode cL_law 758 = .ok (.ifCond .eq 7, 3) := by decide +kernel
theorem dL_law_761 : decode cL_law 761 = .ok (.iconst 1, 1) := by decide +kernel
theorem dL_law_762 : decode cL_law 762 = .ok (.goto 4, 3) := by decide +kernel
theorem dL_law_765 : decode cL_law 765 = .ok (.iconst 0, 1) := by decide +kernel
theorem dL_law_766 : decode cL_law 766 = .ok (.aload_n 3, 1) := by decide +kernel
theorem dL_law_767 : decode cL_law 767 = .ok (.invokestatic 103, 3) := by decide +kernel
theorem dL_law_770 : decode cL_law 770 = .ok (.istore 5, 2) := by decide +kernel
theorem dL_law_772 : decode cL_law 772 = .ok (.aload_n 2, 1) := by decide +kernel
theorem dL_law_773 : decode cL_law 773 = .ok (.aload_n 0, 1) := by decide +kernel
theorem dL_law_774 : decode cL_law 774 = .ok (.iload 4, 2) := by decide +kernel
theorem dL_law_776 : decode cL_law 776 = .ok (.iconst 1, 1) := by decide +kernel
theorem dL_law_777 : decode cL_law 777 = .ok (.iadd, 1) := by decide +kernel
theorem dL_law_778 : decode cL_law 778 = .ok (.iaload, 1) := by decide +kernel
theorem dL_law_779 : decode cL_law 779 = .ok (.aload_n 0, 1) := by decide +kernel
theorem dL_law_780 : decode cL_law 780 = .ok (.iload 4, 2) := by decide +kernel
theorem dL_law_782 : decode cL_law 782 = .ok (.iconst 2, 1) := by decide +kernel
theorem dL_law_783 : decode cL_law 783 = .ok (.iadd, 1) := by decide +kernel
theorem dL_law_784 : decode cL_law 784 = .ok (.iaload, 1) := by decide +kernel
theorem dL_law_785 : decode cL_law 785 = .ok (.aload_n 0, 1) := by decide +kernel
theorem dL_law_786 : decode cL_law 786 = .ok (.iload 4, 2) := by decide +kernel
theorem dL_law_788 : decode cL_law 788 = .ok (.iconst 3, 1) := by decide +kernel
theorem dL_law_789 : decode cL_law 789 = .ok (.iadd, 1) := by decide +kernel
theorem dL_law_790 : decode cL_law 790 = .ok (.iaload, 1) := by decide +kernel
theorem dL_law_791 : decode cL_law 791 = .ok (.aload_n 0, 1) := by decide +kernel
theorem dL_law_792 : decode cL_law 792 = .ok (.iload 4, 2) := by decide +kernel
theorem dL_law_794 : decode cL_law 794 = .ok (.iconst 4, 1) := by decide +kernel
theorem dL_law_795 : decode cL_law 795 = .ok (.iadd, 1) := by decide +kernel
theorem dL_law_796 : decode cL_law 796 = .ok (.iaload, 1) := by decide +kernel
theorem dL_law_797 : decode cL_law 797 = .ok (.aload_n 0, 1) := by decide +kernel
theorem dL_law_798 : decode cL_law 798 = .ok (.iload 4, 2) := by decide +kernel
theorem dL_law_800 : decode cL_law 800 = .ok (.iconst 5, 1) := by decide +kernel
theorem dL_law_801 : decode cL_law 801 = .ok (.iadd, 1) := by decide +kernel
theorem dL_law_802 : decode cL_law 802 = .ok (.iaload, 1) := by decide +kernel
theorem dL_law_803 : decode cL_law 803 = .ok (.ifCond .eq 7, 3) := by decide +kernel
theorem dL_law_806 : decode cL_law 806 = .ok (.iconst 1, 1) := by decide +kernel
theorem dL_law_807 : decode cL_law 807 = .ok (.goto 4, 3) := by decide +kernel
theorem dL_law_810 : decode cL_law 810 = .ok (.iconst 0, 1) := by decide +kernel
theorem dL_law_811 : decode cL_law 811 = .ok (.invokevirtual 106, 3) := by decide +kernel
theorem dL_law_814 : decode cL_law 814 = .ok (.lstore 6, 2) := by decide +kernel
theorem dL_law_816 : decode cL_law 816 = .ok (.aload_n 2, 1) := by decide +kernel
theorem dL_law_817 : decode cL_law 817 = .ok (.invokevirtual 63, 3) := by decide +kernel
theorem dL_law_820 : decode cL_law 820 = .ok (.iload 5, 2) := by decide +kernel
theorem dL_law_822 : decode cL_law 822 = .ok (.if_icmp .eq 5, 3) := by decide +kernel
theorem dL_law_825 : decode cL_law 825 = .ok (.iconst 0, 1) := by decide +kernel
theorem dL_law_826 : decode cL_law 826 = .ok (.ireturn, 1) := by decide +kernel
theorem dL_law_827 : decode cL_law 827 = .ok (.iload 5, 2) := by decide +kernel
theorem dL_law_829 : decode cL_law 829 = .ok (.ifCond .ne 14, 3) := by decide +kernel
theorem dL_law_832 : decode cL_law 832 = .ok (.aload_n 3, 1) := by decide +kernel
theorem dL_law_833 : decode cL_law 833 = .ok (.iconst 0, 1) := by decide +kernel
theorem dL_law_834 : decode cL_law 834 = .ok (.laload, 1) := by decide +kernel
theorem dL_law_835 : decode cL_law 835 = .ok (.lload 6, 2) := by decide +kernel
theorem dL_law_837 : decode cL_law 837 = .ok (.lcmp, 1) := by decide +kernel
theorem dL_law_838 : decode cL_law 838 = .ok (.ifCond .eq 5, 3) := by decide +kernel
theorem dL_law_841 : decode cL_law 841 = .ok (.iconst 0, 1) := by decide +kernel
theorem dL_law_842 : decode cL_law 842 = .ok (.ireturn, 1) := by decide +kernel
theorem dL_law_843 : decode cL_law 843 = .ok (.goto 589, 3) := by decide +kernel
theorem dL_law_846 : decode cL_law 846 = .ok (.aload_n 1, 1) := by decide +kernel
theorem dL_law_847 : decode cL_law 847 = .ok (.aload_n 0, 1) := by decide +kernel
theorem dL_law_848 : decode cL_law 848 = .ok (.iload 4, 2) := by decide +kernel
theorem dL_law_850 : decode cL_law 850 = .ok (.iconst 1, 1) := by decide +kernel
theorem dL_law_851 : decode cL_law 851 = .ok (.iadd, 1) := by decide +kernel
theorem dL_law_852 : decode cL_law 852 = .ok (.iaload, 1) := by decide +kernel
theorem dL_law_853 : decode cL_law 853 = .ok (.aload_n 0, 1) := by decide +kernel
theorem dL_law_854 : decode cL_law 854 = .ok (.iload 4, 2) := by decide +kernel
theorem dL_law_856 : decode cL_law 856 = .ok (.iconst 2, 1) := by decide +kernel
theorem dL_law_857 : decode cL_law 857 = .ok (.iadd, 1) := by decide +kernel
theorem dL_law_858 : decode cL_law 858 = .ok (.iaload, 1) := by decide +kernel
theorem dL_law_859 : decode cL_law 859 = .ok (.aload_n 0, 1) := by decide +kernel
theorem dL_law_860 : decode cL_law 860 = .ok (.iload 4, 2) := by decide +kernel
theorem dL_law_862 : decode cL_law 862 = .ok (.iconst 3, 1) := by decide +kernel
theorem dL_law_863 : decode cL_law 863 = .ok (.iadd, 1) := by decide +kernel
theorem dL_law_864 : decode cL_law 864 = .ok (.iaload, 1) := by decide +kernel
theorem dL_law_865 : decode cL_law 865 = .ok (.invokevirtual 107, 3) := by decide +kernel
theorem dL_law_868 : decode cL_law 868 = .ok (.aload_n 2, 1) := by decide +kernel
theorem dL_law_869 : decode cL_law 869 = .ok (.aload_n 0, 1) := by decide +kernel
theorem dL_law_870 : decode cL_law 870 = .ok (.iload 4, 2) := by decide +kernel
theorem dL_law_872 : decode cL_law 872 = .ok (.iconst 1, 1) := by decide +kernel
theorem dL_law_873 : decode cL_law 873 = .ok (.iadd, 1) := by decide +kernel
theorem dL_law_874 : decode cL_law 874 = .ok (.iaload, 1) := by decide +kernel
theorem dL_law_875 : decode cL_law 875 = .ok (.aload_n 0, 1) := by decide +kernel
theorem dL_law_876 : decode cL_law 876 = .ok (.iload 4, 2) := by decide +kernel
theorem dL_law_878 : decode cL_law 878 = .ok (.iconst 2, 1) := by decide +kernel
theorem dL_law_879 : decode cL_law 879 = .ok (.iadd, 1) := by decide +kernel
theorem dL_law_880 : decode cL_law 880 = .ok (.iaload, 1) := by decide +kernel
theorem dL_law_881 : decode cL_law 881 = .ok (.aload_n 0, 1) := by decide +kernel
theorem dL_law_882 : decode cL_law 882 = .ok (.iload 4, 2) := by decide +kernel
theorem dL_law_884 : decode cL_law 884 = .ok (.iconst 3, 1) := by decide +kernel
theorem dL_law_885 : decode cL_law 885 = .ok (.iadd, 1) := by decide +kernel
theorem dL_law_886 : decode cL_law 886 = .ok (.iaload, 1) := by decide +kernel
theorem dL_law_887 : decode cL_law 887 = .ok (.invokevirtual 110, 3) := by decide +kernel
theorem dL_law_890 : decode cL_law 890 = .ok (.if_icmp .eq 542, 3) := by decide +kernel
theorem dL_law_893 : decode cL_law 893 = .ok (.iconst 0, 1) := by decide +kernel
theorem dL_law_894 : decode cL_law 894 = .ok (.ireturn, 1) := by decide +kernel
theorem dL_law_895 : decode cL_law 895 = .ok (.aload_n 1, 1) := by decide +kernel
theorem dL_law_896 : decode cL_law 896 = .ok (.aload_n 0, 1) := by decide +kernel
theorem dL_law_897 : decode cL_law 897 = .ok (.iload 4, 2) := by decide +kernel
theorem dL_law_899 : decode cL_law 899 = .ok (.iconst 1, 1) := by decide +kernel
theorem dL_law_900 : decode cL_law 900 = .ok (.iadd, 1) := by decide +kernel
theorem dL_law_901 : decode cL_law 901 = .ok (.iaload, 1) := by decide +kernel
theorem dL_law_902 : decode cL_law 902 = .ok (.aload_n 0, 1) := by decide +kernel
theorem dL_law_903 : decode cL_law 903 = .ok (.iload 4, 2) := by decide +kernel
theorem dL_law_905 : decode cL_law 905 = .ok (.iconst 2, 1) := by decide +kernel
theorem dL_law_906 : decode cL_law 906 = .ok (.iadd, 1) := by decide +kernel
theorem dL_law_907 : decode cL_law 907 = .ok (.iaload, 1) := by decide +kernel
theorem dL_law_908 : decode cL_law 908 = .ok (.invokevirtual 111, 3) := by decide +kernel
theorem dL_law_911 : decode cL_law 911 = .ok (.aload_n 2, 1) := by decide +kernel
theorem dL_law_912 : decode cL_law 912 = .ok (.aload_n 0, 1) := by decide +kernel
theorem dL_law_913 : decode cL_law 913 = .ok (.iload 4, 2) := by decide +kernel
theorem dL_law_915 : decode cL_law 915 = .ok (.iconst 1, 1) := by decide +kernel
theorem dL_law_916 : decode cL_law 916 = .ok (.iadd, 1) := by decide +kernel
theorem dL_law_917 : decode cL_law 917 = .ok (.iaload, 1) := by decide +kernel
theorem dL_law_918 : decode cL_law 918 = .ok (.aload_n 0, 1) := by decide +kernel
theorem dL_law_919 : decode cL_law 919 = .ok (.iload 4, 2) := by decide +kernel
theorem dL_law_921 : decode cL_law 921 = .ok (.iconst 2, 1) := by decide +kernel
theorem dL_law_922 : decode cL_law 922 = .ok (.iadd, 1) := by decide +kernel
theorem dL_law_923 : decode cL_law 923 = .ok (.iaload, 1) := by decide +kernel
theorem dL_law_924 : decode cL_law 924 = .ok (.invokevirtual 114, 3) := by decide +kernel
theorem dL_law_927 : decode cL_law 927 = .ok (.if_icmp .eq 505, 3) := by decide +kernel
theorem dL_law_930 : decode cL_law 930 = .ok (.iconst 0, 1) := by decide +kernel
theorem dL_law_931 : decode cL_law 931 = .ok (.ireturn, 1) := by decide +kernel
theorem dL_law_932 : decode cL_law 932 = .ok (.aload_n 1, 1) := by decide +kernel
theorem dL_law_933 : decode cL_law 933 = .ok (.invokevirtual 115, 3) := by decide +kernel
theorem dL_law_936 : decode cL_law 936 = .ok (.aload_n 2, 1) := by decide +kernel
theorem dL_law_937 : decode cL_law 937 = .ok (.invokevirtual 118, 3) := by decide +kernel
theorem dL_law_940 : decode cL_law 940 = .ok (.if_icmp .eq 492, 3) := by decide +kernel
theorem dL_law_943 : decode cL_law 943 = .ok (.iconst 0, 1) := by decide +kernel
theorem dL_law_944 : decode cL_law 944 = .ok (.ireturn, 1) := by decide +kernel
theorem dL_law_945 : decode cL_law 945 = .ok (.aload_n 1, 1) := by decide +kernel
theorem dL_law_946 : decode cL_law 946 = .ok (.aload_n 0, 1) := by decide +kernel
theorem dL_law_947 : decode cL_law 947 = .ok (.iload 4, 2) := by decide +kernel
theorem dL_law_949 : decode cL_law 949 = .ok (.iconst 1, 1) := by decide +kernel
theorem dL_law_950 : decode cL_law 950 = .ok (.iadd, 1) := by decide +kernel
theorem dL_law_951 : decode cL_law 951 = .ok (.iaload, 1) := by decide +kernel
theorem dL_law_952 : decode cL_law 952 = .ok (.aload_n 0, 1) := by decide +kernel
theorem dL_law_953 : decode cL_law 953 = .ok (.iload 4, 2) := by decide +kernel
theorem dL_law_955 : decode cL_law 955 = .ok (.iconst 2, 1) := by decide +kernel
theorem dL_law_956 : decode cL_law 956 = .ok (.iadd, 1) := by decide +kernel
theorem dL_law_957 : decode cL_law 957 = .ok (.iaload, 1) := by decide +kernel
theorem dL_law_958 : decode cL_law 958 = .ok (.invokevirtual 119, 3) := by decide +kernel
theorem dL_law_961 : decode cL_law 961 = .ok (.aload_n 2, 1) := by decide +kernel
theorem dL_law_962 : decode cL_law 962 = .ok (.aload_n 0, 1) := by decide +kernel
theorem dL_law_963 : decode cL_law 963 = .ok (.iload 4, 2) := by decide +kernel
theorem dL_law_965 : decode cL_law 965 = .ok (.iconst 1, 1) := by decide +kernel
theorem dL_law_966 : decode cL_law 966 = .ok (.iadd, 1) := by decide +kernel
theorem dL_law_967 : decode cL_law 967 = .ok (.iaload, 1) := by decide +kernel
theorem dL_law_968 : decode cL_law 968 = .ok (.aload_n 0, 1) := by decide +kernel
theorem dL_law_969 : decode cL_law 969 = .ok (.iload 4, 2) := by decide +kernel
theorem dL_law_971 : decode cL_law 971 = .ok (.iconst 2, 1) := by decide +kernel
theorem dL_law_972 : decode cL_law 972 = .ok (.iadd, 1) := by decide +kernel
theorem dL_law_973 : decode cL_law 973 = .ok (.iaload, 1) := by decide +kernel
theorem dL_law_974 : decode cL_law 974 = .ok (.invokevirtual 122, 3) := by decide +kernel
theorem dL_law_977 : decode cL_law 977 = .ok (.if_icmp .eq 455, 3) := by decide +kernel
theorem dL_law_980 : decode cL_law 980 = .ok (.iconst 0, 1) := by decide +kernel
theorem dL_law_981 : decode cL_law 981 = .ok (.ireturn, 1) := by decide +kernel
theorem dL_law_982 : decode cL_law 982 = .ok (.aload_n 1, 1) := by decide +kernel
theorem dL_law_983 : decode cL_law 983 = .ok (.aload_n 0, 1) := by decide +kernel
theorem dL_law_984 : decode cL_law 984 = .ok (.iload 4, 2) := by decide +kernel
theorem dL_law_986 : decode cL_law 986 = .ok (.iconst 1, 1) := by decide +kernel
theorem dL_law_987 : decode cL_law 987 = .ok (.iadd, 1) := by decide +kernel
theorem dL_law_988 : decode cL_law 988 = .ok (.iaload, 1) := by decide +kernel
theorem dL_law_989 : decode cL_law 989 = .ok (.aload_n 0, 1) := by decide +kernel
theorem dL_law_990 : decode cL_law 990 = .ok (.iload 4, 2) := by decide +kernel
theorem dL_law_992 : decode cL_law 992 = .ok (.iconst 2, 1) := by decide +kernel
theorem dL_law_993 : decode cL_law 993 = .ok (.iadd, 1) := by decide +kernel
theorem dL_law_994 : decode cL_law 994 = .ok (.iaload, 1) := by decide +kernel
theorem dL_law_995 : decode cL_law 995 = .ok (.invokevirtual 123, 3) := by decide +kernel
theorem dL_law_998 : decode cL_law 998 = .ok (.aload_n 2, 1) := by decide +kernel
theorem dL_law_999 : decode cL_law 999 = .ok (.aload_n 0, 1) := by decide +kernel
theorem dL_law_1000 : decode cL_law 1000 = .ok (.iload 4, 2) := by decide +kernel
theorem dL_law_1002 : decode cL_law 1002 = .ok (.iconst 1, 1) := by decide +kernel
theorem dL_law_1003 : decode cL_law 1003 = .ok (.iadd, 1) := by decide +kernel
theorem dL_law_1004 : decode cL_law 1004 = .ok (.iaload, 1) := by decide +kernel
theorem dL_law_1005 : decode cL_law 1005 = .ok (.aload_n 0, 1) := by decide +kernel
theorem dL_law_1006 : decode cL_law 1006 = .ok (.iload 4, 2) := by decide +kernel
theorem dL_law_1008 : decode cL_law 1008 = .ok (.iconst 2, 1) := by decide +kernel
theorem dL_law_1009 : decode cL_law 1009 = .ok (.iadd, 1) := by decide +kernel
theorem dL_law_1010 : decode cL_law 1010 = .ok (.iaload, 1) := by decide +kernel
theorem dL_law_1011 : decode cL_law 1011 = .ok (.invokevirtual 126, 3) := by decide +kernel
theorem dL_law_1014 : decode cL_law 1014 = .ok (.if_icmp .eq 418, 3) := by decide +kernel
theorem dL_law_1017 : decode cL_law 1017 = .ok (.iconst 0, 1) := by decide +kernel
theorem dL_law_1018 : decode cL_law 1018 = .ok (.ireturn, 1) := by decide +kernel
theorem dL_law_1019 : decode cL_law 1019 = .ok (.aload_n 1, 1) := by decide +kernel
theorem dL_law_1020 : decode cL_law 1020 = .ok (.aload_n 0, 1) := by decide +kernel
theorem dL_law_1021 : decode cL_law 1021 = .ok (.iload 4, 2) := by decide +kernel
theorem dL_law_1023 : decode cL_law 1023 = .ok (.iconst 1, 1) := by decide +kernel
theorem dL_law_1024 : decode cL_law 1024 = .ok (.iadd, 1) := by decide +kernel
theorem dL_law_1025 : decode cL_law 1025 = .ok (.iaload, 1) := by decide +kernel
theorem dL_law_1026 : decode cL_law 1026 = .ok (.aload_n 0, 1) := by decide +kernel
theorem dL_law_1027 : decode cL_law 1027 = .ok (.iload 4, 2) := by decide +kernel
theorem dL_law_1029 : decode cL_law 1029 = .ok (.iconst 2, 1) := by decide +kernel
theorem dL_law_1030 : decode cL_law 1030 = .ok (.iadd, 1) := by decide +kernel
theorem dL_law_1031 : decode cL_law 1031 = .ok (.iaload, 1) := by decide +kernel
theorem dL_law_1032 : decode cL_law 1032 = .ok (.invokevirtual 127, 3) := by decide +kernel
theorem dL_law_1035 : decode cL_law 1035 = .ok (.aload_n 2, 1) := by decide +kernel
theorem dL_law_1036 : decode cL_law 1036 = .ok (.aload_n 0, 1) := by decide +kernel
theorem dL_law_1037 : decode cL_law 1037 = .ok (.iload 4, 2) := by decide +kernel
theorem dL_law_1039 : decode cL_law 1039 = .ok (.iconst 1, 1) := by decide +kernel
theorem dL_law_1040 : decode cL_law 1040 = .ok (.iadd, 1) := by decide +kernel
theorem dL_law_1041 : decode cL_law 1041 = .ok (.iaload, 1) := by decide +kernel
theorem dL_law_1042 : decode cL_law 1042 = .ok (.aload_n 0, 1) := by decide +kernel
theorem dL_law_1043 : decode cL_law 1043 = .ok (.iload 4, 2) := by decide +kernel
theorem dL_law_1045 : decode cL_law 1045 = .ok (.iconst 2, 1) := by decide +kernel
theorem dL_law_1046 : decode cL_law 1046 = .ok (.iadd, 1) := by decide +kernel
theorem dL_law_1047 : decode cL_law 1047 = .ok (.iaload, 1) := by decide +kernel
theorem dL_law_1048 : decode cL_law 1048 = .ok (.invokevirtual 130, 3) := by decide +kernel
theorem dL_law_1051 : decode cL_law 1051 = .ok (.if_icmp .eq 381, 3) := by decide +kernel
theorem dL_law_1054 : decode cL_law 1054 = .ok (.iconst 0, 1) := by decide +kernel
theorem dL_law_1055 : decode cL_law 1055 = .ok (.ireturn, 1) := by decide +kernel
theorem dL_law_1056 : decode cL_law 1056 = .ok (.aload_n 1, 1) := by decide +kernel
theorem dL_law_1057 : decode cL_law 1057 = .ok (.aload_n 0, 1) := by decide +kernel
theorem dL_law_1058 : decode cL_law 1058 = .ok (.iload 4, 2) := by decide +kernel
theorem dL_law_1060 : decode cL_law 1060 = .ok (.iconst 1, 1) := by decide +kernel
theorem dL_law_1061 : decode cL_law 1061 = .ok (.iadd, 1) := by decide +kernel
theorem dL_law_1062 : decode cL_law 1062 = .ok (.iaload, 1) := by decide +kernel
theorem dL_law_1063 : decode cL_law 1063 = .ok (.invokevirtual 131, 3) := by decide +kernel
theorem dL_law_1066 : decode cL_law 1066 = .ok (.aload_n 2, 1) := by decide +kernel
theorem dL_law_1067 : decode cL_law 1067 = .ok (.aload_n 0, 1) := by decide +kernel
theorem dL_law_1068 : decode cL_law 1068 = .ok (.iload 4, 2) := by decide +kernel
theorem dL_law_1070 : decode cL_law 1070 = .ok (.iconst 1, 1) := by decide +kernel
theorem dL_law_1071 : decode cL_law 1071 = .ok (.iadd, 1) := by decide +kernel
theorem dL_law_1072 : decode cL_law 1072 = .ok (.iaload, 1) := by decide +kernel
theorem dL_law_1073 : decode cL_law 1073 = .ok (.invokevirtual 134, 3) := by decide +kernel
theorem dL_law_1076 : decode cL_law 1076 = .ok (.if_icmp .eq 356, 3) := by decide +kernel
theorem dL_law_1079 : decode cL_law 1079 = .ok (.iconst 0, 1) := by decide +kernel
theorem dL_law_1080 : decode cL_law 1080 = .ok (.ireturn, 1) := by decide +kernel
theorem dL_law_1081 : decode cL_law 1081 = .ok (.aload_n 1, 1) := by decide +kernel
theorem dL_law_1082 : decode cL_law 1082 = .ok (.aload_n 0, 1) := by decide +kernel
theorem dL_law_1083 : decode cL_law 1083 = .ok (.iload 4, 2) := by decide +kernel
theorem dL_law_1085 : decode cL_law 1085 = .ok (.iconst 1, 1) := by decide +kernel
theorem dL_law_1086 : decode cL_law 1086 = .ok (.iadd, 1) := by decide +kernel
theorem dL_law_1087 : decode cL_law 1087 = .ok (.iaload, 1) := by decide +kernel
theorem dL_law_1088 : decode cL_law 1088 = .ok (.invokevirtual 135, 3) := by decide +kernel
theorem dL_law_1091 : decode cL_law 1091 = .ok (.aload_n 2, 1) := by decide +kernel
theorem dL_law_1092 : decode cL_law 1092 = .ok (.aload_n 0, 1) := by decide +kernel
theorem dL_law_1093 : decode cL_law 1093 = .ok (.iload 4, 2) := by decide +kernel
theorem dL_law_1095 : decode cL_law 1095 = .ok (.iconst 1, 1) := by decide +kernel
theorem dL_law_1096 : decode cL_law 1096 = .ok (.iadd, 1) := by decide +kernel
theorem dL_law_1097 : decode cL_law 1097 = .ok (.iaload, 1) := by decide +kernel
theorem dL_law_1098 : decode cL_law 1098 = .ok (.invokevirtual 138, 3) := by decide +kernel
theorem dL_law_1101 : decode cL_law 1101 = .ok (.if_icmp .eq 331, 3) := by decide +kernel
theorem dL_law_1104 : decode cL_law 1104 = .ok (.iconst 0, 1) := by decide +kernel
theorem dL_law_1105 : decode cL_law 1105 = .ok (.ireturn, 1) := by decide +kernel
theorem dL_law_1106 : decode cL_law 1106 = .ok (.aload_n 1, 1) := by decide +kernel
theorem dL_law_1107 : decode cL_law 1107 = .ok (.invokevirtual 139, 3) := by decide +kernel
theorem dL_law_1110 : decode cL_law 1110 = .ok (.aload_n 2, 1) := by decide +kernel
theorem dL_law_1111 : decode cL_law 1111 = .ok (.invokevirtual 142, 3) := by decide +kernel
theorem dL_law_1114 : decode cL_law 1114 = .ok (.if_icmp .eq 318, 3) := by decide +kernel
theorem dL_law_1117 : decode cL_law 1117 = .ok (.iconst 0, 1) := by decide +kernel
theorem dL_law_1118 : decode cL_law 1118 = .ok (.ireturn, 1) := by decide +kernel
theorem dL_law_1119 : decode cL_law 1119 = .ok (.aload_n 1, 1) := by decide +kernel
theorem dL_law_1120 : decode cL_law 1120 = .ok (.aload_n 0, 1) := by decide +kernel
theorem dL_law_1121 : decode cL_law 1121 = .ok (.iload 4, 2) := by decide +kernel
theorem dL_law_1123 : decode cL_law 1123 = .ok (.iconst 1, 1) := by decide +kernel
theorem dL_law_1124 : decode cL_law 1124 = .ok (.iadd, 1) := by decide +kernel
theorem dL_law_1125 : decode cL_law 1125 = .ok (.iaload, 1) := by decide +kernel
theorem dL_law_1126 : decode cL_law 1126 = .ok (.invokevirtual 143, 3) := by decide +kernel
theorem dL_law_1129 : decode cL_law 1129 = .ok (.aload_n 2, 1) := by decide +kernel
theorem dL_law_1130 : decode cL_law 1130 = .ok (.aload_n 0, 1) := by decide +kernel
theorem dL_law_1131 : decode cL_law 1131 = .ok (.iload 4, 2) := by decide +kernel
theorem dL_law_1133 : decode cL_law 1133 = .ok (.iconst 1, 1) := by decide +kernel
theorem dL_law_1134 : decode cL_law 1134 = .ok (.iadd, 1) := by decide +kernel
theorem dL_law_1135 : decode cL_law 1135 = .ok (.iaload, 1) := by decide +kernel
theorem dL_law_1136 : decode cL_law 1136 = .ok (.invokevirtual 146, 3) := by decide +kernel
theorem dL_law_1139 : decode cL_law 1139 = .ok (.if_icmp .eq 293, 3) := by decide +kernel
theorem dL_law_1142 : decode cL_law 1142 = .ok (.iconst 0, 1) := by decide +kernel
theorem dL_law_1143 : decode cL_law 1143 = .ok (.ireturn, 1) := by decide +kernel
theorem dL_law_1144 : decode cL_law 1144 = .ok (.aload_n 1, 1) := by decide +kernel
theorem dL_law_1145 : decode cL_law 1145 = .ok (.aload_n 0, 1) := by decide +kernel
theorem dL_law_1146 : decode cL_law 1146 = .ok (.iload 4, 2) := by decide +kernel
theorem dL_law_1148 : decode cL_law 1148 = .ok (.iconst 1, 1) := by decide +kernel
theorem dL_law_1149 : decode cL_law 1149 = .ok (.iadd, 1) := by decide +kernel
theorem dL_law_1150 : decode cL_law 1150 = .ok (.iaload, 1) := by decide +kernel
theorem dL_law_1151 : decode cL_law 1151 = .ok (.aload_n 0, 1) := by decide +kernel
theorem dL_law_1152 : decode cL_law 1152 = .ok (.iload 4, 2) := by decide +kernel
theorem dL_law_1154 : decode cL_law 1154 = .ok (.iconst 2, 1) := by decide +kernel
theorem dL_law_1155 : decode cL_law 1155 = .ok (.iadd, 1) := by decide +kernel
theorem dL_law_1156 : decode cL_law 1156 = .ok (.iaload, 1) := by decide +kernel
theorem dL_law_1157 : decode cL_law 1157 = .ok (.aload_n 0, 1) := by decide +kernel
theorem dL_law_1158 : decode cL_law 1158 = .ok (.iload 4, 2) := by decide +kernel
theorem dL_law_1160 : decode cL_law 1160 = .ok (.iconst 3, 1) := by decide +kernel
theorem dL_law_1161 : decode cL_law 1161 = .ok (.iadd, 1) := by decide +kernel
theorem dL_law_1162 : decode cL_law 1162 = .ok (.iaload, 1) := by decide +kernel
theorem dL_law_1163 : decode cL_law 1163 = .ok (.invokevirtual 147, 3) := by decide +kernel
theorem dL_law_1166 : decode cL_law 1166 = .ok (.aload_n 2, 1) := by decide +kernel
theorem dL_law_1167 : decode cL_law 1167 = .ok (.aload_n 0, 1) := by decide +kernel
theorem dL_law_1168 : decode cL_law 1168 = .ok (.iload 4, 2) := by decide +kernel
theorem dL_law_1170 : decode cL_law 1170 = .ok (.iconst 1, 1) := by decide +kernel
theorem dL_law_1171 : decode cL_law 1171 = .ok (.iadd, 1) := by decide +kernel
theorem dL_law_1172 : decode cL_law 1172 = .ok (.iaload, 1) := by decide +kernel
theorem dL_law_1173 : decode cL_law 1173 = .ok (.aload_n 0, 1) := by decide +kernel
theorem dL_law_1174 : decode cL_law 1174 = .ok (.iload 4, 2) := by decide +kernel
theorem dL_law_1176 : decode cL_law 1176 = .ok (.iconst 2, 1) := by decide +kernel
theorem dL_law_1177 : decode cL_law 1177 = .ok (.iadd, 1) := by decide +kernel
theorem dL_law_1178 : decode cL_law 1178 = .ok (.iaload, 1) := by decide +kernel
theorem dL_law_1179 : decode cL_law 1179 = .ok (.aload_n 0, 1) := by decide +kernel
theorem dL_law_1180 : decode cL_law 1180 = .ok (.iload 4, 2) := by decide +kernel
theorem dL_law_1182 : decode cL_law 1182 = .ok (.iconst 3, 1) := by decide +kernel
theorem dL_law_1183 : decode cL_law 1183 = .ok (.iadd, 1) := by decide +kernel
theorem dL_law_1184 : decode cL_law 1184 = .ok (.iaload, 1) := by decide +kernel
theorem dL_law_1185 : decode cL_law 1185 = .ok (.invokevirtual 150, 3) := by decide +kernel
theorem dL_law_1188 : decode cL_law 1188 = .ok (.if_icmp .eq 244, 3) := by decide +kernel
theorem dL_law_1191 : decode cL_law 1191 = .ok (.iconst 0, 1) := by decide +kernel
theorem dL_law_1192 : decode cL_law 1192 = .ok (.ireturn, 1) := by decide +kernel
theorem dL_law_1193 : decode cL_law 1193 = .ok (.aload_n 1, 1) := by decide +kernel
theorem dL_law_1194 : decode cL_law 1194 = .ok (.aload_n 0, 1) := by decide +kernel
theorem dL_law_1195 : decode cL_law 1195 = .ok (.iload 4, 2) := by decide +kernel
theorem dL_law_1197 : decode cL_law 1197 = .ok (.iconst 1, 1) := by decide +kernel
theorem dL_law_1198 : decode cL_law 1198 = .ok (.iadd, 1) := by decide +kernel
theorem dL_law_1199 : decode cL_law 1199 = .ok (.iaload, 1) := by decide +kernel
theorem dL_law_1200 : decode cL_law 1200 = .ok (.aload_n 0, 1) := by decide +kernel
theorem dL_law_1201 : decode cL_law 1201 = .ok (.iload 4, 2) := by decide +kernel
theorem dL_law_1203 : decode cL_law 1203 = .ok (.iconst 2, 1) := by decide +kernel
theorem dL_law_1204 : decode cL_law 1204 = .ok (.iadd, 1) := by decide +kernel
theorem dL_law_1205 : decode cL_law 1205 = .ok (.iaload, 1) := by decide +kernel
theorem dL_law_1206 : decode cL_law 1206 = .ok (.aload_n 0, 1) := by decide +kernel
theorem dL_law_1207 : decode cL_law 1207 = .ok (.iload 4, 2) := by decide +kernel
theorem dL_law_1209 : decode cL_law 1209 = .ok (.iconst 3, 1) := by decide +kernel
theorem dL_law_1210 : decode cL_law 1210 = .ok (.iadd, 1) := by decide +kernel
theorem dL_law_1211 : decode cL_law 1211 = .ok (.iaload, 1) := by decide +kernel
theorem dL_law_1212 : decode cL_law 1212 = .ok (.invokevirtual 151, 3) := by decide +kernel
theorem dL_law_1215 : decode cL_law 1215 = .ok (.aload_n 2, 1) := by decide +kernel
theorem dL_law_1216 : decode cL_law 1216 = .ok (.aload_n 0, 1) := by decide +kernel
theorem dL_law_1217 : decode cL_law 1217 = .ok (.iload 4, 2) := by decide +kernel
theorem dL_law_1219 : decode cL_law 1219 = .ok (.iconst 1, 1) := by decide +kernel
theorem dL_law_1220 : decode cL_law 1220 = .ok (.iadd, 1) := by decide +kernel
theorem dL_law_1221 : decode cL_law 1221 = .ok (.iaload, 1) := by decide +kernel
theorem dL_law_1222 : decode cL_law 1222 = .ok (.aload_n 0, 1) := by decide +kernel
theorem dL_law_1223 : decode cL_law 1223 = .ok (.iload 4, 2) := by decide +kernel
theorem dL_law_1225 : decode cL_law 1225 = .ok (.iconst 2, 1) := by decide +kernel
theorem dL_law_1226 : decode cL_law 1226 = .ok (.iadd, 1) := by decide +kernel
theorem dL_law_1227 : decode cL_law 1227 = .ok (.iaload, 1) := by decide +kernel
theorem dL_law_1228 : decode cL_law 1228 = .ok (.aload_n 0, 1) := by decide +kernel
theorem dL_law_1229 : decode cL_law 1229 = .ok (.iload 4, 2) := by decide +kernel
theorem dL_law_1231 : decode cL_law 1231 = .ok (.iconst 3, 1) := by decide +kernel
theorem dL_law_1232 : decode cL_law 1232 = .ok (.iadd, 1) := by decide +kernel
theorem dL_law_1233 : decode cL_law 1233 = .ok (.iaload, 1) := by decide +kernel
theorem dL_law_1234 : decode cL_law 1234 = .ok (.invokevirtual 154, 3) := by decide +kernel
theorem dL_law_1237 : decode cL_law 1237 = .ok (.if_icmp .eq 195, 3) := by decide +kernel
theorem dL_law_1240 : decode cL_law 1240 = .ok (.iconst 0, 1) := by decide +kernel
theorem dL_law_1241 : decode cL_law 1241 = .ok (.ireturn, 1) := by decide +kernel
theorem dL_law_1242 : decode cL_law 1242 = .ok (.aload_n 1, 1) := by decide +kernel
theorem dL_law_1243 : decode cL_law 1243 = .ok (.aload_n 0, 1) := by decide +kernel
theorem dL_law_1244 : decode cL_law 1244 = .ok (.iload 4, 2) := by decide +kernel
theorem dL_law_1246 : decode cL_law 1246 = .ok (.iconst 1, 1) := by decide +kernel
theorem dL_law_1247 : decode cL_law 1247 = .ok (.iadd, 1) := by decide +kernel
theorem dL_law_1248 : decode cL_law 1248 = .ok (.iaload, 1) := by decide +kernel
theorem dL_law_1249 : decode cL_law 1249 = .ok (.aload_n 0, 1) := by decide +kernel
theorem dL_law_1250 : decode cL_law 1250 = .ok (.iload 4, 2) := by decide +kernel
theorem dL_law_1252 : decode cL_law 1252 = .ok (.iconst 2, 1) := by decide +kernel
theorem dL_law_1253 : decode cL_law 1253 = .ok (.iadd, 1) := by decide +kernel
theorem dL_law_1254 : decode cL_law 1254 = .ok (.iaload, 1) := by decide +kernel
theorem dL_law_1255 : decode cL_law 1255 = .ok (.aload_n 3, 1) := by decide +kernel
theorem dL_law_1256 : decode cL_law 1256 = .ok (.invokestatic 155, 3) := by decide +kernel
theorem dL_law_1259 : decode cL_law 1259 = .ok (.istore 5, 2) := by decide +kernel
theorem dL_law_1261 : decode cL_law 1261 = .ok (.aload_n 2, 1) := by decide +kernel
theorem dL_law_1262 : decode cL_law 1262 = .ok (.aload_n 0, 1) := by decide +kernel
theorem dL_law_1263 : decode cL_law 1263 = .ok (.iload 4, 2) := by decide +kernel
theorem dL_law_1265 : decode cL_law 1265 = .ok (.iconst 1, 1) := by decide +kernel
theorem dL_law_1266 : decode cL_law 1266 = .ok (.iadd, 1) := by decide +kernel
theorem dL_law_1267 : decode cL_law 1267 = .ok (.iaload, 1) := by decide +kernel
theorem dL_law_1268 : decode cL_law 1268 = .ok (.aload_n 0, 1) := by decide +kernel
theorem dL_law_1269 : decode cL_law 1269 = .ok (.iload 4, 2) := by decide +kernel
theorem dL_law_1271 : decode cL_law 1271 = .ok (.iconst 2, 1) := by decide +kernel
theorem dL_law_1272 : decode cL_law 1272 = .ok (.iadd, 1) := by decide +kernel
theorem dL_law_1273 : decode cL_law 1273 = .ok (.iaload, 1) := by decide +kernel
theorem dL_law_1274 : decode cL_law 1274 = .ok (.invokevirtual 158, 3) := by decide +kernel
theorem dL_law_1277 : decode cL_law 1277 = .ok (.lstore 6, 2) := by decide +kernel
theorem dL_law_1279 : decode cL_law 1279 = .ok (.aload_n 2, 1) := by decide +kernel
theorem dL_law_1280 : decode cL_law 1280 = .ok (.invokevirtual 63, 3) := by decide +kernel
theorem dL_law_1283 : decode cL_law 1283 = .ok (.iload 5, 2) := by decide +kernel
theorem dL_law_1285 : decode cL_law 1285 = .ok (.if_icmp .eq 5, 3) := by decide +kernel
theorem dL_law_1288 : decode cL_law 1288 = .ok (.iconst 0, 1) := by decide +kernel
theorem dL_law_1289 : decode cL_law 1289 = .ok (.ireturn, 1) := by decide +kernel
theorem dL_law_1290 : decode cL_law 1290 = .ok (.iload 5, 2) := by decide +kernel
theorem dL_law_1292 : decode cL_law 1292 = .ok (.ifCond .ne 14, 3) := by decide +kernel
theorem dL_law_1295 : decode cL_law 1295 = .ok (.aload_n 3, 1) := by decide +kernel
theorem dL_law_1296 : decode cL_law 1296 = .ok (.iconst 0, 1) := by decide +kernel
theorem dL_law_1297 : decode cL_law 1297 = .ok (.laload, 1) := by decide +kernel
theorem dL_law_1298 : decode cL_law 1298 = .ok (.lload 6, 2) := by decide +kernel
theorem dL_law_1300 : decode cL_law 1300 = .ok (.lcmp, 1) := by decide +kernel
theorem dL_law_1301 : decode cL_law 1301 = .ok (.ifCond .eq 5, 3) := by decide +kernel
theorem dL_law_1304 : decode cL_law 1304 = .ok (.iconst 0, 1) := by decide +kernel
theorem dL_law_1305 : decode cL_law 1305 = .ok (.ireturn, 1) := by decide +kernel
theorem dL_law_1306 : decode cL_law 1306 = .ok (.goto 126, 3) := by decide +kernel
theorem dL_law_1309 : decode cL_law 1309 = .ok (.aload_n 1, 1) := by decide +kernel
theorem dL_law_1310 : decode cL_law 1310 = .ok (.aload_n 0, 1) := by decide +kernel
theorem dL_law_1311 : decode cL_law 1311 = .ok (.iload 4, 2) := by decide +kernel
theorem dL_law_1313 : decode cL_law 1313 = .ok (.iconst 1, 1) := by decide +kernel
theorem dL_law_1314 : decode cL_law 1314 = .ok (.iadd, 1) := by decide +kernel
theorem dL_law_1315 : decode cL_law 1315 = .ok (.iaload, 1) := by decide +kernel
theorem dL_law_1316 : decode cL_law 1316 = .ok (.aload_n 0, 1) := by decide +kernel
theorem dL_law_1317 : decode cL_law 1317 = .ok (.iload 4, 2) := by decide +kernel
theorem dL_law_1319 : decode cL_law 1319 = .ok (.iconst 2, 1) := by decide +kernel
theorem dL_law_1320 : decode cL_law 1320 = .ok (.iadd, 1) := by decide +kernel
theorem dL_law_1321 : decode cL_law 1321 = .ok (.iaload, 1) := by decide +kernel
theorem dL_law_1322 : decode cL_law 1322 = .ok (.aload_n 0, 1) := by decide +kernel
theorem dL_law_1323 : decode cL_law 1323 = .ok (.iload 4, 2) := by decide +kernel
theorem dL_law_1325 : decode cL_law 1325 = .ok (.iconst 3, 1) := by decide +kernel
theorem dL_law_1326 : decode cL_law 1326 = .ok (.iadd, 1) := by decide +kernel
theorem dL_law_1327 : decode cL_law 1327 = .ok (.iaload, 1) := by decide +kernel
theorem dL_law_1328 : decode cL_law 1328 = .ok (.aload_n 0, 1) := by decide +kernel
theorem dL_law_1329 : decode cL_law 1329 = .ok (.iload 4, 2) := by decide +kernel
theorem dL_law_1331 : decode cL_law 1331 = .ok (.iconst 4, 1) := by decide +kernel
theorem dL_law_1332 : decode cL_law 1332 = .ok (.iadd, 1) := by decide +kernel
theorem dL_law_1333 : decode cL_law 1333 = .ok (.iaload, 1) := by decide +kernel
theorem dL_law_1334 : decode cL_law 1334 = .ok (.aload_n 0, 1) := by decide +kernel
theorem dL_law_1335 : decode cL_law 1335 = .ok (.iload 4, 2) := by decide +kernel
theorem dL_law_1337 : decode cL_law 1337 = .ok (.iconst 5, 1) := by decide +kernel
theorem dL_law_1338 : decode cL_law 1338 = .ok (.iadd, 1) := by decide +kernel
theorem dL_law_1339 : decode cL_law 1339 = .ok (.iaload, 1) := by decide +kernel
theorem dL_law_1340 : decode cL_law 1340 = .ok (.invokevirtual 159, 3) := by decide +kernel
theorem dL_law_1343 : decode cL_law 1343 = .ok (.aload_n 2, 1) := by decide +kernel
theorem dL_law_1344 : decode cL_law 1344 = .ok (.aload_n 0, 1) := by decide +kernel
theorem dL_law_1345 : decode cL_law 1345 = .ok (.iload 4, 2) := by decide +kernel
theorem dL_law_1347 : decode cL_law 1347 = .ok (.iconst 1, 1) := by decide +kernel
theorem dL_law_1348 : decode cL_law 1348 = .ok (.iadd, 1) := by decide +kernel
theorem dL_law_1349 : decode cL_law 1349 = .ok (.iaload, 1) := by decide +kernel
theorem dL_law_1350 : decode cL_law 1350 = .ok (.aload_n 0, 1) := by decide +kernel
theorem dL_law_1351 : decode cL_law 1351 = .ok (.iload 4, 2) := by decide +kernel
theorem dL_law_1353 : decode cL_law 1353 = .ok (.iconst 2, 1) := by decide +kernel
theorem dL_law_1354 : decode cL_law 1354 = .ok (.iadd, 1) := by decide +kernel
theorem dL_law_1355 : decode cL_law 1355 = .ok (.iaload, 1) := by decide +kernel
theorem dL_law_1356 : decode cL_law 1356 = .ok (.aload_n 0, 1) := by decide +kernel
theorem dL_law_1357 : decode cL_law 1357 = .ok (.iload 4, 2) := by decide +kernel
theorem dL_law_1359 : decode cL_law 1359 = .ok (.iconst 3, 1) := by decide +kernel
theorem dL_law_1360 : decode cL_law 1360 = .ok (.iadd, 1) := by decide +kernel
theorem dL_law_1361 : decode cL_law 1361 = .ok (.iaload, 1) := by decide +kernel
theorem dL_law_1362 : decode cL_law 1362 = .ok (.aload_n 0, 1) := by decide +kernel
theorem dL_law_1363 : decode cL_law 1363 = .ok (.iload 4, 2) := by decide +kernel
theorem dL_law_1365 : decode cL_law 1365 = .ok (.iconst 4, 1) := by decide +kernel
theorem dL_law_1366 : decode cL_law 1366 = .ok (.iadd, 1) := by decide +kernel
theorem dL_law_1367 : decode cL_law 1367 = .ok (.iaload, 1) := by decide +kernel
theorem dL_law_1368 : decode cL_law 1368 = .ok (.aload_n 0, 1) := by decide +kernel
theorem dL_law_1369 : decode cL_law 1369 = .ok (.iload 4, 2) := by decide +kernel
theorem dL_law_1371 : decode cL_law 1371 = .ok (.iconst 5, 1) := by decide +kernel
theorem dL_law_1372 : decode cL_law 1372 = .ok (.iadd, 1) := by decide +kernel
theorem dL_law_1373 : decode cL_law 1373 = .ok (.iaload, 1) := by decide +kernel
theorem dL_law_1374 : decode cL_law 1374 = .ok (.invokevirtual 163, 3) := by decide +kernel
theorem dL_law_1377 : decode cL_law 1377 = .ok (.if_icmp .eq 55, 3) := by decide +kernel
theorem dL_law_1380 : decode cL_law 1380 = .ok (.iconst 0, 1) := by decide +kernel
theorem dL_law_1381 : decode cL_law 1381 = .ok (.ireturn, 1) := by decide +kernel
theorem dL_law_1382 : decode cL_law 1382 = .ok (.aload_n 1, 1) := by decide +kernel
theorem dL_law_1383 : decode cL_law 1383 = .ok (.aload_n 0, 1) := by decide +kernel
theorem dL_law_1384 : decode cL_law 1384 = .ok (.iload 4, 2) := by decide +kernel
theorem dL_law_1386 : decode cL_law 1386 = .ok (.iconst 1, 1) := by decide +kernel
theorem dL_law_1387 : decode cL_law 1387 = .ok (.iadd, 1) := by decide +kernel
theorem dL_law_1388 : decode cL_law 1388 = .ok (.iaload, 1) := by decide +kernel
theorem dL_law_1389 : decode cL_law 1389 = .ok (.invokevirtual 164, 3) := by decide +kernel
theorem dL_law_1392 : decode cL_law 1392 = .ok (.aload_n 2, 1) := by decide +kernel
theorem dL_law_1393 : decode cL_law 1393 = .ok (.aload_n 0, 1) := by decide +kernel
theorem dL_law_1394 : decode cL_law 1394 = .ok (.iload 4, 2) := by decide +kernel
theorem dL_law_1396 : decode cL_law 1396 = .ok (.iconst 1, 1) := by decide +kernel
theorem dL_law_1397 : decode cL_law 1397 = .ok (.iadd, 1) := by decide +kernel
theorem dL_law_1398 : decode cL_law 1398 = .ok (.iaload, 1) := by decide +kernel
theorem dL_law_1399 : decode cL_law 1399 = .ok (.invokevirtual 167, 3) := by decide +kernel
theorem dL_law_1402 : decode cL_law 1402 = .ok (.if_icmp .eq 30, 3) := by decide +kernel
theorem dL_law_1405 : decode cL_law 1405 = .ok (.iconst 0, 1) := by decide +kernel
theorem dL_law_1406 : decode cL_law 1406 = .ok (.ireturn, 1) := by decide +kernel
theorem dL_law_1407 : decode cL_law 1407 = .ok (.aload_n 1, 1) := by decide +kernel
theorem dL_law_1408 : decode cL_law 1408 = .ok (.aload_n 0, 1) := by decide +kernel
theorem dL_law_1409 : decode cL_law 1409 = .ok (.iload 4, 2) := by decide +kernel
theorem dL_law_1411 : decode cL_law 1411 = .ok (.iconst 1, 1) := by decide +kernel
theorem dL_law_1412 : decode cL_law 1412 = .ok (.iadd, 1) := by decide +kernel
theorem dL_law_1413 : decode cL_law 1413 = .ok (.iaload, 1) := by decide +kernel
theorem dL_law_1414 : decode cL_law 1414 = .ok (.invokevirtual 168, 3) := by decide +kernel
theorem dL_law_1417 : decode cL_law 1417 = .ok (.aload_n 2, 1) := by decide +kernel
theorem dL_law_1418 : decode cL_law 1418 = .ok (.aload_n 0, 1) := by decide +kernel
theorem dL_law_1419 : decode cL_law 1419 = .ok (.iload 4, 2) := by decide +kernel
theorem dL_law_1421 : decode cL_law 1421 = .ok (.iconst 1, 1) := by decide +kernel
theorem dL_law_1422 : decode cL_law 1422 = .ok (.iadd, 1) := by decide +kernel
theorem dL_law_1423 : decode cL_law 1423 = .ok (.iaload, 1) := by decide +kernel
theorem dL_law_1424 : decode cL_law 1424 = .ok (.invokevirtual 171, 3) := by decide +kernel
theorem dL_law_1427 : decode cL_law 1427 = .ok (.if_icmp .eq 5, 3) := by decide +kernel
theorem dL_law_1430 : decode cL_law 1430 = .ok (.iconst 0, 1) := by decide +kernel
theorem dL_law_1431 : decode cL_law 1431 = .ok (.ireturn, 1) := by decide +kernel
theorem dL_law_1432 : decode cL_law 1432 = .ok (.iinc 4 6, 3) := by decide +kernel
theorem dL_law_1435 : decode cL_law 1435 = .ok (.goto (-1412), 3) := by decide +kernel
theorem dL_law_1438 : decode cL_law 1438 = .ok (.iconst 1, 1) := by decide +kernel
theorem dL_law_1439 : decode cL_law 1439 = .ok (.ireturn, 1) := by decide +kernel
