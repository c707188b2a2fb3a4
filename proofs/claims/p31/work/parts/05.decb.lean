theorem dX9_init_0 : decode cX9_init 0 = .ok (.aload_n 0, 1) := by decide +kernel
theorem dX9_init_1 : decode cX9_init 1 = .ok (.invokespecial 1, 3) := by decide +kernel
theorem dX9_init_4 : decode cX9_init 4 = .ok (.aload_n 0, 1) := by decide +kernel
theorem dX9_init_5 : decode cX9_init 5 = .ok (.new 7, 3) := by decide +kernel
theorem dX9_init_8 : decode cX9_init 8 = .ok (.dup, 1) := by decide +kernel
theorem dX9_init_9 : decode cX9_init 9 = .ok (.invokespecial 9, 3) := by decide +kernel
theorem dX9_init_12 : decode cX9_init 12 = .ok (.putfield 10, 3) := by decide +kernel
theorem dX9_init_15 : decode cX9_init 15 = .ok (.aload_n 0, 1) := by decide +kernel
theorem dX9_init_16 : decode cX9_init 16 = .ok (.new 7, 3) := by decide +kernel
theorem dX9_init_19 : decode cX9_init 19 = .ok (.dup, 1) := by decide +kernel
theorem dX9_init_20 : decode cX9_init 20 = .ok (.invokespecial 9, 3) := by decide +kernel
theorem dX9_init_23 : decode cX9_init 23 = .ok (.putfield 16, 3) := by decide +kernel
theorem dX9_init_26 : decode cX9_init 26 = .ok (.aload_n 0, 1) := by decide +kernel
theorem dX9_init_27 : decode cX9_init 27 = .ok (.iconst 0, 1) := by decide +kernel
theorem dX9_init_28 : decode cX9_init 28 = .ok (.putfield 19, 3) := by decide +kernel
theorem dX9_init_31 : decode cX9_init 31 = .ok (.aload_n 0, 1) := by decide +kernel
theorem dX9_init_32 : decode cX9_init 32 = .ok (.new 23, 3) := by decide +kernel
theorem dX9_init_35 : decode cX9_init 35 = .ok (.dup, 1) := by decide +kernel
theorem dX9_init_36 : decode cX9_init 36 = .ok (.invokespecial 25, 3) := by decide +kernel
theorem dX9_init_39 : decode cX9_init 39 = .ok (.putfield 26, 3) := by decide +kernel
theorem dX9_init_42 : decode cX9_init 42 = .ok (.aload_n 0, 1) := by decide +kernel
theorem dX9_init_43 : decode cX9_init 43 = .ok (.new 30, 3) := by decide +kernel
theorem dX9_init_46 : decode cX9_init 46 = .ok (.dup, 1) := by decide +kernel
theorem dX9_init_47 : decode cX9_init 47 = .ok (.invokespecial 32, 3) := by decide +kernel
theorem dX9_init_50 : decode cX9_init 50 = .ok (.putfield 33, 3) := by decide +kernel
theorem dX9_init_53 : decode cX9_init 53 = .ok (.aload_n 0, 1) := by decide +kernel
theorem dX9_init_54 : decode cX9_init 54 = .ok (.new 37, 3) := by decide +kernel
theorem dX9_init_57 : decode cX9_init 57 = .ok (.dup, 1) := by decide +kernel
theorem dX9_init_58 : decode cX9_init 58 = .ok (.invokespecial 39, 3) := by decide +kernel
theorem dX9_init_61 : decode cX9_init 61 = .ok (.putfield 40, 3) := by decide +kernel
theorem dX9_init_64 : decode cX9_init 64 = .ok (.aload_n 0, 1) := by decide +kernel
theorem dX9_init_65 : decode cX9_init 65 = .ok (.new 44, 3) := by decide +kernel
theorem dX9_init_68 : decode cX9_init 68 = .ok (.dup, 1) := by decide +kernel
theorem dX9_init_69 : decode cX9_init 69 = .ok (.invokespecial 46, 3) := by decide +kernel
theorem dX9_init_72 : decode cX9_init 72 = .ok (.putfield 47, 3) := by decide +kernel
theorem dX9_init_75 : decode cX9_init 75 = .ok (.aload_n 0, 1) := by decide +kernel
theorem dX9_init_76 : decode cX9_init 76 = .ok (.new 51, 3) := by decide +kernel
theorem dX9_init_79 : decode cX9_init 79 = .ok (.dup, 1) := by decide +kernel
theorem dX9_init_80 : decode cX9_init 80 = .ok (.invokespecial 53, 3) := by decide +kernel
theorem dX9_init_83 : decode cX9_init 83 = .ok (.putfield 54, 3) := by decide +kernel
theorem dX9_init_86 : decode cX9_init 86 = .ok (.aload_n 0, 1) := by decide +kernel
theorem dX9_init_87 : decode cX9_init 87 = .ok (.new 58, 3) := by decide +kernel
theorem dX9_init_90 : decode cX9_init 90 = .ok (.dup, 1) := by decide +kernel
theorem dX9_init_91 : decode cX9_init 91 = .ok (.invokespecial 60, 3) := by decide +kernel
theorem dX9_init_94 : decode cX9_init 94 = .ok (.putfield 61, 3) := by decide +kernel
theorem dX9_init_97 : decode cX9_init 97 = .ok (.aload_n 0, 1) := by decide +kernel
theorem dX9_init_98 : decode cX9_init 98 = .ok (.new 65, 3) := by decide +kernel
theorem dX9_init_101 : decode cX9_init 101 = .ok (.dup, 1) := by decide +kernel
theorem dX9_init_102 : decode cX9_init 102 = .ok (.bipush 30, 2) := by decide +kernel
theorem dX9_init_104 : decode cX9_init 104 = .ok (.invokespecial 67, 3) := by decide +kernel
theorem dX9_init_107 : decode cX9_init 107 = .ok (.putfield 70, 3) := by decide +kernel
theorem dX9_init_110 : decode cX9_init 110 = .ok (.return_, 1) := by decide +kernel
theorem dX9_cross_0 : decode cX9_cross 0 = .ok (.iload_n 1, 1) := by decide +kernel
theorem dX9_cross_1 : decode cX9_cross 1 = .ok (.invokestatic 74, 3) := by decide +kernel
theorem dX9_cross_4 : decode cX9_cross 4 = .ok (.ifCond .ne 13, 3) := by decide +kernel
theorem dX9_cross_7 : decode cX9_cross 7 = .ok (.new 78, 3) := by decide +kernel
theorem dX9_cross_10 : decode cX9_cross 10 = .ok (.dup, 1) := by decide +kernel
theorem dX9_cross_11 : decode cX9_cross 11 = .ok (.ldc 80, 2) := by decide +kernel
theorem dX9_cross_13 : decode cX9_cross 13 = .ok (.invokespecial 82, 3) := by decide +kernel
theorem dX9_cross_16 : decode cX9_cross 16 = .ok (.athrow, 1) := by decide +kernel
theorem dX9_cross_17 : decode cX9_cross 17 = .ok (.aload_n 0, 1) := by decide +kernel
theorem dX9_cross_18 : decode cX9_cross 18 = .ok (.getfield 10, 3) := by decide +kernel
theorem dX9_cross_21 : decode cX9_cross 21 = .ok (.getfield 85, 3) := by decide +kernel
theorem dX9_cross_24 : decode cX9_cross 24 = .ok (.getfield 88, 3) := by decide +kernel
theorem dX9_cross_27 : decode cX9_cross 27 = .ok (.bipush 30, 2) := by decide +kernel
theorem dX9_cross_29 : decode cX9_cross 29 = .ok (.if_icmp .lt 13, 3) := by decide +kernel
theorem dX9_cross_32 : decode cX9_cross 32 = .ok (.new 92, 3) := by decide +kernel
theorem dX9_cross_35 : decode cX9_cross 35 = .ok (.dup, 1) := by decide +kernel
theorem dX9_cross_36 : decode cX9_cross 36 = .ok (.ldc 94, 2) := by decide +kernel
theorem dX9_cross_38 : decode cX9_cross 38 = .ok (.invokespecial 96, 3) := by decide +kernel
theorem dX9_cross_41 : decode cX9_cross 41 = .ok (.athrow, 1) := by decide +kernel
theorem dX9_cross_42 : decode cX9_cross 42 = .ok (.aload_n 0, 1) := by decide +kernel
theorem dX9_cross_43 : decode cX9_cross 43 = .ok (.getfield 26, 3) := by decide +kernel
theorem dX9_cross_46 : decode cX9_cross 46 = .ok (.aload_n 0, 1) := by decide +kernel
theorem dX9_cross_47 : decode cX9_cross 47 = .ok (.getfield 10, 3) := by decide +kernel
theorem dX9_cross_50 : decode cX9_cross 50 = .ok (.invokevirtual 97, 3) := by decide +kernel
theorem dX9_cross_53 : decode cX9_cross 53 = .ok (.aload_n 0, 1) := by decide +kernel
theorem dX9_cross_54 : decode cX9_cross 54 = .ok (.getfield 10, 3) := by decide +kernel
theorem dX9_cross_57 : decode cX9_cross 57 = .ok (.getfield 85, 3) := by decide +kernel
theorem dX9_cross_60 : decode cX9_cross 60 = .ok (.iload_n 1, 1) := by decide +kernel
theorem dX9_cross_61 : decode cX9_cross 61 = .ok (.invokevirtual 101, 3) := by decide +kernel
theorem dX9_cross_64 : decode cX9_cross 64 = .ok (.pop, 1) := by decide +kernel
theorem dX9_cross_65 : decode cX9_cross 65 = .ok (.aload_n 0, 1) := by decide +kernel
theorem dX9_cross_66 : decode cX9_cross 66 = .ok (.getfield 10, 3) := by decide +kernel
theorem dX9_cross_69 : decode cX9_cross 69 = .ok (.getfield 85, 3) := by decide +kernel
theorem dX9_cross_72 : decode cX9_cross 72 = .ok (.getfield 88, 3) := by decide +kernel
theorem dX9_cross_75 : decode cX9_cross 75 = .ok (.ireturn, 1) := by decide +kernel
theorem dX9_open_0 : decode cX9_open 0 = .ok (.aload_n 0, 1) := by decide +kernel
theorem dX9_open_1 : decode cX9_open 1 = .ok (.getfield 10, 3) := by decide +kernel
theorem dX9_open_4 : decode cX9_open 4 = .ok (.getfield 85, 3) := by decide +kernel
theorem dX9_open_7 : decode cX9_open 7 = .ok (.getfield 88, 3) := by decide +kernel
theorem dX9_open_10 : decode cX9_open 10 = .ok (.ifCond .ne 13, 3) := by decide +kernel
theorem dX9_open_13 : decode cX9_open 13 = .ok (.new 92, 3) := by decide +kernel
theorem dX9_open_16 : decode cX9_open 16 = .ok (.dup, 1) := by decide +kernel
theorem dX9_open_17 : decode cX9_open 17 = .ok (.ldc 104, 2) := by decide +kernel
theorem dX9_open_19 : decode cX9_open 19 = .ok (.invokespecial 96, 3) := by decide +kernel
theorem dX9_open_22 : decode cX9_open 22 = .ok (.athrow, 1) := by decide +kernel
theorem dX9_open_23 : decode cX9_open 23 = .ok (.aload_n 0, 1) := by decide +kernel
theorem dX9_open_24 : decode cX9_open 24 = .ok (.getfield 26, 3) := by decide +kernel
theorem dX9_open_27 : decode cX9_open 27 = .ok (.aload_n 0, 1) := by decide +kernel
theorem dX9_open_28 : decode cX9_open 28 = .ok (.getfield 10, 3) := by decide +kernel
theorem dX9_open_31 : decode cX9_open 31 = .ok (.invokevirtual 97, 3) := by decide +kernel
theorem dX9_open_34 : decode cX9_open 34 = .ok (.aload_n 0, 1) := by decide +kernel
theorem dX9_open_35 : decode cX9_open 35 = .ok (.getfield 10, 3) := by decide +kernel
theorem dX9_open_38 : decode cX9_open 38 = .ok (.getfield 85, 3) := by decide +kernel
theorem dX9_open_41 : decode cX9_open 41 = .ok (.aload_n 0, 1) := by decide +kernel
theorem dX9_open_42 : decode cX9_open 42 = .ok (.getfield 10, 3) := by decide +kernel
theorem dX9_open_45 : decode cX9_open 45 = .ok (.getfield 85, 3) := by decide +kernel
theorem dX9_open_48 : decode cX9_open 48 = .ok (.getfield 88, 3) := by decide +kernel
theorem dX9_open_51 : decode cX9_open 51 = .ok (.iconst 1, 1) := by decide +kernel
theorem dX9_open_52 : decode cX9_open 52 = .ok (.isub, 1) := by decide +kernel
theorem dX9_open_53 : decode cX9_open 53 = .ok (.invokevirtual 106, 3) := by decide +kernel
theorem dX9_open_56 : decode cX9_open 56 = .ok (.istore_n 1, 1) := by decide +kernel
theorem dX9_open_57 : decode cX9_open 57 = .ok (.aload_n 0, 1) := by decide +kernel
theorem dX9_open_58 : decode cX9_open 58 = .ok (.getfield 10, 3) := by decide +kernel
theorem dX9_open_61 : decode cX9_open 61 = .ok (.getfield 85, 3) := by decide +kernel
theorem dX9_open_64 : decode cX9_open 64 = .ok (.dup, 1) := by decide +kernel
theorem dX9_open_65 : decode cX9_open 65 = .ok (.getfield 88, 3) := by decide +kernel
theorem dX9_open_68 : decode cX9_open 68 = .ok (.iconst 1, 1) := by decide +kernel
theorem dX9_open_69 : decode cX9_open 69 = .ok (.isub, 1) := by decide +kernel
theorem dX9_open_70 : decode cX9_open 70 = .ok (.putfield 88, 3) := by decide +kernel
theorem dX9_open_73 : decode cX9_open 73 = .ok (.iload_n 1, 1) := by decide +kernel
theorem dX9_open_74 : decode cX9_open 74 = .ok (.bipush 10, 2) := by decide +kernel
theorem dX9_open_76 : decode cX9_open 76 = .ok (.iadd, 1) := by decide +kernel
theorem dX9_open_77 : decode cX9_open 77 = .ok (.ireturn, 1) := by decide +kernel
theorem dX9_move_0 : decode cX9_move 0 = .ok (.iload_n 1, 1) := by decide +kernel
theorem dX9_move_1 : decode cX9_move 1 = .ok (.invokestatic 110, 3) := by decide +kernel
theorem dX9_move_4 : decode cX9_move 4 = .ok (.ifCond .eq 7, 3) := by decide +kernel
theorem dX9_move_7 : decode cX9_move 7 = .ok (.iload_n 2, 1) := by decide +kernel
theorem dX9_move_8 : decode cX9_move 8 = .ok (.ifCond .ge 13, 3) := by decide +kernel
theorem dX9_move_11 : decode cX9_move 11 = .ok (.new 78, 3) := by decide +kernel
theorem dX9_move_14 : decode cX9_move 14 = .ok (.dup, 1) := by decide +kernel
theorem dX9_move_15 : decode cX9_move 15 = .ok (.ldc 113, 2) := by decide +kernel
theorem dX9_move_17 : decode cX9_move 17 = .ok (.invokespecial 82, 3) := by decide +kernel
theorem dX9_move_20 : decode cX9_move 20 = .ok (.athrow, 1) := by decide +kernel
theorem dX9_move_21 : decode cX9_move 21 = .ok (.aload_n 0, 1) := by decide +kernel
theorem dX9_move_22 : decode cX9_move 22 = .ok (.getfield 10, 3) := by decide +kernel
theorem dX9_move_25 : decode cX9_move 25 = .ok (.getfield 85, 3) := by decide +kernel
theorem dX9_move_28 : decode cX9_move 28 = .ok (.iload_n 1, 1) := by decide +kernel
theorem dX9_move_29 : decode cX9_move 29 = .ok (.iload_n 2, 1) := by decide +kernel
theorem dX9_move_30 : decode cX9_move 30 = .ok (.invokestatic 115, 3) := by decide +kernel
theorem dX9_move_33 : decode cX9_move 33 = .ok (.ifCond .eq 13, 3) := by decide +kernel
theorem dX9_move_36 : decode cX9_move 36 = .ok (.new 92, 3) := by decide +kernel
theorem dX9_move_39 : decode cX9_move 39 = .ok (.dup, 1) := by decide +kernel
theorem dX9_move_40 : decode cX9_move 40 = .ok (.ldc 121, 2) := by decide +kernel
theorem dX9_move_42 : decode cX9_move 42 = .ok (.invokespecial 96, 3) := by decide +kernel
theorem dX9_move_45 : decode cX9_move 45 = .ok (.athrow, 1) := by decide +kernel
theorem dX9_move_46 : decode cX9_move 46 = .ok (.aload_n 0, 1) := by decide +kernel
theorem dX9_move_47 : decode cX9_move 47 = .ok (.getfield 26, 3) := by decide +kernel
theorem dX9_move_50 : decode cX9_move 50 = .ok (.aload_n 0, 1) := by decide +kernel
theorem dX9_move_51 : decode cX9_move 51 = .ok (.getfield 10, 3) := by decide +kernel
theorem dX9_move_54 : decode cX9_move 54 = .ok (.invokevirtual 97, 3) := by decide +kernel
theorem dX9_move_57 : decode cX9_move 57 = .ok (.aload_n 0, 1) := by decide +kernel
theorem dX9_move_58 : decode cX9_move 58 = .ok (.getfield 10, 3) := by decide +kernel
theorem dX9_move_61 : decode cX9_move 61 = .ok (.getfield 85, 3) := by decide +kernel
theorem dX9_move_64 : decode cX9_move 64 = .ok (.iload_n 1, 1) := by decide +kernel
theorem dX9_move_65 : decode cX9_move 65 = .ok (.iload_n 2, 1) := by decide +kernel
theorem dX9_move_66 : decode cX9_move 66 = .ok (.invokestatic 123, 3) := by decide +kernel
theorem dX9_move_69 : decode cX9_move 69 = .ok (.aload_n 0, 1) := by decide +kernel
theorem dX9_move_70 : decode cX9_move 70 = .ok (.getfield 10, 3) := by decide +kernel
theorem dX9_move_73 : decode cX9_move 73 = .ok (.dup, 1) := by decide +kernel
theorem dX9_move_74 : decode cX9_move 74 = .ok (.getfield 127, 3) := by decide +kernel
theorem dX9_move_77 : decode cX9_move 77 = .ok (.iconst 1, 1) := by decide +kernel
theorem dX9_move_78 : decode cX9_move 78 = .ok (.iadd, 1) := by decide +kernel
theorem dX9_move_79 : decode cX9_move 79 = .ok (.putfield 127, 3) := by decide +kernel
theorem dX9_move_82 : decode cX9_move 82 = .ok (.aload_n 0, 1) := by decide +kernel
theorem dX9_move_83 : decode cX9_move 83 = .ok (.getfield 10, 3) := by decide +kernel
theorem dX9_move_86 : decode cX9_move 86 = .ok (.getfield 85, 3) := by decide +kernel
theorem dX9_move_89 : decode cX9_move 89 = .ok (.getfield 88, 3) := by decide +kernel
theorem dX9_move_92 : decode cX9_move 92 = .ok (.ireturn, 1) := by decide +kernel
theorem dX9_pair_0 : decode cX9_pair 0 = .ok (.iload_n 1, 1) := by decide +kernel
theorem dX9_pair_1 : decode cX9_pair 1 = .ok (.ifCond .lt 24, 3) := by decide +kernel
theorem dX9_pair_4 : decode cX9_pair 4 = .ok (.iload_n 1, 1) := by decide +kernel
theorem dX9_pair_5 : decode cX9_pair 5 = .ok (.aload_n 0, 1) := by decide +kernel
theorem dX9_pair_6 : decode cX9_pair 6 = .ok (.getfield 10, 3) := by decide +kernel
theorem dX9_pair_9 : decode cX9_pair 9 = .ok (.getfield 85, 3) := by decide +kernel
theorem dX9_pair_12 : decode cX9_pair 12 = .ok (.getfield 88, 3) := by decide +kernel
theorem dX9_pair_15 : decode cX9_pair 15 = .ok (.if_icmp .gt 10, 3) := by decide +kernel
theorem dX9_pair_18 : decode cX9_pair 18 = .ok (.iload_n 2, 1) := by decide +kernel
theorem dX9_pair_19 : decode cX9_pair 19 = .ok (.invokestatic 74, 3) := by decide +kernel
theorem dX9_pair_22 : decode cX9_pair 22 = .ok (.ifCond .ne 13, 3) := by decide +kernel
theorem dX9_pair_25 : decode cX9_pair 25 = .ok (.new 78, 3) := by decide +kernel
theorem dX9_pair_28 : decode cX9_pair 28 = .ok (.dup, 1) := by decide +kernel
theorem dX9_pair_29 : decode cX9_pair 29 = .ok (.ldc 130, 2) := by decide +kernel
theorem dX9_pair_31 : decode cX9_pair 31 = .ok (.invokespecial 82, 3) := by decide +kernel
theorem dX9_pair_34 : decode cX9_pair 34 = .ok (.athrow, 1) := by decide +kernel
theorem dX9_pair_35 : decode cX9_pair 35 = .ok (.aload_n 0, 1) := by decide +kernel
theorem dX9_pair_36 : decode cX9_pair 36 = .ok (.getfield 10, 3) := by decide +kernel
theorem dX9_pair_39 : decode cX9_pair 39 = .ok (.getfield 85, 3) := by decide +kernel
theorem dX9_pair_42 : decode cX9_pair 42 = .ok (.getfield 88, 3) := by decide +kernel
theorem dX9_pair_45 : decode cX9_pair 45 = .ok (.iconst 2, 1) := by decide +kernel
theorem dX9_pair_46 : decode cX9_pair 46 = .ok (.iadd, 1) := by decide +kernel
theorem dX9_pair_47 : decode cX9_pair 47 = .ok (.bipush 30, 2) := by decide +kernel
theorem dX9_pair_49 : decode cX9_pair 49 = .ok (.if_icmp .le 13, 3) := by decide +kernel
theorem dX9_pair_52 : decode cX9_pair 52 = .ok (.new 92, 3) := by decide +kernel
theorem dX9_pair_55 : decode cX9_pair 55 = .ok (.dup, 1) := by decide +kernel
theorem dX9_pair_56 : decode cX9_pair 56 = .ok (.ldc 132, 2) := by decide +kernel
theorem dX9_pair_58 : decode cX9_pair 58 = .ok (.invokespecial 96, 3) := by decide +kernel
theorem dX9_pair_61 : decode cX9_pair 61 = .ok (.athrow, 1) := by decide +kernel
theorem dX9_pair_62 : decode cX9_pair 62 = .ok (.aload_n 0, 1) := by decide +kernel
theorem dX9_pair_63 : decode cX9_pair 63 = .ok (.getfield 26, 3) := by decide +kernel
theorem dX9_pair_66 : decode cX9_pair 66 = .ok (.aload_n 0, 1) := by decide +kernel
theorem dX9_pair_67 : decode cX9_pair 67 = .ok (.getfield 10, 3) := by decide +kernel
theorem dX9_pair_70 : decode cX9_pair 70 = .ok (.invokevirtual 97, 3) := by decide +kernel
theorem dX9_pair_73 : decode cX9_pair 73 = .ok (.aload_n 0, 1) := by decide +kernel
theorem dX9_pair_74 : decode cX9_pair 74 = .ok (.getfield 10, 3) := by decide +kernel
theorem dX9_pair_77 : decode cX9_pair 77 = .ok (.getfield 85, 3) := by decide +kernel
theorem dX9_pair_80 : decode cX9_pair 80 = .ok (.iload_n 1, 1) := by decide +kernel
theorem dX9_pair_81 : decode cX9_pair 81 = .ok (.iload_n 2, 1) := by decide +kernel
theorem dX9_pair_82 : decode cX9_pair 82 = .ok (.invokevirtual 134, 3) := by decide +kernel
theorem dX9_pair_85 : decode cX9_pair 85 = .ok (.aload_n 0, 1) := by decide +kernel
theorem dX9_pair_86 : decode cX9_pair 86 = .ok (.getfield 10, 3) := by decide +kernel
theorem dX9_pair_89 : decode cX9_pair 89 = .ok (.getfield 85, 3) := by decide +kernel
theorem dX9_pair_92 : decode cX9_pair 92 = .ok (.getfield 88, 3) := by decide +kernel
theorem dX9_pair_95 : decode cX9_pair 95 = .ok (.ireturn, 1) := by decide +kernel
theorem dX9_pull_0 : decode cX9_pull 0 = .ok (.aload_n 0, 1) := by decide +kernel
theorem dX9_pull_1 : decode cX9_pull 1 = .ok (.getfield 26, 3) := by decide +kernel
theorem dX9_pull_4 : decode cX9_pull 4 = .ok (.aload_n 0, 1) := by decide +kernel
theorem dX9_pull_5 : decode cX9_pull 5 = .ok (.getfield 10, 3) := by decide +kernel
theorem dX9_pull_8 : decode cX9_pull 8 = .ok (.invokevirtual 97, 3) := by decide +kernel
theorem dX9_pull_11 : decode cX9_pull 11 = .ok (.aload_n 0, 1) := by decide +kernel
theorem dX9_pull_12 : decode cX9_pull 12 = .ok (.getfield 10, 3) := by decide +kernel
theorem dX9_pull_15 : decode cX9_pull 15 = .ok (.getfield 85, 3) := by decide +kernel
theorem dX9_pull_18 : decode cX9_pull 18 = .ok (.invokevirtual 138, 3) := by decide +kernel
theorem dX9_pull_21 : decode cX9_pull 21 = .ok (.ireturn, 1) := by decide +kernel
theorem dX9_turn_0 : decode cX9_turn 0 = .ok (.aload_n 0, 1) := by decide +kernel
theorem dX9_turn_1 : decode cX9_turn 1 = .ok (.getfield 26, 3) := by decide +kernel
theorem dX9_turn_4 : decode cX9_turn 4 = .ok (.aload_n 0, 1) := by decide +kernel
theorem dX9_turn_5 : decode cX9_turn 5 = .ok (.getfield 10, 3) := by decide +kernel
theorem dX9_turn_8 : decode cX9_turn 8 = .ok (.invokevirtual 97, 3) := by decide +kernel
theorem dX9_turn_11 : decode cX9_turn 11 = .ok (.aload_n 0, 1) := by decide +kernel
theorem dX9_turn_12 : decode cX9_turn 12 = .ok (.getfield 70, 3) := by decide +kernel
theorem dX9_turn_15 : decode cX9_turn 15 = .ok (.invokevirtual 142, 3) := by decide +kernel
theorem dX9_turn_18 : decode cX9_turn 18 = .ok (.aload_n 0, 1) := by decide +kernel
theorem dX9_turn_19 : decode cX9_turn 19 = .ok (.getfield 70, 3) := by decide +kernel
theorem dX9_turn_22 : decode cX9_turn 22 = .ok (.aload_n 0, 1) := by decide +kernel
theorem dX9_turn_23 : decode cX9_turn 23 = .ok (.getfield 10, 3) := by decide +kernel
theorem dX9_turn_26 : decode cX9_turn 26 = .ok (.getfield 85, 3) := by decide +kernel
theorem dX9_turn_29 : decode cX9_turn 29 = .ok (.invokevirtual 145, 3) := by decide +kernel
theorem dX9_turn_32 : decode cX9_turn 32 = .ok (.aload_n 0, 1) := by decide +kernel
theorem dX9_turn_33 : decode cX9_turn 33 = .ok (.getfield 10, 3) := by decide +kernel
theorem dX9_turn_36 : decode cX9_turn 36 = .ok (.getfield 85, 3) := by decide +kernel
theorem dX9_turn_39 : decode cX9_turn 39 = .ok (.aload_n 0, 1) := by decide +kernel
theorem dX9_turn_40 : decode cX9_turn 40 = .ok (.getfield 70, 3) := by decide +kernel
theorem dX9_turn_43 : decode cX9_turn 43 = .ok (.invokevirtual 149, 3) := by decide +kernel
theorem dX9_turn_46 : decode cX9_turn 46 = .ok (.aload_n 0, 1) := by decide +kernel
theorem dX9_turn_47 : decode cX9_turn 47 = .ok (.getfield 10, 3) := by decide +kernel
theorem dX9_turn_50 : decode cX9_turn 50 = .ok (.getfield 85, 3) := by decide +kernel
theorem dX9_turn_53 : decode cX9_turn 53 = .ok (.invokevirtual 152, 3) := by decide +kernel
theorem dX9_turn_56 : decode cX9_turn 56 = .ok (.bipush 100, 2) := by decide +kernel
theorem dX9_turn_58 : decode cX9_turn 58 = .ok (.iadd, 1) := by decide +kernel
theorem dX9_turn_59 : decode cX9_turn 59 = .ok (.ireturn, 1) := by decide +kernel
theorem dX9_handle_0 : decode cX9_handle 0 = .ok (.aload_n 0, 1) := by decide +kernel
theorem dX9_handle_1 : decode cX9_handle 1 = .ok (.getfield 54, 3) := by decide +kernel
theorem dX9_handle_4 : decode cX9_handle 4 = .ok (.aload_n 0, 1) := by decide +kernel
theorem dX9_handle_5 : decode cX9_handle 5 = .ok (.getfield 10, 3) := by decide +kernel
theorem dX9_handle_8 : decode cX9_handle 8 = .ok (.getfield 85, 3) := by decide +kernel
theorem dX9_handle_11 : decode cX9_handle 11 = .ok (.invokevirtual 155, 3) := by decide +kernel
theorem dX9_handle_14 : decode cX9_handle 14 = .ok (.ifCond .ne 13, 3) := by decide +kernel
theorem dX9_handle_17 : decode cX9_handle 17 = .ok (.new 92, 3) := by decide +kernel
theorem dX9_handle_20 : decode cX9_handle 20 = .ok (.dup, 1) := by decide +kernel
theorem dX9_handle_21 : decode cX9_handle 21 = .ok (.ldc 159, 2) := by decide +kernel
theorem dX9_handle_23 : decode cX9_handle 23 = .ok (.invokespecial 96, 3) := by decide +kernel
theorem dX9_handle_26 : decode cX9_handle 26 = .ok (.athrow, 1) := by decide +kernel
theorem dX9_handle_27 : decode cX9_handle 27 = .ok (.aload_n 0, 1) := by decide +kernel
theorem dX9_handle_28 : decode cX9_handle 28 = .ok (.getfield 54, 3) := by decide +kernel
theorem dX9_handle_31 : decode cX9_handle 31 = .ok (.aload_n 0, 1) := by decide +kernel
theorem dX9_handle_32 : decode cX9_handle 32 = .ok (.getfield 10, 3) := by decide +kernel
theorem dX9_handle_35 : decode cX9_handle 35 = .ok (.getfield 85, 3) := by decide +kernel
theorem dX9_handle_38 : decode cX9_handle 38 = .ok (.invokevirtual 161, 3) := by decide +kernel
theorem dX9_handle_41 : decode cX9_handle 41 = .ok (.bipush 30, 2) := by decide +kernel
theorem dX9_handle_43 : decode cX9_handle 43 = .ok (.if_icmp .le 13, 3) := by decide +kernel
theorem dX9_handle_46 : decode cX9_handle 46 = .ok (.new 92, 3) := by decide +kernel
theorem dX9_handle_49 : decode cX9_handle 49 = .ok (.dup, 1) := by decide +kernel
theorem dX9_handle_50 : decode cX9_handle 50 = .ok (.ldc 165, 2) := by decide +kernel
theorem dX9_handle_52 : decode cX9_handle 52 = .ok (.invokespecial 96, 3) := by decide +kernel
theorem dX9_handle_55 : decode cX9_handle 55 = .ok (.athrow, 1) := by decide +kernel
theorem dX9_handle_56 : decode cX9_handle 56 = .ok (.aload_n 0, 1) := by decide +kernel
theorem dX9_handle_57 : decode cX9_handle 57 = .ok (.getfield 26, 3) := by decide +kernel
theorem dX9_handle_60 : decode cX9_handle 60 = .ok (.aload_n 0, 1) := by decide +kernel
theorem dX9_handle_61 : decode cX9_handle 61 = .ok (.getfield 10, 3) := by decide +kernel
theorem dX9_handle_64 : decode cX9_handle 64 = .ok (.invokevirtual 97, 3) := by decide +kernel
theorem dX9_handle_67 : decode cX9_handle 67 = .ok (.aload_n 0, 1) := by decide +kernel
theorem dX9_handle_68 : decode cX9_handle 68 = .ok (.getfield 54, 3) := by decide +kernel
theorem dX9_handle_71 : decode cX9_handle 71 = .ok (.aload_n 0, 1) := by decide +kernel
theorem dX9_handle_72 : decode cX9_handle 72 = .ok (.getfield 10, 3) := by decide +kernel
theorem dX9_handle_75 : decode cX9_handle 75 = .ok (.getfield 85, 3) := by decide +kernel
theorem dX9_handle_78 : decode cX9_handle 78 = .ok (.aload_n 0, 1) := by decide +kernel
theorem dX9_handle_79 : decode cX9_handle 79 = .ok (.getfield 70, 3) := by decide +kernel
theorem dX9_handle_82 : decode cX9_handle 82 = .ok (.invokevirtual 167, 3) := by decide +kernel
theorem dX9_handle_85 : decode cX9_handle 85 = .ok (.aload_n 0, 1) := by decide +kernel
theorem dX9_handle_86 : decode cX9_handle 86 = .ok (.getfield 10, 3) := by decide +kernel
theorem dX9_handle_89 : decode cX9_handle 89 = .ok (.getfield 85, 3) := by decide +kernel
theorem dX9_handle_92 : decode cX9_handle 92 = .ok (.aload_n 0, 1) := by decide +kernel
theorem dX9_handle_93 : decode cX9_handle 93 = .ok (.getfield 70, 3) := by decide +kernel
theorem dX9_handle_96 : decode cX9_handle 96 = .ok (.invokevirtual 149, 3) := by decide +kernel
theorem dX9_handle_99 : decode cX9_handle 99 = .ok (.aload_n 0, 1) := by decide +kernel
theorem dX9_handle_100 : decode cX9_handle 100 = .ok (.getfield 10, 3) := by decide +kernel
theorem dX9_handle_103 : decode cX9_handle 103 = .ok (.dup, 1) := by decide +kernel
theorem dX9_handle_104 : decode cX9_handle 104 = .ok (.getfield 127, 3) := by decide +kernel
theorem dX9_handle_107 : decode cX9_handle 107 = .ok (.iconst 1, 1) := by decide +kernel
theorem dX9_handle_108 : decode cX9_handle 108 = .ok (.iadd, 1) := by decide +kernel
theorem dX9_handle_109 : decode cX9_handle 109 = .ok (.putfield 127, 3) := by decide +kernel
theorem dX9_handle_112 : decode cX9_handle 112 = .ok (.aload_n 0, 1) := by decide +kernel
theorem dX9_handle_113 : decode cX9_handle 113 = .ok (.getfield 10, 3) := by decide +kernel
theorem dX9_handle_116 : decode cX9_handle 116 = .ok (.getfield 85, 3) := by decide +kernel
theorem dX9_handle_119 : decode cX9_handle 119 = .ok (.getfield 88, 3) := by decide +kernel
theorem dX9_handle_122 : decode cX9_handle 122 = .ok (.ireturn, 1) := by decide +kernel
theorem dX9_undo_0 : decode cX9_undo 0 = .ok (.aload_n 0, 1) := by decide +kernel
theorem dX9_undo_1 : decode cX9_undo 1 = .ok (.getfield 26, 3) := by decide +kernel
theorem dX9_undo_4 : decode cX9_undo 4 = .ok (.getfield 190, 3) := by decide +kernel
theorem dX9_undo_7 : decode cX9_undo 7 = .ok (.ifCond .ne 13, 3) := by decide +kernel
theorem dX9_undo_10 : decode cX9_undo 10 = .ok (.new 92, 3) := by decide +kernel
theorem dX9_undo_13 : decode cX9_undo 13 = .ok (.dup, 1) := by decide +kernel
theorem dX9_undo_14 : decode cX9_undo 14 = .ok (.ldc 193, 2) := by decide +kernel
theorem dX9_undo_16 : decode cX9_undo 16 = .ok (.invokespecial 96, 3) := by decide +kernel
theorem dX9_undo_19 : decode cX9_undo 19 = .ok (.athrow, 1) := by decide +kernel
theorem dX9_undo_20 : decode cX9_undo 20 = .ok (.aload_n 0, 1) := by decide +kernel
theorem dX9_undo_21 : decode cX9_undo 21 = .ok (.getfield 26, 3) := by decide +kernel
theorem dX9_undo_24 : decode cX9_undo 24 = .ok (.aload_n 0, 1) := by decide +kernel
theorem dX9_undo_25 : decode cX9_undo 25 = .ok (.getfield 10, 3) := by decide +kernel
theorem dX9_undo_28 : decode cX9_undo 28 = .ok (.invokevirtual 195, 3) := by decide +kernel
theorem dX9_undo_31 : decode cX9_undo 31 = .ok (.aload_n 0, 1) := by decide +kernel
theorem dX9_undo_32 : decode cX9_undo 32 = .ok (.getfield 26, 3) := by decide +kernel
theorem dX9_undo_35 : decode cX9_undo 35 = .ok (.getfield 190, 3) := by decide +kernel
theorem dX9_undo_38 : decode cX9_undo 38 = .ok (.ireturn, 1) := by decide +kernel
theorem dX9_crossing_0 : decode cX9_crossing 0 = .ok (.iload_n 1, 1) := by decide +kernel
theorem dX9_crossing_1 : decode cX9_crossing 1 = .ok (.ifCond .ge 13, 3) := by decide +kernel
theorem dX9_crossing_4 : decode cX9_crossing 4 = .ok (.new 78, 3) := by decide +kernel
theorem dX9_crossing_7 : decode cX9_crossing 7 = .ok (.dup, 1) := by decide +kernel
theorem dX9_crossing_8 : decode cX9_crossing 8 = .ok (.ldc 202, 2) := by decide +kernel
theorem dX9_crossing_10 : decode cX9_crossing 10 = .ok (.invokespecial 82, 3) := by decide +kernel
theorem dX9_crossing_13 : decode cX9_crossing 13 = .ok (.athrow, 1) := by decide +kernel
theorem dX9_crossing_14 : decode cX9_crossing 14 = .ok (.aload_n 0, 1) := by decide +kernel
theorem dX9_crossing_15 : decode cX9_crossing 15 = .ok (.getfield 10, 3) := by decide +kernel
theorem dX9_crossing_18 : decode cX9_crossing 18 = .ok (.getfield 85, 3) := by decide +kernel
theorem dX9_crossing_21 : decode cX9_crossing 21 = .ok (.iload_n 1, 1) := by decide +kernel
theorem dX9_crossing_22 : decode cX9_crossing 22 = .ok (.invokestatic 204, 3) := by decide +kernel
theorem dX9_crossing_25 : decode cX9_crossing 25 = .ok (.ireturn, 1) := by decide +kernel
theorem dX9_lies_0 : decode cX9_lies 0 = .ok (.iload_n 2, 1) := by decide +kernel
theorem dX9_lies_1 : decode cX9_lies 1 = .ok (.invokestatic 208, 3) := by decide +kernel
theorem dX9_lies_4 : decode cX9_lies 4 = .ok (.ifCond .ne 13, 3) := by decide +kernel
theorem dX9_lies_7 : decode cX9_lies 7 = .ok (.new 211, 3) := by decide +kernel
theorem dX9_lies_10 : decode cX9_lies 10 = .ok (.dup, 1) := by decide +kernel
theorem dX9_lies_11 : decode cX9_lies 11 = .ok (.ldc 213, 2) := by decide +kernel
theorem dX9_lies_13 : decode cX9_lies 13 = .ok (.invokespecial 215, 3) := by decide +kernel
theorem dX9_lies_16 : decode cX9_lies 16 = .ok (.athrow, 1) := by decide +kernel
theorem dX9_lies_17 : decode cX9_lies 17 = .ok (.iload_n 1, 1) := by decide +kernel
theorem dX9_lies_18 : decode cX9_lies 18 = .ok (.ifCond .lt 17, 3) := by decide +kernel
theorem dX9_lies_21 : decode cX9_lies 21 = .ok (.iload_n 1, 1) := by decide +kernel
theorem dX9_lies_22 : decode cX9_lies 22 = .ok (.aload_n 0, 1) := by decide +kernel
theorem dX9_lies_23 : decode cX9_lies 23 = .ok (.getfield 10, 3) := by decide +kernel
theorem dX9_lies_26 : decode cX9_lies 26 = .ok (.getfield 85, 3) := by decide +kernel
theorem dX9_lies_29 : decode cX9_lies 29 = .ok (.getfield 88, 3) := by decide +kernel
theorem dX9_lies_32 : decode cX9_lies 32 = .ok (.if_icmp .le 13, 3) := by decide +kernel
theorem dX9_lies_35 : decode cX9_lies 35 = .ok (.new 78, 3) := by decide +kernel
theorem dX9_lies_38 : decode cX9_lies 38 = .ok (.dup, 1) := by decide +kernel
theorem dX9_lies_39 : decode cX9_lies 39 = .ok (.ldc 216, 2) := by decide +kernel
theorem dX9_lies_41 : decode cX9_lies 41 = .ok (.invokespecial 82, 3) := by decide +kernel
theorem dX9_lies_44 : decode cX9_lies 44 = .ok (.athrow, 1) := by decide +kernel
theorem dX9_lies_45 : decode cX9_lies 45 = .ok (.aload_n 0, 1) := by decide +kernel
theorem dX9_lies_46 : decode cX9_lies 46 = .ok (.getfield 40, 3) := by decide +kernel
theorem dX9_lies_49 : decode cX9_lies 49 = .ok (.aload_n 0, 1) := by decide +kernel
theorem dX9_lies_50 : decode cX9_lies 50 = .ok (.getfield 10, 3) := by decide +kernel
theorem dX9_lies_53 : decode cX9_lies 53 = .ok (.getfield 85, 3) := by decide +kernel
theorem dX9_lies_56 : decode cX9_lies 56 = .ok (.iload_n 1, 1) := by decide +kernel
theorem dX9_lies_57 : decode cX9_lies 57 = .ok (.invokevirtual 218, 3) := by decide +kernel
theorem dX9_lies_60 : decode cX9_lies 60 = .ok (.aload_n 0, 1) := by decide +kernel
theorem dX9_lies_61 : decode cX9_lies 61 = .ok (.getfield 40, 3) := by decide +kernel
theorem dX9_lies_64 : decode cX9_lies 64 = .ok (.iload_n 2, 1) := by decide +kernel
theorem dX9_lies_65 : decode cX9_lies 65 = .ok (.invokevirtual 222, 3) := by decide +kernel
theorem dX9_lies_68 : decode cX9_lies 68 = .ok (.ireturn, 1) := by decide +kernel
theorem dX9_winding_0 : decode cX9_winding 0 = .ok (.iload_n 1, 1) := by decide +kernel
theorem dX9_winding_1 : decode cX9_winding 1 = .ok (.invokestatic 208, 3) := by decide +kernel
theorem dX9_winding_4 : decode cX9_winding 4 = .ok (.ifCond .eq 10, 3) := by decide +kernel
theorem dX9_winding_7 : decode cX9_winding 7 = .ok (.iload_n 2, 1) := by decide +kernel
theorem dX9_winding_8 : decode cX9_winding 8 = .ok (.invokestatic 208, 3) := by decide +kernel
theorem dX9_winding_11 : decode cX9_winding 11 = .ok (.ifCond .ne 13, 3) := by decide +kernel
theorem dX9_winding_14 : decode cX9_winding 14 = .ok (.new 211, 3) := by decide +kernel
theorem dX9_winding_17 : decode cX9_winding 17 = .ok (.dup, 1) := by decide +kernel
theorem dX9_winding_18 : decode cX9_winding 18 = .ok (.ldc 225, 2) := by decide +kernel
theorem dX9_winding_20 : decode cX9_winding 20 = .ok (.invokespecial 215, 3) := by decide +kernel
theorem dX9_winding_23 : decode cX9_winding 23 = .ok (.athrow, 1) := by decide +kernel
theorem dX9_winding_24 : decode cX9_winding 24 = .ok (.aload_n 0, 1) := by decide +kernel
theorem dX9_winding_25 : decode cX9_winding 25 = .ok (.getfield 40, 3) := by decide +kernel
theorem dX9_winding_28 : decode cX9_winding 28 = .ok (.aload_n 0, 1) := by decide +kernel
theorem dX9_winding_29 : decode cX9_winding 29 = .ok (.getfield 10, 3) := by decide +kernel
theorem dX9_winding_32 : decode cX9_winding 32 = .ok (.getfield 85, 3) := by decide +kernel
theorem dX9_winding_35 : decode cX9_winding 35 = .ok (.aload_n 0, 1) := by decide +kernel
theorem dX9_winding_36 : decode cX9_winding 36 = .ok (.getfield 10, 3) := by decide +kernel
theorem dX9_winding_39 : decode cX9_winding 39 = .ok (.getfield 85, 3) := by decide +kernel
theorem dX9_winding_42 : decode cX9_winding 42 = .ok (.getfield 88, 3) := by decide +kernel
theorem dX9_winding_45 : decode cX9_winding 45 = .ok (.invokevirtual 218, 3) := by decide +kernel
theorem dX9_winding_48 : decode cX9_winding 48 = .ok (.aload_n 0, 1) := by decide +kernel
theorem dX9_winding_49 : decode cX9_winding 49 = .ok (.getfield 40, 3) := by decide +kernel
theorem dX9_winding_52 : decode cX9_winding 52 = .ok (.iload_n 1, 1) := by decide +kernel
theorem dX9_winding_53 : decode cX9_winding 53 = .ok (.iload_n 2, 1) := by decide +kernel
theorem dX9_winding_54 : decode cX9_winding 54 = .ok (.invokevirtual 227, 3) := by decide +kernel
theorem dX9_winding_57 : decode cX9_winding 57 = .ok (.bipush 100, 2) := by decide +kernel
theorem dX9_winding_59 : decode cX9_winding 59 = .ok (.iadd, 1) := by decide +kernel
theorem dX9_winding_60 : decode cX9_winding 60 = .ok (.ireturn, 1) := by decide +kernel
theorem dX9_measure_0 : decode cX9_measure 0 = .ok (.iload_n 1, 1) := by decide +kernel
theorem dX9_measure_1 : decode cX9_measure 1 = .ok (.invokestatic 208, 3) := by decide +kernel
theorem dX9_measure_4 : decode cX9_measure 4 = .ok (.ifCond .eq 10, 3) := by decide +kernel
theorem dX9_measure_7 : decode cX9_measure 7 = .ok (.iload_n 2, 1) := by decide +kernel
theorem dX9_measure_8 : decode cX9_measure 8 = .ok (.invokestatic 208, 3) := by decide +kernel
theorem dX9_measure_11 : decode cX9_measure 11 = .ok (.ifCond .ne 13, 3) := by decide +kernel
theorem dX9_measure_14 : decode cX9_measure 14 = .ok (.new 211, 3) := by decide +kernel
theorem dX9_measure_17 : decode cX9_measure 17 = .ok (.dup, 1) := by decide +kernel
theorem dX9_measure_18 : decode cX9_measure 18 = .ok (.ldc 231, 2) := by decide +kernel
theorem dX9_measure_20 : decode cX9_measure 20 = .ok (.invokespecial 215, 3) := by decide +kernel
theorem dX9_measure_23 : decode cX9_measure 23 = .ok (.athrow, 1) := by decide +kernel
theorem dX9_measure_24 : decode cX9_measure 24 = .ok (.aload_n 0, 1) := by decide +kernel
theorem dX9_measure_25 : decode cX9_measure 25 = .ok (.getfield 47, 3) := by decide +kernel
theorem dX9_measure_28 : decode cX9_measure 28 = .ok (.aload_n 0, 1) := by decide +kernel
theorem dX9_measure_29 : decode cX9_measure 29 = .ok (.getfield 10, 3) := by decide +kernel
theorem dX9_measure_32 : decode cX9_measure 32 = .ok (.getfield 85, 3) := by decide +kernel
theorem dX9_measure_35 : decode cX9_measure 35 = .ok (.invokevirtual 233, 3) := by decide +kernel
theorem dX9_measure_38 : decode cX9_measure 38 = .ok (.aload_n 0, 1) := by decide +kernel
theorem dX9_measure_39 : decode cX9_measure 39 = .ok (.getfield 47, 3) := by decide +kernel
theorem dX9_measure_42 : decode cX9_measure 42 = .ok (.iload_n 1, 1) := by decide +kernel
theorem dX9_measure_43 : decode cX9_measure 43 = .ok (.iload_n 2, 1) := by decide +kernel
theorem dX9_measure_44 : decode cX9_measure 44 = .ok (.invokevirtual 236, 3) := by decide +kernel
theorem dX9_measure_47 : decode cX9_measure 47 = .ok (.ireturn, 1) := by decide +kernel
theorem dX9_halved_0 : decode cX9_halved 0 = .ok (.iload_n 1, 1) := by decide +kernel
theorem dX9_halved_1 : decode cX9_halved 1 = .ok (.invokestatic 208, 3) := by decide +kernel
theorem dX9_halved_4 : decode cX9_halved 4 = .ok (.ifCond .eq 10, 3) := by decide +kernel
theorem dX9_halved_7 : decode cX9_halved 7 = .ok (.iload_n 2, 1) := by decide +kernel
theorem dX9_halved_8 : decode cX9_halved 8 = .ok (.invokestatic 208, 3) := by decide +kernel
theorem dX9_halved_11 : decode cX9_halved 11 = .ok (.ifCond .ne 13, 3) := by decide +kernel
theorem dX9_halved_14 : decode cX9_halved 14 = .ok (.new 211, 3) := by decide +kernel
theorem dX9_halved_17 : decode cX9_halved 17 = .ok (.dup, 1) := by decide +kernel
theorem dX9_halved_18 : decode cX9_halved 18 = .ok (.ldc 231, 2) := by decide +kernel
theorem dX9_halved_20 : decode cX9_halved 20 = .ok (.invokespecial 215, 3) := by decide +kernel
theorem dX9_halved_23 : decode cX9_halved 23 = .ok (.athrow, 1) := by decide +kernel
theorem dX9_halved_24 : decode cX9_halved 24 = .ok (.aload_n 0, 1) := by decide +kernel
theorem dX9_halved_25 : decode cX9_halved 25 = .ok (.getfield 47, 3) := by decide +kernel
theorem dX9_halved_28 : decode cX9_halved 28 = .ok (.aload_n 0, 1) := by decide +kernel
theorem dX9_halved_29 : decode cX9_halved 29 = .ok (.getfield 10, 3) := by decide +kernel
theorem dX9_halved_32 : decode cX9_halved 32 = .ok (.getfield 85, 3) := by decide +kernel
theorem dX9_halved_35 : decode cX9_halved 35 = .ok (.invokevirtual 239, 3) := by decide +kernel
theorem dX9_halved_38 : decode cX9_halved 38 = .ok (.aload_n 0, 1) := by decide +kernel
theorem dX9_halved_39 : decode cX9_halved 39 = .ok (.getfield 47, 3) := by decide +kernel
theorem dX9_halved_42 : decode cX9_halved 42 = .ok (.iload_n 1, 1) := by decide +kernel
theorem dX9_halved_43 : decode cX9_halved 43 = .ok (.iload_n 2, 1) := by decide +kernel
theorem dX9_halved_44 : decode cX9_halved 44 = .ok (.invokevirtual 242, 3) := by decide +kernel
theorem dX9_halved_47 : decode cX9_halved 47 = .ok (.ireturn, 1) := by decide +kernel
theorem dX9_count_0 : decode cX9_count 0 = .ok (.iload_n 1, 1) := by decide +kernel
theorem dX9_count_1 : decode cX9_count 1 = .ok (.ifCond .lt 9, 3) := by decide +kernel
theorem dX9_count_4 : decode cX9_count 4 = .ok (.iload_n 1, 1) := by decide +kernel
theorem dX9_count_5 : decode cX9_count 5 = .ok (.bipush 8, 2) := by decide +kernel
theorem dX9_count_7 : decode cX9_count 7 = .ok (.if_icmp .lt 13, 3) := by decide +kernel
theorem dX9_count_10 : decode cX9_count 10 = .ok (.new 78, 3) := by decide +kernel
theorem dX9_count_13 : decode cX9_count 13 = .ok (.dup, 1) := by decide +kernel
theorem dX9_count_14 : decode cX9_count 14 = .ok (.ldc 245, 2) := by decide +kernel
theorem dX9_count_16 : decode cX9_count 16 = .ok (.invokespecial 82, 3) := by decide +kernel
theorem dX9_count_19 : decode cX9_count 19 = .ok (.athrow, 1) := by decide +kernel
theorem dX9_count_20 : decode cX9_count 20 = .ok (.aload_n 0, 1) := by decide +kernel
theorem dX9_count_21 : decode cX9_count 21 = .ok (.iload_n 1, 1) := by decide +kernel
theorem dX9_count_22 : decode cX9_count 22 = .ok (.invokevirtual 247, 3) := by decide +kernel
theorem dX9_count_25 : decode cX9_count 25 = .ok (.ireturn, 1) := by decide +kernel
theorem dX9_whyNot_0 : decode cX9_whyNot 0 = .ok (.iload_n 1, 1) := by decide +kernel
theorem dX9_whyNot_1 : decode cX9_whyNot 1 = .ok (.invokestatic 110, 3) := by decide +kernel
theorem dX9_whyNot_4 : decode cX9_whyNot 4 = .ok (.ifCond .eq 7, 3) := by decide +kernel
theorem dX9_whyNot_7 : decode cX9_whyNot 7 = .ok (.iload_n 2, 1) := by decide +kernel
theorem dX9_whyNot_8 : decode cX9_whyNot 8 = .ok (.ifCond .ge 13, 3) := by decide +kernel
theorem dX9_whyNot_11 : decode cX9_whyNot 11 = .ok (.new 78, 3) := by decide +kernel
theorem dX9_whyNot_14 : decode cX9_whyNot 14 = .ok (.dup, 1) := by decide +kernel
theorem dX9_whyNot_15 : decode cX9_whyNot 15 = .ok (.ldc 113, 2) := by decide +kernel
theorem dX9_whyNot_17 : decode cX9_whyNot 17 = .ok (.invokespecial 82, 3) := by decide +kernel
theorem dX9_whyNot_20 : decode cX9_whyNot 20 = .ok (.athrow, 1) := by decide +kernel
theorem dX9_whyNot_21 : decode cX9_whyNot 21 = .ok (.aload_n 0, 1) := by decide +kernel
theorem dX9_whyNot_22 : decode cX9_whyNot 22 = .ok (.getfield 10, 3) := by decide +kernel
theorem dX9_whyNot_25 : decode cX9_whyNot 25 = .ok (.getfield 85, 3) := by decide +kernel
theorem dX9_whyNot_28 : decode cX9_whyNot 28 = .ok (.iload_n 1, 1) := by decide +kernel
theorem dX9_whyNot_29 : decode cX9_whyNot 29 = .ok (.iload_n 2, 1) := by decide +kernel
theorem dX9_whyNot_30 : decode cX9_whyNot 30 = .ok (.invokestatic 115, 3) := by decide +kernel
theorem dX9_whyNot_33 : decode cX9_whyNot 33 = .ok (.ireturn, 1) := by decide +kernel
theorem dX9_possible_0 : decode cX9_possible 0 = .ok (.iload_n 1, 1) := by decide +kernel
theorem dX9_possible_1 : decode cX9_possible 1 = .ok (.invokestatic 110, 3) := by decide +kernel
theorem dX9_possible_4 : decode cX9_possible 4 = .ok (.ifCond .ne 14, 3) := by decide +kernel
theorem dX9_possible_7 : decode cX9_possible 7 = .ok (.new 78, 3) := by decide +kernel
theorem dX9_possible_10 : decode cX9_possible 10 = .ok (.dup, 1) := by decide +kernel
theorem dX9_possible_11 : decode cX9_possible 11 = .ok (.ldc_w 276, 3) := by decide +kernel
theorem dX9_possible_14 : decode cX9_possible 14 = .ok (.invokespecial 82, 3) := by decide +kernel
theorem dX9_possible_17 : decode cX9_possible 17 = .ok (.athrow, 1) := by decide +kernel
theorem dX9_possible_18 : decode cX9_possible 18 = .ok (.aload_n 0, 1) := by decide +kernel
theorem dX9_possible_19 : decode cX9_possible 19 = .ok (.getfield 10, 3) := by decide +kernel
theorem dX9_possible_22 : decode cX9_possible 22 = .ok (.getfield 85, 3) := by decide +kernel
theorem dX9_possible_25 : decode cX9_possible 25 = .ok (.iload_n 1, 1) := by decide +kernel
theorem dX9_possible_26 : decode cX9_possible 26 = .ok (.invokestatic 278, 3) := by decide +kernel
theorem dX9_possible_29 : decode cX9_possible 29 = .ok (.ireturn, 1) := by decide +kernel
theorem dX9_bestMove_0 : decode cX9_bestMove 0 = .ok (.aload_n 0, 1) := by decide +kernel
theorem dX9_bestMove_1 : decode cX9_bestMove 1 = .ok (.getfield 10, 3) := by decide +kernel
theorem dX9_bestMove_4 : decode cX9_bestMove 4 = .ok (.getfield 85, 3) := by decide +kernel
theorem dX9_bestMove_7 : decode cX9_bestMove 7 = .ok (.iconst 0, 1) := by decide +kernel
theorem dX9_bestMove_8 : decode cX9_bestMove 8 = .ok (.invokestatic 278, 3) := by decide +kernel
theorem dX9_bestMove_11 : decode cX9_bestMove 11 = .ok (.istore_n 1, 1) := by decide +kernel
theorem dX9_bestMove_12 : decode cX9_bestMove 12 = .ok (.iconst 1, 1) := by decide +kernel
theorem dX9_bestMove_13 : decode cX9_bestMove 13 = .ok (.istore_n 2, 1) := by decide +kernel
theorem dX9_bestMove_14 : decode cX9_bestMove 14 = .ok (.iload_n 2, 1) := by decide +kernel
theorem dX9_bestMove_15 : decode cX9_bestMove 15 = .ok (.iconst 2, 1) := by decide +kernel
theorem dX9_bestMove_16 : decode cX9_bestMove 16 = .ok (.if_icmp .gt 63, 3) := by decide +kernel
theorem dX9_bestMove_19 : decode cX9_bestMove 19 = .ok (.iconst 0, 1) := by decide +kernel
theorem dX9_bestMove_20 : decode cX9_bestMove 20 = .ok (.istore_n 3, 1) := by decide +kernel
theorem dX9_bestMove_21 : decode cX9_bestMove 21 = .ok (.iload_n 3, 1) := by decide +kernel
theorem dX9_bestMove_22 : decode cX9_bestMove 22 = .ok (.aload_n 0, 1) := by decide +kernel
theorem dX9_bestMove_23 : decode cX9_bestMove 23 = .ok (.getfield 10, 3) := by decide +kernel
theorem dX9_bestMove_26 : decode cX9_bestMove 26 = .ok (.getfield 85, 3) := by decide +kernel
theorem dX9_bestMove_29 : decode cX9_bestMove 29 = .ok (.getfield 88, 3) := by decide +kernel
theorem dX9_bestMove_32 : decode cX9_bestMove 32 = .ok (.if_icmp .ge 41, 3) := by decide +kernel
theorem dX9_bestMove_35 : decode cX9_bestMove 35 = .ok (.aload_n 0, 1) := by decide +kernel
theorem dX9_bestMove_36 : decode cX9_bestMove 36 = .ok (.getfield 10, 3) := by decide +kernel
theorem dX9_bestMove_39 : decode cX9_bestMove 39 = .ok (.getfield 85, 3) := by decide +kernel
theorem dX9_bestMove_42 : decode cX9_bestMove 42 = .ok (.iload_n 2, 1) := by decide +kernel
theorem dX9_bestMove_43 : decode cX9_bestMove 43 = .ok (.iload_n 3, 1) := by decide +kernel
theorem dX9_bestMove_44 : decode cX9_bestMove 44 = .ok (.invokestatic 115, 3) := by decide +kernel
theorem dX9_bestMove_47 : decode cX9_bestMove 47 = .ok (.ifCond .ne 20, 3) := by decide +kernel
theorem dX9_bestMove_50 : decode cX9_bestMove 50 = .ok (.aload_n 0, 1) := by decide +kernel
theorem dX9_bestMove_51 : decode cX9_bestMove 51 = .ok (.iload_n 2, 1) := by decide +kernel
theorem dX9_bestMove_52 : decode cX9_bestMove 52 = .ok (.iload_n 3, 1) := by decide +kernel
theorem dX9_bestMove_53 : decode cX9_bestMove 53 = .ok (.invokevirtual 281, 3) := by decide +kernel
theorem dX9_bestMove_56 : decode cX9_bestMove 56 = .ok (.iload_n 1, 1) := by decide +kernel
theorem dX9_bestMove_57 : decode cX9_bestMove 57 = .ok (.if_icmp .le 10, 3) := by decide +kernel
theorem dX9_bestMove_60 : decode cX9_bestMove 60 = .ok (.bipush 31, 2) := by decide +kernel
theorem dX9_bestMove_62 : decode cX9_bestMove 62 = .ok (.iload_n 2, 1) := by decide +kernel
theorem dX9_bestMove_63 : decode cX9_bestMove 63 = .ok (.imul, 1) := by decide +kernel
theorem dX9_bestMove_64 : decode cX9_bestMove 64 = .ok (.iload_n 3, 1) := by decide +kernel
theorem dX9_bestMove_65 : decode cX9_bestMove 65 = .ok (.iadd, 1) := by decide +kernel
theorem dX9_bestMove_66 : decode cX9_bestMove 66 = .ok (.ireturn, 1) := by decide +kernel
theorem dX9_bestMove_67 : decode cX9_bestMove 67 = .ok (.iinc 3 1, 3) := by decide +kernel
theorem dX9_bestMove_70 : decode cX9_bestMove 70 = .ok (.goto (-49), 3) := by decide +kernel
theorem dX9_bestMove_73 : decode cX9_bestMove 73 = .ok (.iinc 2 1, 3) := by decide +kernel
theorem dX9_bestMove_76 : decode cX9_bestMove 76 = .ok (.goto (-62), 3) := by decide +kernel
theorem dX9_bestMove_79 : decode cX9_bestMove 79 = .ok (.iconst (-1), 1) := by decide +kernel
theorem dX9_bestMove_80 : decode cX9_bestMove 80 = .ok (.ireturn, 1) := by decide +kernel
theorem dX9_slack_0 : decode cX9_slack 0 = .ok (.aload_n 0, 1) := by decide +kernel
theorem dX9_slack_1 : decode cX9_slack 1 = .ok (.getfield 10, 3) := by decide +kernel
theorem dX9_slack_4 : decode cX9_slack 4 = .ok (.getfield 85, 3) := by decide +kernel
theorem dX9_slack_7 : decode cX9_slack 7 = .ok (.getfield 88, 3) := by decide +kernel
theorem dX9_slack_10 : decode cX9_slack 10 = .ok (.istore_n 1, 1) := by decide +kernel
theorem dX9_slack_11 : decode cX9_slack 11 = .ok (.iload_n 1, 1) := by decide +kernel
theorem dX9_slack_12 : decode cX9_slack 12 = .ok (.ifCond .ne 5, 3) := by decide +kernel
theorem dX9_slack_15 : decode cX9_slack 15 = .ok (.dconst 0, 1) := by decide +kernel
theorem dX9_slack_16 : decode cX9_slack 16 = .ok (.dreturn, 1) := by decide +kernel
theorem dX9_slack_17 : decode cX9_slack 17 = .ok (.aload_n 0, 1) := by decide +kernel
theorem dX9_slack_18 : decode cX9_slack 18 = .ok (.getfield 70, 3) := by decide +kernel
theorem dX9_slack_21 : decode cX9_slack 21 = .ok (.aload_n 0, 1) := by decide +kernel
theorem dX9_slack_22 : decode cX9_slack 22 = .ok (.getfield 10, 3) := by decide +kernel
theorem dX9_slack_25 : decode cX9_slack 25 = .ok (.getfield 85, 3) := by decide +kernel
theorem dX9_slack_28 : decode cX9_slack 28 = .ok (.invokevirtual 149, 3) := by decide +kernel
theorem dX9_slack_31 : decode cX9_slack 31 = .ok (.aload_n 0, 1) := by decide +kernel
theorem dX9_slack_32 : decode cX9_slack 32 = .ok (.getfield 70, 3) := by decide +kernel
theorem dX9_slack_35 : decode cX9_slack 35 = .ok (.invokevirtual 138, 3) := by decide +kernel
theorem dX9_slack_38 : decode cX9_slack 38 = .ok (.i2d, 1) := by decide +kernel
theorem dX9_slack_39 : decode cX9_slack 39 = .ok (.iload_n 1, 1) := by decide +kernel
theorem dX9_slack_40 : decode cX9_slack 40 = .ok (.i2d, 1) := by decide +kernel
theorem dX9_slack_41 : decode cX9_slack 41 = .ok (.ddiv, 1) := by decide +kernel
theorem dX9_slack_42 : decode cX9_slack 42 = .ok (.dreturn, 1) := by decide +kernel
theorem dX9_countOf_0 : decode cX9_countOf 0 = .ok (.iload_n 1, 1) := by decide +kernel
theorem dX9_countOf_1 : decode cX9_countOf 1 = .ok (.tableswitch 144 0 6 #[43, 54, 68, 76, 87, 98, 121], 43) := by decide +kernel
theorem dX9_countOf_44 : decode cX9_countOf 44 = .ok (.aload_n 0, 1) := by decide +kernel
theorem dX9_countOf_45 : decode cX9_countOf 45 = .ok (.getfield 10, 3) := by decide +kernel
theorem dX9_countOf_48 : decode cX9_countOf 48 = .ok (.getfield 85, 3) := by decide +kernel
theorem dX9_countOf_51 : decode cX9_countOf 51 = .ok (.getfield 88, 3) := by decide +kernel
theorem dX9_countOf_54 : decode cX9_countOf 54 = .ok (.ireturn, 1) := by decide +kernel
theorem dX9_countOf_55 : decode cX9_countOf 55 = .ok (.aload_n 0, 1) := by decide +kernel
theorem dX9_countOf_56 : decode cX9_countOf 56 = .ok (.getfield 10, 3) := by decide +kernel
theorem dX9_countOf_59 : decode cX9_countOf 59 = .ok (.getfield 85, 3) := by decide +kernel
theorem dX9_countOf_62 : decode cX9_countOf 62 = .ok (.invokevirtual 152, 3) := by decide +kernel
theorem dX9_countOf_65 : decode cX9_countOf 65 = .ok (.bipush 100, 2) := by decide +kernel
theorem dX9_countOf_67 : decode cX9_countOf 67 = .ok (.iadd, 1) := by decide +kernel
theorem dX9_countOf_68 : decode cX9_countOf 68 = .ok (.ireturn, 1) := by decide +kernel
theorem dX9_countOf_69 : decode cX9_countOf 69 = .ok (.aload_n 0, 1) := by decide +kernel
theorem dX9_countOf_70 : decode cX9_countOf 70 = .ok (.getfield 10, 3) := by decide +kernel
theorem dX9_countOf_73 : decode cX9_countOf 73 = .ok (.getfield 127, 3) := by decide +kernel
theorem dX9_countOf_76 : decode cX9_countOf 76 = .ok (.ireturn, 1) := by decide +kernel
theorem dX9_countOf_77 : decode cX9_countOf 77 = .ok (.aload_n 0, 1) := by decide +kernel
theorem dX9_countOf_78 : decode cX9_countOf 78 = .ok (.getfield 10, 3) := by decide +kernel
theorem dX9_countOf_81 : decode cX9_countOf 81 = .ok (.getfield 85, 3) := by decide +kernel
theorem dX9_countOf_84 : decode cX9_countOf 84 = .ok (.invokevirtual 322, 3) := by decide +kernel
theorem dX9_countOf_87 : decode cX9_countOf 87 = .ok (.ireturn, 1) := by decide +kernel
theorem dX9_countOf_88 : decode cX9_countOf 88 = .ok (.aload_n 0, 1) := by decide +kernel
theorem dX9_countOf_89 : decode cX9_countOf 89 = .ok (.getfield 10, 3) := by decide +kernel
theorem dX9_countOf_92 : decode cX9_countOf 92 = .ok (.getfield 85, 3) := by decide +kernel
theorem dX9_countOf_95 : decode cX9_countOf 95 = .ok (.invokevirtual 325, 3) := by decide +kernel
theorem dX9_countOf_98 : decode cX9_countOf 98 = .ok (.ireturn, 1) := by decide +kernel
theorem dX9_countOf_99 : decode cX9_countOf 99 = .ok (.aload_n 0, 1) := by decide +kernel
theorem dX9_countOf_100 : decode cX9_countOf 100 = .ok (.getfield 54, 3) := by decide +kernel
theorem dX9_countOf_103 : decode cX9_countOf 103 = .ok (.aload_n 0, 1) := by decide +kernel
theorem dX9_countOf_104 : decode cX9_countOf 104 = .ok (.getfield 10, 3) := by decide +kernel
theorem dX9_countOf_107 : decode cX9_countOf 107 = .ok (.getfield 85, 3) := by decide +kernel
theorem dX9_countOf_110 : decode cX9_countOf 110 = .ok (.invokevirtual 155, 3) := by decide +kernel
theorem dX9_countOf_113 : decode cX9_countOf 113 = .ok (.pop, 1) := by decide +kernel
theorem dX9_countOf_114 : decode cX9_countOf 114 = .ok (.aload_n 0, 1) := by decide +kernel
theorem dX9_countOf_115 : decode cX9_countOf 115 = .ok (.getfield 54, 3) := by decide +kernel
theorem dX9_countOf_118 : decode cX9_countOf 118 = .ok (.getfield 328, 3) := by decide +kernel
theorem dX9_countOf_121 : decode cX9_countOf 121 = .ok (.ireturn, 1) := by decide +kernel
theorem dX9_countOf_122 : decode cX9_countOf 122 = .ok (.aload_n 0, 1) := by decide +kernel
theorem dX9_countOf_123 : decode cX9_countOf 123 = .ok (.getfield 54, 3) := by decide +kernel
theorem dX9_countOf_126 : decode cX9_countOf 126 = .ok (.aload_n 0, 1) := by decide +kernel
theorem dX9_countOf_127 : decode cX9_countOf 127 = .ok (.getfield 10, 3) := by decide +kernel
theorem dX9_countOf_130 : decode cX9_countOf 130 = .ok (.getfield 85, 3) := by decide +kernel
theorem dX9_countOf_133 : decode cX9_countOf 133 = .ok (.invokevirtual 155, 3) := by decide +kernel
theorem dX9_countOf_136 : decode cX9_countOf 136 = .ok (.pop, 1) := by decide +kernel
theorem dX9_countOf_137 : decode cX9_countOf 137 = .ok (.aload_n 0, 1) := by decide +kernel
theorem dX9_countOf_138 : decode cX9_countOf 138 = .ok (.getfield 54, 3) := by decide +kernel
theorem dX9_countOf_141 : decode cX9_countOf 141 = .ok (.getfield 330, 3) := by decide +kernel
theorem dX9_countOf_144 : decode cX9_countOf 144 = .ok (.ireturn, 1) := by decide +kernel
theorem dX9_countOf_145 : decode cX9_countOf 145 = .ok (.aload_n 0, 1) := by decide +kernel
theorem dX9_countOf_146 : decode cX9_countOf 146 = .ok (.getfield 26, 3) := by decide +kernel
theorem dX9_countOf_149 : decode cX9_countOf 149 = .ok (.getfield 190, 3) := by decide +kernel
theorem dX9_countOf_152 : decode cX9_countOf 152 = .ok (.ireturn, 1) := by decide +kernel
theorem dX9_pairsBehind_0 : decode cX9_pairsBehind 0 = .ok (.aload_n 0, 1) := by decide +kernel
theorem dX9_pairsBehind_1 : decode cX9_pairsBehind 1 = .ok (.getfield 70, 3) := by decide +kernel
theorem dX9_pairsBehind_4 : decode cX9_pairsBehind 4 = .ok (.aload_n 0, 1) := by decide +kernel
theorem dX9_pairsBehind_5 : decode cX9_pairsBehind 5 = .ok (.getfield 10, 3) := by decide +kernel
theorem dX9_pairsBehind_8 : decode cX9_pairsBehind 8 = .ok (.getfield 85, 3) := by decide +kernel
theorem dX9_pairsBehind_11 : decode cX9_pairsBehind 11 = .ok (.invokevirtual 149, 3) := by decide +kernel
theorem dX9_pairsBehind_14 : decode cX9_pairsBehind 14 = .ok (.aload_n 0, 1) := by decide +kernel
theorem dX9_pairsBehind_15 : decode cX9_pairsBehind 15 = .ok (.getfield 70, 3) := by decide +kernel
theorem dX9_pairsBehind_18 : decode cX9_pairsBehind 18 = .ok (.iload_n 1, 1) := by decide +kernel
theorem dX9_pairsBehind_19 : decode cX9_pairsBehind 19 = .ok (.iload_n 2, 1) := by decide +kernel
theorem dX9_pairsBehind_20 : decode cX9_pairsBehind 20 = .ok (.invokestatic 123, 3) := by decide +kernel
theorem dX9_pairsBehind_23 : decode cX9_pairsBehind 23 = .ok (.aload_n 0, 1) := by decide +kernel
theorem dX9_pairsBehind_24 : decode cX9_pairsBehind 24 = .ok (.getfield 70, 3) := by decide +kernel
theorem dX9_pairsBehind_27 : decode cX9_pairsBehind 27 = .ok (.iconst 0, 1) := by decide +kernel
theorem dX9_pairsBehind_28 : decode cX9_pairsBehind 28 = .ok (.invokestatic 278, 3) := by decide +kernel
theorem dX9_pairsBehind_31 : decode cX9_pairsBehind 31 = .ok (.ireturn, 1) := by decide +kernel
theorem dX9_crossingOrNone_0 : decode cX9_crossingOrNone 0 = .ok (.iload_n 1, 1) := by decide +kernel
theorem dX9_crossingOrNone_1 : decode cX9_crossingOrNone 1 = .ok (.aload_n 0, 1) := by decide +kernel
theorem dX9_crossingOrNone_2 : decode cX9_crossingOrNone 2 = .ok (.getfield 88, 3) := by decide +kernel
theorem dX9_crossingOrNone_5 : decode cX9_crossingOrNone 5 = .ok (.if_icmp .ge 14, 3) := by decide +kernel
theorem dX9_crossingOrNone_8 : decode cX9_crossingOrNone 8 = .ok (.aload_n 0, 1) := by decide +kernel
theorem dX9_crossingOrNone_9 : decode cX9_crossingOrNone 9 = .ok (.iload_n 1, 1) := by decide +kernel
theorem dX9_crossingOrNone_10 : decode cX9_crossingOrNone 10 = .ok (.invokevirtual 106, 3) := by decide +kernel
theorem dX9_crossingOrNone_13 : decode cX9_crossingOrNone 13 = .ok (.bipush 10, 2) := by decide +kernel
theorem dX9_crossingOrNone_15 : decode cX9_crossingOrNone 15 = .ok (.iadd, 1) := by decide +kernel
theorem dX9_crossingOrNone_16 : decode cX9_crossingOrNone 16 = .ok (.goto 4, 3) := by decide +kernel
theorem dX9_crossingOrNone_19 : decode cX9_crossingOrNone 19 = .ok (.iconst (-1), 1) := by decide +kernel
theorem dX9_crossingOrNone_20 : decode cX9_crossingOrNone 20 = .ok (.ireturn, 1) := by decide +kernel
theorem dX9_isMove_0 : decode cX9_isMove 0 = .ok (.iload_n 0, 1) := by decide +kernel
theorem dX9_isMove_1 : decode cX9_isMove 1 = .ok (.ifCond .lt 12, 3) := by decide +kernel
theorem dX9_isMove_4 : decode cX9_isMove 4 = .ok (.iload_n 0, 1) := by decide +kernel
theorem dX9_isMove_5 : decode cX9_isMove 5 = .ok (.iconst 2, 1) := by decide +kernel
theorem dX9_isMove_6 : decode cX9_isMove 6 = .ok (.if_icmp .gt 7, 3) := by decide +kernel
theorem dX9_isMove_9 : decode cX9_isMove 9 = .ok (.iconst 1, 1) := by decide +kernel
theorem dX9_isMove_10 : decode cX9_isMove 10 = .ok (.goto 4, 3) := by decide +kernel
theorem dX9_isMove_13 : decode cX9_isMove 13 = .ok (.iconst 0, 1) := by decide +kernel
theorem dX9_isMove_14 : decode cX9_isMove 14 = .ok (.ireturn, 1) := by decide +kernel
theorem dX9_isLace_0 : decode cX9_isLace 0 = .ok (.iload_n 0, 1) := by decide +kernel
theorem dX9_isLace_1 : decode cX9_isLace 1 = .ok (.ifCond .lt 12, 3) := by decide +kernel
theorem dX9_isLace_4 : decode cX9_isLace 4 = .ok (.iload_n 0, 1) := by decide +kernel
theorem dX9_isLace_5 : decode cX9_isLace 5 = .ok (.iconst 4, 1) := by decide +kernel
theorem dX9_isLace_6 : decode cX9_isLace 6 = .ok (.if_icmp .ge 7, 3) := by decide +kernel
theorem dX9_isLace_9 : decode cX9_isLace 9 = .ok (.iconst 1, 1) := by decide +kernel
theorem dX9_isLace_10 : decode cX9_isLace 10 = .ok (.goto 4, 3) := by decide +kernel
theorem dX9_isLace_13 : decode cX9_isLace 13 = .ok (.iconst 0, 1) := by decide +kernel
theorem dX9_isLace_14 : decode cX9_isLace 14 = .ok (.ireturn, 1) := by decide +kernel
theorem dX9_isCrossing_0 : decode cX9_isCrossing 0 = .ok (.iload_n 0, 1) := by decide +kernel
theorem dX9_isCrossing_1 : decode cX9_isCrossing 1 = .ok (.bipush (-3), 2) := by decide +kernel
theorem dX9_isCrossing_3 : decode cX9_isCrossing 3 = .ok (.if_icmp .lt 16, 3) := by decide +kernel
theorem dX9_isCrossing_6 : decode cX9_isCrossing 6 = .ok (.iload_n 0, 1) := by decide +kernel
theorem dX9_isCrossing_7 : decode cX9_isCrossing 7 = .ok (.iconst 3, 1) := by decide +kernel
theorem dX9_isCrossing_8 : decode cX9_isCrossing 8 = .ok (.if_icmp .gt 11, 3) := by decide +kernel
theorem dX9_isCrossing_11 : decode cX9_isCrossing 11 = .ok (.iload_n 0, 1) := by decide +kernel
theorem dX9_isCrossing_12 : decode cX9_isCrossing 12 = .ok (.ifCond .eq 7, 3) := by decide +kernel
theorem dX9_isCrossing_15 : decode cX9_isCrossing 15 = .ok (.iconst 1, 1) := by decide +kernel
theorem dX9_isCrossing_16 : decode cX9_isCrossing 16 = .ok (.goto 4, 3) := by decide +kernel
theorem dX9_isCrossing_19 : decode cX9_isCrossing 19 = .ok (.iconst 0, 1) := by decide +kernel
theorem dX9_isCrossing_20 : decode cX9_isCrossing 20 = .ok (.ireturn, 1) := by decide +kernel
theorem dX9_rankOf_0 : decode cX9_rankOf 0 = .ok (.iload_n 0, 1) := by decide +kernel
theorem dX9_rankOf_1 : decode cX9_rankOf 1 = .ok (.ifCond .ge 8, 3) := by decide +kernel
theorem dX9_rankOf_4 : decode cX9_rankOf 4 = .ok (.iload_n 0, 1) := by decide +kernel
theorem dX9_rankOf_5 : decode cX9_rankOf 5 = .ok (.ineg, 1) := by decide +kernel
theorem dX9_rankOf_6 : decode cX9_rankOf 6 = .ok (.goto 4, 3) := by decide +kernel
theorem dX9_rankOf_9 : decode cX9_rankOf 9 = .ok (.iload_n 0, 1) := by decide +kernel
theorem dX9_rankOf_10 : decode cX9_rankOf 10 = .ok (.ireturn, 1) := by decide +kernel
theorem dX9_signOf_0 : decode cX9_signOf 0 = .ok (.iload_n 0, 1) := by decide +kernel
theorem dX9_signOf_1 : decode cX9_signOf 1 = .ok (.ifCond .ge 7, 3) := by decide +kernel
theorem dX9_signOf_4 : decode cX9_signOf 4 = .ok (.iconst (-1), 1) := by decide +kernel
theorem dX9_signOf_5 : decode cX9_signOf 5 = .ok (.goto 4, 3) := by decide +kernel
theorem dX9_signOf_8 : decode cX9_signOf 8 = .ok (.iconst 1, 1) := by decide +kernel
theorem dX9_signOf_9 : decode cX9_signOf 9 = .ok (.ireturn, 1) := by decide +kernel
