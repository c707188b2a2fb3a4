theorem dX10_init_0 : decode cX10_init 0 = .ok (.aload_n 0, 1) := by decide +kernel
theorem dX10_init_1 : decode cX10_init 1 = .ok (.invokespecial 1, 3) := by decide +kernel
theorem dX10_init_4 : decode cX10_init 4 = .ok (.aload_n 0, 1) := by decide +kernel
theorem dX10_init_5 : decode cX10_init 5 = .ok (.bipush 32, 2) := by decide +kernel
theorem dX10_init_7 : decode cX10_init 7 = .ok (.newarray .int, 2) := by decide +kernel
theorem dX10_init_9 : decode cX10_init 9 = .ok (.putfield 7, 3) := by decide +kernel
theorem dX10_init_12 : decode cX10_init 12 = .ok (.aload_n 0, 1) := by decide +kernel
theorem dX10_init_13 : decode cX10_init 13 = .ok (.sipush 192, 3) := by decide +kernel
theorem dX10_init_16 : decode cX10_init 16 = .ok (.newarray .int, 2) := by decide +kernel
theorem dX10_init_18 : decode cX10_init 18 = .ok (.putfield 13, 3) := by decide +kernel
theorem dX10_init_21 : decode cX10_init 21 = .ok (.aload_n 0, 1) := by decide +kernel
theorem dX10_init_22 : decode cX10_init 22 = .ok (.bipush 32, 2) := by decide +kernel
theorem dX10_init_24 : decode cX10_init 24 = .ok (.newarray .int, 2) := by decide +kernel
theorem dX10_init_26 : decode cX10_init 26 = .ok (.putfield 16, 3) := by decide +kernel
theorem dX10_init_29 : decode cX10_init 29 = .ok (.aload_n 0, 1) := by decide +kernel
theorem dX10_init_30 : decode cX10_init 30 = .ok (.bipush 60, 2) := by decide +kernel
theorem dX10_init_32 : decode cX10_init 32 = .ok (.newarray .int, 2) := by decide +kernel
theorem dX10_init_34 : decode cX10_init 34 = .ok (.putfield 19, 3) := by decide +kernel
theorem dX10_init_37 : decode cX10_init 37 = .ok (.aload_n 0, 1) := by decide +kernel
theorem dX10_init_38 : decode cX10_init 38 = .ok (.sipush 400, 3) := by decide +kernel
theorem dX10_init_41 : decode cX10_init 41 = .ok (.newarray .int, 2) := by decide +kernel
theorem dX10_init_43 : decode cX10_init 43 = .ok (.putfield 22, 3) := by decide +kernel
theorem dX10_init_46 : decode cX10_init 46 = .ok (.aload_n 0, 1) := by decide +kernel
theorem dX10_init_47 : decode cX10_init 47 = .ok (.sipush 400, 3) := by decide +kernel
theorem dX10_init_50 : decode cX10_init 50 = .ok (.newarray .int, 2) := by decide +kernel
theorem dX10_init_52 : decode cX10_init 52 = .ok (.putfield 25, 3) := by decide +kernel
theorem dX10_init_55 : decode cX10_init 55 = .ok (.aload_n 0, 1) := by decide +kernel
theorem dX10_init_56 : decode cX10_init 56 = .ok (.iconst 4, 1) := by decide +kernel
theorem dX10_init_57 : decode cX10_init 57 = .ok (.newarray .int, 2) := by decide +kernel
theorem dX10_init_59 : decode cX10_init 59 = .ok (.putfield 28, 3) := by decide +kernel
theorem dX10_init_62 : decode cX10_init 62 = .ok (.aload_n 0, 1) := by decide +kernel
theorem dX10_init_63 : decode cX10_init 63 = .ok (.bipush 16, 2) := by decide +kernel
theorem dX10_init_65 : decode cX10_init 65 = .ok (.newarray .int, 2) := by decide +kernel
theorem dX10_init_67 : decode cX10_init 67 = .ok (.putfield 31, 3) := by decide +kernel
theorem dX10_init_70 : decode cX10_init 70 = .ok (.aload_n 0, 1) := by decide +kernel
theorem dX10_init_71 : decode cX10_init 71 = .ok (.bipush 16, 2) := by decide +kernel
theorem dX10_init_73 : decode cX10_init 73 = .ok (.newarray .int, 2) := by decide +kernel
theorem dX10_init_75 : decode cX10_init 75 = .ok (.putfield 34, 3) := by decide +kernel
theorem dX10_init_78 : decode cX10_init 78 = .ok (.aload_n 0, 1) := by decide +kernel
theorem dX10_init_79 : decode cX10_init 79 = .ok (.iconst 0, 1) := by decide +kernel
theorem dX10_init_80 : decode cX10_init 80 = .ok (.putfield 37, 3) := by decide +kernel
theorem dX10_init_83 : decode cX10_init 83 = .ok (.return_, 1) := by decide +kernel
theorem dX10_thrown_0 : decode cX10_thrown 0 = .ok (.aload_n 0, 1) := by decide +kernel
theorem dX10_thrown_1 : decode cX10_thrown 1 = .ok (.getfield 41, 3) := by decide +kernel
theorem dX10_thrown_4 : decode cX10_thrown 4 = .ok (.ireturn, 1) := by decide +kernel
theorem dX10_fails_0 : decode cX10_fails 0 = .ok (.aload_n 0, 1) := by decide +kernel
theorem dX10_fails_1 : decode cX10_fails 1 = .ok (.iload_n 1, 1) := by decide +kernel
theorem dX10_fails_2 : decode cX10_fails 2 = .ok (.putfield 41, 3) := by decide +kernel
theorem dX10_fails_5 : decode cX10_fails 5 = .ok (.iconst 0, 1) := by decide +kernel
theorem dX10_fails_6 : decode cX10_fails 6 = .ok (.ireturn, 1) := by decide +kernel
theorem dX10_within_0 : decode cX10_within 0 = .ok (.iload_n 0, 1) := by decide +kernel
theorem dX10_within_1 : decode cX10_within 1 = .ok (.iload_n 1, 1) := by decide +kernel
theorem dX10_within_2 : decode cX10_within 2 = .ok (.if_icmp .lt 12, 3) := by decide +kernel
theorem dX10_within_5 : decode cX10_within 5 = .ok (.iload_n 0, 1) := by decide +kernel
theorem dX10_within_6 : decode cX10_within 6 = .ok (.iload_n 2, 1) := by decide +kernel
theorem dX10_within_7 : decode cX10_within 7 = .ok (.if_icmp .gt 7, 3) := by decide +kernel
theorem dX10_within_10 : decode cX10_within 10 = .ok (.iconst 1, 1) := by decide +kernel
theorem dX10_within_11 : decode cX10_within 11 = .ok (.goto 4, 3) := by decide +kernel
theorem dX10_within_14 : decode cX10_within 14 = .ok (.iconst 0, 1) := by decide +kernel
theorem dX10_within_15 : decode cX10_within 15 = .ok (.ireturn, 1) := by decide +kernel
theorem dX10_rankOf_0 : decode cX10_rankOf 0 = .ok (.iload_n 0, 1) := by decide +kernel
theorem dX10_rankOf_1 : decode cX10_rankOf 1 = .ok (.ifCond .ge 8, 3) := by decide +kernel
theorem dX10_rankOf_4 : decode cX10_rankOf 4 = .ok (.iload_n 0, 1) := by decide +kernel
theorem dX10_rankOf_5 : decode cX10_rankOf 5 = .ok (.ineg, 1) := by decide +kernel
theorem dX10_rankOf_6 : decode cX10_rankOf 6 = .ok (.goto 4, 3) := by decide +kernel
theorem dX10_rankOf_9 : decode cX10_rankOf 9 = .ok (.iload_n 0, 1) := by decide +kernel
theorem dX10_rankOf_10 : decode cX10_rankOf 10 = .ok (.ireturn, 1) := by decide +kernel
theorem dX10_signOf_0 : decode cX10_signOf 0 = .ok (.iload_n 0, 1) := by decide +kernel
theorem dX10_signOf_1 : decode cX10_signOf 1 = .ok (.ifCond .ge 7, 3) := by decide +kernel
theorem dX10_signOf_4 : decode cX10_signOf 4 = .ok (.iconst (-1), 1) := by decide +kernel
theorem dX10_signOf_5 : decode cX10_signOf 5 = .ok (.goto 4, 3) := by decide +kernel
theorem dX10_signOf_8 : decode cX10_signOf 8 = .ok (.iconst 1, 1) := by decide +kernel
theorem dX10_signOf_9 : decode cX10_signOf 9 = .ok (.ireturn, 1) := by decide +kernel
theorem dX10_isCrossing_0 : decode cX10_isCrossing 0 = .ok (.iload_n 0, 1) := by decide +kernel
theorem dX10_isCrossing_1 : decode cX10_isCrossing 1 = .ok (.ifCond .eq 17, 3) := by decide +kernel
theorem dX10_isCrossing_4 : decode cX10_isCrossing 4 = .ok (.iload_n 0, 1) := by decide +kernel
theorem dX10_isCrossing_5 : decode cX10_isCrossing 5 = .ok (.bipush (-3), 2) := by decide +kernel
theorem dX10_isCrossing_7 : decode cX10_isCrossing 7 = .ok (.iconst 3, 1) := by decide +kernel
theorem dX10_isCrossing_8 : decode cX10_isCrossing 8 = .ok (.invokestatic 45, 3) := by decide +kernel
theorem dX10_isCrossing_11 : decode cX10_isCrossing 11 = .ok (.ifCond .eq 7, 3) := by decide +kernel
theorem dX10_isCrossing_14 : decode cX10_isCrossing 14 = .ok (.iconst 1, 1) := by decide +kernel
theorem dX10_isCrossing_15 : decode cX10_isCrossing 15 = .ok (.goto 4, 3) := by decide +kernel
theorem dX10_isCrossing_18 : decode cX10_isCrossing 18 = .ok (.iconst 0, 1) := by decide +kernel
theorem dX10_isCrossing_19 : decode cX10_isCrossing 19 = .ok (.ireturn, 1) := by decide +kernel
theorem dX10_of_0 : decode cX10_of 0 = .ok (.aload_n 0, 1) := by decide +kernel
theorem dX10_of_1 : decode cX10_of 1 = .ok (.getfield 7, 3) := by decide +kernel
theorem dX10_of_4 : decode cX10_of 4 = .ok (.iconst 2, 1) := by decide +kernel
theorem dX10_of_5 : decode cX10_of 5 = .ok (.iload_n 1, 1) := by decide +kernel
theorem dX10_of_6 : decode cX10_of 6 = .ok (.iadd, 1) := by decide +kernel
theorem dX10_of_7 : decode cX10_of 7 = .ok (.iaload, 1) := by decide +kernel
theorem dX10_of_8 : decode cX10_of 8 = .ok (.ireturn, 1) := by decide +kernel
theorem dX10_save_0 : decode cX10_save 0 = .ok (.aload_n 0, 1) := by decide +kernel
theorem dX10_save_1 : decode cX10_save 1 = .ok (.getfield 49, 3) := by decide +kernel
theorem dX10_save_4 : decode cX10_save 4 = .ok (.bipush 6, 2) := by decide +kernel
theorem dX10_save_6 : decode cX10_save 6 = .ok (.if_icmp .ne 43, 3) := by decide +kernel
theorem dX10_save_9 : decode cX10_save 9 = .ok (.iconst 0, 1) := by decide +kernel
theorem dX10_save_10 : decode cX10_save 10 = .ok (.istore_n 1, 1) := by decide +kernel
theorem dX10_save_11 : decode cX10_save 11 = .ok (.iload_n 1, 1) := by decide +kernel
theorem dX10_save_12 : decode cX10_save 12 = .ok (.sipush 160, 3) := by decide +kernel
theorem dX10_save_15 : decode cX10_save 15 = .ok (.if_icmp .ge 24, 3) := by decide +kernel
theorem dX10_save_18 : decode cX10_save 18 = .ok (.aload_n 0, 1) := by decide +kernel
theorem dX10_save_19 : decode cX10_save 19 = .ok (.getfield 13, 3) := by decide +kernel
theorem dX10_save_22 : decode cX10_save 22 = .ok (.iload_n 1, 1) := by decide +kernel
theorem dX10_save_23 : decode cX10_save 23 = .ok (.aload_n 0, 1) := by decide +kernel
theorem dX10_save_24 : decode cX10_save 24 = .ok (.getfield 13, 3) := by decide +kernel
theorem dX10_save_27 : decode cX10_save 27 = .ok (.iload_n 1, 1) := by decide +kernel
theorem dX10_save_28 : decode cX10_save 28 = .ok (.bipush 32, 2) := by decide +kernel
theorem dX10_save_30 : decode cX10_save 30 = .ok (.iadd, 1) := by decide +kernel
theorem dX10_save_31 : decode cX10_save 31 = .ok (.iaload, 1) := by decide +kernel
theorem dX10_save_32 : decode cX10_save 32 = .ok (.iastore, 1) := by decide +kernel
theorem dX10_save_33 : decode cX10_save 33 = .ok (.iinc 1 1, 3) := by decide +kernel
theorem dX10_save_36 : decode cX10_save 36 = .ok (.goto (-25), 3) := by decide +kernel
theorem dX10_save_39 : decode cX10_save 39 = .ok (.aload_n 0, 1) := by decide +kernel
theorem dX10_save_40 : decode cX10_save 40 = .ok (.dup, 1) := by decide +kernel
theorem dX10_save_41 : decode cX10_save 41 = .ok (.getfield 49, 3) := by decide +kernel
theorem dX10_save_44 : decode cX10_save 44 = .ok (.iconst 1, 1) := by decide +kernel
theorem dX10_save_45 : decode cX10_save 45 = .ok (.isub, 1) := by decide +kernel
theorem dX10_save_46 : decode cX10_save 46 = .ok (.putfield 49, 3) := by decide +kernel
theorem dX10_save_49 : decode cX10_save 49 = .ok (.iconst 0, 1) := by decide +kernel
theorem dX10_save_50 : decode cX10_save 50 = .ok (.istore_n 1, 1) := by decide +kernel
theorem dX10_save_51 : decode cX10_save 51 = .ok (.iload_n 1, 1) := by decide +kernel
theorem dX10_save_52 : decode cX10_save 52 = .ok (.bipush 32, 2) := by decide +kernel
theorem dX10_save_54 : decode cX10_save 54 = .ok (.if_icmp .ge 29, 3) := by decide +kernel
theorem dX10_save_57 : decode cX10_save 57 = .ok (.aload_n 0, 1) := by decide +kernel
theorem dX10_save_58 : decode cX10_save 58 = .ok (.getfield 13, 3) := by decide +kernel
theorem dX10_save_61 : decode cX10_save 61 = .ok (.aload_n 0, 1) := by decide +kernel
theorem dX10_save_62 : decode cX10_save 62 = .ok (.getfield 49, 3) := by decide +kernel
theorem dX10_save_65 : decode cX10_save 65 = .ok (.bipush 32, 2) := by decide +kernel
theorem dX10_save_67 : decode cX10_save 67 = .ok (.imul, 1) := by decide +kernel
theorem dX10_save_68 : decode cX10_save 68 = .ok (.iload_n 1, 1) := by decide +kernel
theorem dX10_save_69 : decode cX10_save 69 = .ok (.iadd, 1) := by decide +kernel
theorem dX10_save_70 : decode cX10_save 70 = .ok (.aload_n 0, 1) := by decide +kernel
theorem dX10_save_71 : decode cX10_save 71 = .ok (.getfield 7, 3) := by decide +kernel
theorem dX10_save_74 : decode cX10_save 74 = .ok (.iload_n 1, 1) := by decide +kernel
theorem dX10_save_75 : decode cX10_save 75 = .ok (.iaload, 1) := by decide +kernel
theorem dX10_save_76 : decode cX10_save 76 = .ok (.iastore, 1) := by decide +kernel
theorem dX10_save_77 : decode cX10_save 77 = .ok (.iinc 1 1, 3) := by decide +kernel
theorem dX10_save_80 : decode cX10_save 80 = .ok (.goto (-29), 3) := by decide +kernel
theorem dX10_save_83 : decode cX10_save 83 = .ok (.aload_n 0, 1) := by decide +kernel
theorem dX10_save_84 : decode cX10_save 84 = .ok (.dup, 1) := by decide +kernel
theorem dX10_save_85 : decode cX10_save 85 = .ok (.getfield 49, 3) := by decide +kernel
theorem dX10_save_88 : decode cX10_save 88 = .ok (.iconst 1, 1) := by decide +kernel
theorem dX10_save_89 : decode cX10_save 89 = .ok (.iadd, 1) := by decide +kernel
theorem dX10_save_90 : decode cX10_save 90 = .ok (.putfield 49, 3) := by decide +kernel
theorem dX10_save_93 : decode cX10_save 93 = .ok (.return_, 1) := by decide +kernel
theorem dX10_undo_0 : decode cX10_undo 0 = .ok (.aload_n 0, 1) := by decide +kernel
theorem dX10_undo_1 : decode cX10_undo 1 = .ok (.iconst 0, 1) := by decide +kernel
theorem dX10_undo_2 : decode cX10_undo 2 = .ok (.putfield 41, 3) := by decide +kernel
theorem dX10_undo_5 : decode cX10_undo 5 = .ok (.aload_n 0, 1) := by decide +kernel
theorem dX10_undo_6 : decode cX10_undo 6 = .ok (.getfield 49, 3) := by decide +kernel
theorem dX10_undo_9 : decode cX10_undo 9 = .ok (.ifCond .ne 9, 3) := by decide +kernel
theorem dX10_undo_12 : decode cX10_undo 12 = .ok (.aload_n 0, 1) := by decide +kernel
theorem dX10_undo_13 : decode cX10_undo 13 = .ok (.iconst 1, 1) := by decide +kernel
theorem dX10_undo_14 : decode cX10_undo 14 = .ok (.invokevirtual 52, 3) := by decide +kernel
theorem dX10_undo_17 : decode cX10_undo 17 = .ok (.ireturn, 1) := by decide +kernel
theorem dX10_undo_18 : decode cX10_undo 18 = .ok (.aload_n 0, 1) := by decide +kernel
theorem dX10_undo_19 : decode cX10_undo 19 = .ok (.dup, 1) := by decide +kernel
theorem dX10_undo_20 : decode cX10_undo 20 = .ok (.getfield 49, 3) := by decide +kernel
theorem dX10_undo_23 : decode cX10_undo 23 = .ok (.iconst 1, 1) := by decide +kernel
theorem dX10_undo_24 : decode cX10_undo 24 = .ok (.isub, 1) := by decide +kernel
theorem dX10_undo_25 : decode cX10_undo 25 = .ok (.putfield 49, 3) := by decide +kernel
theorem dX10_undo_28 : decode cX10_undo 28 = .ok (.iconst 0, 1) := by decide +kernel
theorem dX10_undo_29 : decode cX10_undo 29 = .ok (.istore_n 1, 1) := by decide +kernel
theorem dX10_undo_30 : decode cX10_undo 30 = .ok (.iload_n 1, 1) := by decide +kernel
theorem dX10_undo_31 : decode cX10_undo 31 = .ok (.bipush 32, 2) := by decide +kernel
theorem dX10_undo_33 : decode cX10_undo 33 = .ok (.if_icmp .ge 29, 3) := by decide +kernel
theorem dX10_undo_36 : decode cX10_undo 36 = .ok (.aload_n 0, 1) := by decide +kernel
theorem dX10_undo_37 : decode cX10_undo 37 = .ok (.getfield 7, 3) := by decide +kernel
theorem dX10_undo_40 : decode cX10_undo 40 = .ok (.iload_n 1, 1) := by decide +kernel
theorem dX10_undo_41 : decode cX10_undo 41 = .ok (.aload_n 0, 1) := by decide +kernel
theorem dX10_undo_42 : decode cX10_undo 42 = .ok (.getfield 13, 3) := by decide +kernel
theorem dX10_undo_45 : decode cX10_undo 45 = .ok (.aload_n 0, 1) := by decide +kernel
theorem dX10_undo_46 : decode cX10_undo 46 = .ok (.getfield 49, 3) := by decide +kernel
theorem dX10_undo_49 : decode cX10_undo 49 = .ok (.bipush 32, 2) := by decide +kernel
theorem dX10_undo_51 : decode cX10_undo 51 = .ok (.imul, 1) := by decide +kernel
theorem dX10_undo_52 : decode cX10_undo 52 = .ok (.iload_n 1, 1) := by decide +kernel
theorem dX10_undo_53 : decode cX10_undo 53 = .ok (.iadd, 1) := by decide +kernel
theorem dX10_undo_54 : decode cX10_undo 54 = .ok (.iaload, 1) := by decide +kernel
theorem dX10_undo_55 : decode cX10_undo 55 = .ok (.iastore, 1) := by decide +kernel
theorem dX10_undo_56 : decode cX10_undo 56 = .ok (.iinc 1 1, 3) := by decide +kernel
theorem dX10_undo_59 : decode cX10_undo 59 = .ok (.goto (-29), 3) := by decide +kernel
theorem dX10_undo_62 : decode cX10_undo 62 = .ok (.aload_n 0, 1) := by decide +kernel
theorem dX10_undo_63 : decode cX10_undo 63 = .ok (.getfield 49, 3) := by decide +kernel
theorem dX10_undo_66 : decode cX10_undo 66 = .ok (.ireturn, 1) := by decide +kernel
theorem dX10_keep_0 : decode cX10_keep 0 = .ok (.aload_n 0, 1) := by decide +kernel
theorem dX10_keep_1 : decode cX10_keep 1 = .ok (.iconst 0, 1) := by decide +kernel
theorem dX10_keep_2 : decode cX10_keep 2 = .ok (.putfield 41, 3) := by decide +kernel
theorem dX10_keep_5 : decode cX10_keep 5 = .ok (.iconst 0, 1) := by decide +kernel
theorem dX10_keep_6 : decode cX10_keep 6 = .ok (.istore_n 1, 1) := by decide +kernel
theorem dX10_keep_7 : decode cX10_keep 7 = .ok (.iload_n 1, 1) := by decide +kernel
theorem dX10_keep_8 : decode cX10_keep 8 = .ok (.bipush 32, 2) := by decide +kernel
theorem dX10_keep_10 : decode cX10_keep 10 = .ok (.if_icmp .ge 21, 3) := by decide +kernel
theorem dX10_keep_13 : decode cX10_keep 13 = .ok (.aload_n 0, 1) := by decide +kernel
theorem dX10_keep_14 : decode cX10_keep 14 = .ok (.getfield 16, 3) := by decide +kernel
theorem dX10_keep_17 : decode cX10_keep 17 = .ok (.iload_n 1, 1) := by decide +kernel
theorem dX10_keep_18 : decode cX10_keep 18 = .ok (.aload_n 0, 1) := by decide +kernel
theorem dX10_keep_19 : decode cX10_keep 19 = .ok (.getfield 7, 3) := by decide +kernel
theorem dX10_keep_22 : decode cX10_keep 22 = .ok (.iload_n 1, 1) := by decide +kernel
theorem dX10_keep_23 : decode cX10_keep 23 = .ok (.iaload, 1) := by decide +kernel
theorem dX10_keep_24 : decode cX10_keep 24 = .ok (.iastore, 1) := by decide +kernel
theorem dX10_keep_25 : decode cX10_keep 25 = .ok (.iinc 1 1, 3) := by decide +kernel
theorem dX10_keep_28 : decode cX10_keep 28 = .ok (.goto (-21), 3) := by decide +kernel
theorem dX10_keep_31 : decode cX10_keep 31 = .ok (.aload_n 0, 1) := by decide +kernel
theorem dX10_keep_32 : decode cX10_keep 32 = .ok (.iconst 1, 1) := by decide +kernel
theorem dX10_keep_33 : decode cX10_keep 33 = .ok (.putfield 37, 3) := by decide +kernel
theorem dX10_keep_36 : decode cX10_keep 36 = .ok (.aload_n 0, 1) := by decide +kernel
theorem dX10_keep_37 : decode cX10_keep 37 = .ok (.getfield 7, 3) := by decide +kernel
theorem dX10_keep_40 : decode cX10_keep 40 = .ok (.iconst 0, 1) := by decide +kernel
theorem dX10_keep_41 : decode cX10_keep 41 = .ok (.iaload, 1) := by decide +kernel
theorem dX10_keep_42 : decode cX10_keep 42 = .ok (.ireturn, 1) := by decide +kernel
theorem dX10_restore_0 : decode cX10_restore 0 = .ok (.aload_n 0, 1) := by decide +kernel
theorem dX10_restore_1 : decode cX10_restore 1 = .ok (.iconst 0, 1) := by decide +kernel
theorem dX10_restore_2 : decode cX10_restore 2 = .ok (.putfield 41, 3) := by decide +kernel
theorem dX10_restore_5 : decode cX10_restore 5 = .ok (.aload_n 0, 1) := by decide +kernel
theorem dX10_restore_6 : decode cX10_restore 6 = .ok (.getfield 37, 3) := by decide +kernel
theorem dX10_restore_9 : decode cX10_restore 9 = .ok (.ifCond .ne 9, 3) := by decide +kernel
theorem dX10_restore_12 : decode cX10_restore 12 = .ok (.aload_n 0, 1) := by decide +kernel
theorem dX10_restore_13 : decode cX10_restore 13 = .ok (.iconst 1, 1) := by decide +kernel
theorem dX10_restore_14 : decode cX10_restore 14 = .ok (.invokevirtual 52, 3) := by decide +kernel
theorem dX10_restore_17 : decode cX10_restore 17 = .ok (.ireturn, 1) := by decide +kernel
theorem dX10_restore_18 : decode cX10_restore 18 = .ok (.aload_n 0, 1) := by decide +kernel
theorem dX10_restore_19 : decode cX10_restore 19 = .ok (.invokevirtual 56, 3) := by decide +kernel
theorem dX10_restore_22 : decode cX10_restore 22 = .ok (.iconst 0, 1) := by decide +kernel
theorem dX10_restore_23 : decode cX10_restore 23 = .ok (.istore_n 1, 1) := by decide +kernel
theorem dX10_restore_24 : decode cX10_restore 24 = .ok (.iload_n 1, 1) := by decide +kernel
theorem dX10_restore_25 : decode cX10_restore 25 = .ok (.bipush 32, 2) := by decide +kernel
theorem dX10_restore_27 : decode cX10_restore 27 = .ok (.if_icmp .ge 21, 3) := by decide +kernel
theorem dX10_restore_30 : decode cX10_restore 30 = .ok (.aload_n 0, 1) := by decide +kernel
theorem dX10_restore_31 : decode cX10_restore 31 = .ok (.getfield 7, 3) := by decide +kernel
theorem dX10_restore_34 : decode cX10_restore 34 = .ok (.iload_n 1, 1) := by decide +kernel
theorem dX10_restore_35 : decode cX10_restore 35 = .ok (.aload_n 0, 1) := by decide +kernel
theorem dX10_restore_36 : decode cX10_restore 36 = .ok (.getfield 16, 3) := by decide +kernel
theorem dX10_restore_39 : decode cX10_restore 39 = .ok (.iload_n 1, 1) := by decide +kernel
theorem dX10_restore_40 : decode cX10_restore 40 = .ok (.iaload, 1) := by decide +kernel
theorem dX10_restore_41 : decode cX10_restore 41 = .ok (.iastore, 1) := by decide +kernel
theorem dX10_restore_42 : decode cX10_restore 42 = .ok (.iinc 1 1, 3) := by decide +kernel
theorem dX10_restore_45 : decode cX10_restore 45 = .ok (.goto (-21), 3) := by decide +kernel
theorem dX10_restore_48 : decode cX10_restore 48 = .ok (.aload_n 0, 1) := by decide +kernel
theorem dX10_restore_49 : decode cX10_restore 49 = .ok (.getfield 7, 3) := by decide +kernel
theorem dX10_restore_52 : decode cX10_restore 52 = .ok (.iconst 0, 1) := by decide +kernel
theorem dX10_restore_53 : decode cX10_restore 53 = .ok (.iaload, 1) := by decide +kernel
theorem dX10_restore_54 : decode cX10_restore 54 = .ok (.ireturn, 1) := by decide +kernel
theorem dX10_takeRow_0 : decode cX10_takeRow 0 = .ok (.aload_n 0, 1) := by decide +kernel
theorem dX10_takeRow_1 : decode cX10_takeRow 1 = .ok (.aload_n 0, 1) := by decide +kernel
theorem dX10_takeRow_2 : decode cX10_takeRow 2 = .ok (.getfield 7, 3) := by decide +kernel
theorem dX10_takeRow_5 : decode cX10_takeRow 5 = .ok (.iconst 0, 1) := by decide +kernel
theorem dX10_takeRow_6 : decode cX10_takeRow 6 = .ok (.iaload, 1) := by decide +kernel
theorem dX10_takeRow_7 : decode cX10_takeRow 7 = .ok (.putfield 59, 3) := by decide +kernel
theorem dX10_takeRow_10 : decode cX10_takeRow 10 = .ok (.iconst 0, 1) := by decide +kernel
theorem dX10_takeRow_11 : decode cX10_takeRow 11 = .ok (.istore_n 1, 1) := by decide +kernel
theorem dX10_takeRow_12 : decode cX10_takeRow 12 = .ok (.iload_n 1, 1) := by decide +kernel
theorem dX10_takeRow_13 : decode cX10_takeRow 13 = .ok (.aload_n 0, 1) := by decide +kernel
theorem dX10_takeRow_14 : decode cX10_takeRow 14 = .ok (.getfield 59, 3) := by decide +kernel
theorem dX10_takeRow_17 : decode cX10_takeRow 17 = .ok (.if_icmp .ge 20, 3) := by decide +kernel
theorem dX10_takeRow_20 : decode cX10_takeRow 20 = .ok (.aload_n 0, 1) := by decide +kernel
theorem dX10_takeRow_21 : decode cX10_takeRow 21 = .ok (.getfield 22, 3) := by decide +kernel
theorem dX10_takeRow_24 : decode cX10_takeRow 24 = .ok (.iload_n 1, 1) := by decide +kernel
theorem dX10_takeRow_25 : decode cX10_takeRow 25 = .ok (.aload_n 0, 1) := by decide +kernel
theorem dX10_takeRow_26 : decode cX10_takeRow 26 = .ok (.iload_n 1, 1) := by decide +kernel
theorem dX10_takeRow_27 : decode cX10_takeRow 27 = .ok (.invokevirtual 62, 3) := by decide +kernel
theorem dX10_takeRow_30 : decode cX10_takeRow 30 = .ok (.iastore, 1) := by decide +kernel
theorem dX10_takeRow_31 : decode cX10_takeRow 31 = .ok (.iinc 1 1, 3) := by decide +kernel
theorem dX10_takeRow_34 : decode cX10_takeRow 34 = .ok (.goto (-22), 3) := by decide +kernel
theorem dX10_takeRow_37 : decode cX10_takeRow 37 = .ok (.return_, 1) := by decide +kernel
theorem dX10_giveRow_0 : decode cX10_giveRow 0 = .ok (.aload_n 0, 1) := by decide +kernel
theorem dX10_giveRow_1 : decode cX10_giveRow 1 = .ok (.getfield 7, 3) := by decide +kernel
theorem dX10_giveRow_4 : decode cX10_giveRow 4 = .ok (.iconst 0, 1) := by decide +kernel
theorem dX10_giveRow_5 : decode cX10_giveRow 5 = .ok (.aload_n 0, 1) := by decide +kernel
theorem dX10_giveRow_6 : decode cX10_giveRow 6 = .ok (.getfield 59, 3) := by decide +kernel
theorem dX10_giveRow_9 : decode cX10_giveRow 9 = .ok (.iastore, 1) := by decide +kernel
theorem dX10_giveRow_10 : decode cX10_giveRow 10 = .ok (.iconst 0, 1) := by decide +kernel
theorem dX10_giveRow_11 : decode cX10_giveRow 11 = .ok (.istore_n 1, 1) := by decide +kernel
theorem dX10_giveRow_12 : decode cX10_giveRow 12 = .ok (.iload_n 1, 1) := by decide +kernel
theorem dX10_giveRow_13 : decode cX10_giveRow 13 = .ok (.bipush 30, 2) := by decide +kernel
theorem dX10_giveRow_15 : decode cX10_giveRow 15 = .ok (.if_icmp .ge 35, 3) := by decide +kernel
theorem dX10_giveRow_18 : decode cX10_giveRow 18 = .ok (.aload_n 0, 1) := by decide +kernel
theorem dX10_giveRow_19 : decode cX10_giveRow 19 = .ok (.getfield 7, 3) := by decide +kernel
theorem dX10_giveRow_22 : decode cX10_giveRow 22 = .ok (.iconst 2, 1) := by decide +kernel
theorem dX10_giveRow_23 : decode cX10_giveRow 23 = .ok (.iload_n 1, 1) := by decide +kernel
theorem dX10_giveRow_24 : decode cX10_giveRow 24 = .ok (.iadd, 1) := by decide +kernel
theorem dX10_giveRow_25 : decode cX10_giveRow 25 = .ok (.iload_n 1, 1) := by decide +kernel
theorem dX10_giveRow_26 : decode cX10_giveRow 26 = .ok (.aload_n 0, 1) := by decide +kernel
theorem dX10_giveRow_27 : decode cX10_giveRow 27 = .ok (.getfield 59, 3) := by decide +kernel
theorem dX10_giveRow_30 : decode cX10_giveRow 30 = .ok (.if_icmp .ge 12, 3) := by decide +kernel
theorem dX10_giveRow_33 : decode cX10_giveRow 33 = .ok (.aload_n 0, 1) := by decide +kernel
theorem dX10_giveRow_34 : decode cX10_giveRow 34 = .ok (.getfield 22, 3) := by decide +kernel
theorem dX10_giveRow_37 : decode cX10_giveRow 37 = .ok (.iload_n 1, 1) := by decide +kernel
theorem dX10_giveRow_38 : decode cX10_giveRow 38 = .ok (.iaload, 1) := by decide +kernel
theorem dX10_giveRow_39 : decode cX10_giveRow 39 = .ok (.goto 4, 3) := by decide +kernel
theorem dX10_giveRow_42 : decode cX10_giveRow 42 = .ok (.iconst 0, 1) := by decide +kernel
theorem dX10_giveRow_43 : decode cX10_giveRow 43 = .ok (.iastore, 1) := by decide +kernel
theorem dX10_giveRow_44 : decode cX10_giveRow 44 = .ok (.iinc 1 1, 3) := by decide +kernel
theorem dX10_giveRow_47 : decode cX10_giveRow 47 = .ok (.goto (-35), 3) := by decide +kernel
theorem dX10_giveRow_50 : decode cX10_giveRow 50 = .ok (.aload_n 0, 1) := by decide +kernel
theorem dX10_giveRow_51 : decode cX10_giveRow 51 = .ok (.getfield 59, 3) := by decide +kernel
theorem dX10_giveRow_54 : decode cX10_giveRow 54 = .ok (.ireturn, 1) := by decide +kernel
theorem dX10_lengthOf_0 : decode cX10_lengthOf 0 = .ok (.iload_n 1, 1) := by decide +kernel
theorem dX10_lengthOf_1 : decode cX10_lengthOf 1 = .ok (.iconst 2, 1) := by decide +kernel
theorem dX10_lengthOf_2 : decode cX10_lengthOf 2 = .ok (.if_icmp .ne 7, 3) := by decide +kernel
theorem dX10_lengthOf_5 : decode cX10_lengthOf 5 = .ok (.iconst 3, 1) := by decide +kernel
theorem dX10_lengthOf_6 : decode cX10_lengthOf 6 = .ok (.goto 4, 3) := by decide +kernel
theorem dX10_lengthOf_9 : decode cX10_lengthOf 9 = .ok (.iconst 2, 1) := by decide +kernel
theorem dX10_lengthOf_10 : decode cX10_lengthOf 10 = .ok (.ireturn, 1) := by decide +kernel
theorem dX10_reason_0 : decode cX10_reason 0 = .ok (.iload_n 2, 1) := by decide +kernel
theorem dX10_reason_1 : decode cX10_reason 1 = .ok (.aload_n 0, 1) := by decide +kernel
theorem dX10_reason_2 : decode cX10_reason 2 = .ok (.getfield 59, 3) := by decide +kernel
theorem dX10_reason_5 : decode cX10_reason 5 = .ok (.aload_n 0, 1) := by decide +kernel
theorem dX10_reason_6 : decode cX10_reason 6 = .ok (.iload_n 1, 1) := by decide +kernel
theorem dX10_reason_7 : decode cX10_reason 7 = .ok (.invokevirtual 65, 3) := by decide +kernel
theorem dX10_reason_10 : decode cX10_reason 10 = .ok (.isub, 1) := by decide +kernel
theorem dX10_reason_11 : decode cX10_reason 11 = .ok (.if_icmp .le 5, 3) := by decide +kernel
theorem dX10_reason_14 : decode cX10_reason 14 = .ok (.iconst 1, 1) := by decide +kernel
theorem dX10_reason_15 : decode cX10_reason 15 = .ok (.ireturn, 1) := by decide +kernel
theorem dX10_reason_16 : decode cX10_reason 16 = .ok (.aload_n 0, 1) := by decide +kernel
theorem dX10_reason_17 : decode cX10_reason 17 = .ok (.getfield 22, 3) := by decide +kernel
theorem dX10_reason_20 : decode cX10_reason 20 = .ok (.iload_n 2, 1) := by decide +kernel
theorem dX10_reason_21 : decode cX10_reason 21 = .ok (.iaload, 1) := by decide +kernel
theorem dX10_reason_22 : decode cX10_reason 22 = .ok (.istore_n 3, 1) := by decide +kernel
theorem dX10_reason_23 : decode cX10_reason 23 = .ok (.aload_n 0, 1) := by decide +kernel
theorem dX10_reason_24 : decode cX10_reason 24 = .ok (.getfield 22, 3) := by decide +kernel
theorem dX10_reason_27 : decode cX10_reason 27 = .ok (.iload_n 2, 1) := by decide +kernel
theorem dX10_reason_28 : decode cX10_reason 28 = .ok (.iconst 1, 1) := by decide +kernel
theorem dX10_reason_29 : decode cX10_reason 29 = .ok (.iadd, 1) := by decide +kernel
theorem dX10_reason_30 : decode cX10_reason 30 = .ok (.iaload, 1) := by decide +kernel
theorem dX10_reason_31 : decode cX10_reason 31 = .ok (.istore 4, 2) := by decide +kernel
theorem dX10_reason_33 : decode cX10_reason 33 = .ok (.iload_n 1, 1) := by decide +kernel
theorem dX10_reason_34 : decode cX10_reason 34 = .ok (.ifCond .ne 31, 3) := by decide +kernel
theorem dX10_reason_37 : decode cX10_reason 37 = .ok (.iload_n 3, 1) := by decide +kernel
theorem dX10_reason_38 : decode cX10_reason 38 = .ok (.invokestatic 68, 3) := by decide +kernel
theorem dX10_reason_41 : decode cX10_reason 41 = .ok (.iload 4, 2) := by decide +kernel
theorem dX10_reason_43 : decode cX10_reason 43 = .ok (.invokestatic 68, 3) := by decide +kernel
theorem dX10_reason_46 : decode cX10_reason 46 = .ok (.if_icmp .eq 7, 3) := by decide +kernel
theorem dX10_reason_49 : decode cX10_reason 49 = .ok (.iconst 2, 1) := by decide +kernel
theorem dX10_reason_50 : decode cX10_reason 50 = .ok (.goto 14, 3) := by decide +kernel
theorem dX10_reason_53 : decode cX10_reason 53 = .ok (.iload_n 3, 1) := by decide +kernel
theorem dX10_reason_54 : decode cX10_reason 54 = .ok (.iload 4, 2) := by decide +kernel
theorem dX10_reason_56 : decode cX10_reason 56 = .ok (.if_icmp .ne 7, 3) := by decide +kernel
theorem dX10_reason_59 : decode cX10_reason 59 = .ok (.iconst 3, 1) := by decide +kernel
theorem dX10_reason_60 : decode cX10_reason 60 = .ok (.goto 4, 3) := by decide +kernel
theorem dX10_reason_63 : decode cX10_reason 63 = .ok (.iconst 0, 1) := by decide +kernel
theorem dX10_reason_64 : decode cX10_reason 64 = .ok (.ireturn, 1) := by decide +kernel
theorem dX10_reason_65 : decode cX10_reason 65 = .ok (.iload_n 1, 1) := by decide +kernel
theorem dX10_reason_66 : decode cX10_reason 66 = .ok (.iconst 1, 1) := by decide +kernel
theorem dX10_reason_67 : decode cX10_reason 67 = .ok (.if_icmp .ne 35, 3) := by decide +kernel
theorem dX10_reason_70 : decode cX10_reason 70 = .ok (.iload_n 3, 1) := by decide +kernel
theorem dX10_reason_71 : decode cX10_reason 71 = .ok (.invokestatic 68, 3) := by decide +kernel
theorem dX10_reason_74 : decode cX10_reason 74 = .ok (.iload 4, 2) := by decide +kernel
theorem dX10_reason_76 : decode cX10_reason 76 = .ok (.invokestatic 68, 3) := by decide +kernel
theorem dX10_reason_79 : decode cX10_reason 79 = .ok (.iadd, 1) := by decide +kernel
theorem dX10_reason_80 : decode cX10_reason 80 = .ok (.iconst 4, 1) := by decide +kernel
theorem dX10_reason_81 : decode cX10_reason 81 = .ok (.if_icmp .ne 19, 3) := by decide +kernel
theorem dX10_reason_84 : decode cX10_reason 84 = .ok (.iload_n 3, 1) := by decide +kernel
theorem dX10_reason_85 : decode cX10_reason 85 = .ok (.invokestatic 68, 3) := by decide +kernel
theorem dX10_reason_88 : decode cX10_reason 88 = .ok (.iload 4, 2) := by decide +kernel
theorem dX10_reason_90 : decode cX10_reason 90 = .ok (.invokestatic 68, 3) := by decide +kernel
theorem dX10_reason_93 : decode cX10_reason 93 = .ok (.if_icmp .eq 7, 3) := by decide +kernel
theorem dX10_reason_96 : decode cX10_reason 96 = .ok (.iconst 0, 1) := by decide +kernel
theorem dX10_reason_97 : decode cX10_reason 97 = .ok (.goto 4, 3) := by decide +kernel
theorem dX10_reason_100 : decode cX10_reason 100 = .ok (.iconst 2, 1) := by decide +kernel
theorem dX10_reason_101 : decode cX10_reason 101 = .ok (.ireturn, 1) := by decide +kernel
theorem dX10_reason_102 : decode cX10_reason 102 = .ok (.aload_n 0, 1) := by decide +kernel
theorem dX10_reason_103 : decode cX10_reason 103 = .ok (.getfield 22, 3) := by decide +kernel
theorem dX10_reason_106 : decode cX10_reason 106 = .ok (.iload_n 2, 1) := by decide +kernel
theorem dX10_reason_107 : decode cX10_reason 107 = .ok (.iconst 2, 1) := by decide +kernel
theorem dX10_reason_108 : decode cX10_reason 108 = .ok (.iadd, 1) := by decide +kernel
theorem dX10_reason_109 : decode cX10_reason 109 = .ok (.iaload, 1) := by decide +kernel
theorem dX10_reason_110 : decode cX10_reason 110 = .ok (.istore 5, 2) := by decide +kernel
theorem dX10_reason_112 : decode cX10_reason 112 = .ok (.iload_n 3, 1) := by decide +kernel
theorem dX10_reason_113 : decode cX10_reason 113 = .ok (.invokestatic 68, 3) := by decide +kernel
theorem dX10_reason_116 : decode cX10_reason 116 = .ok (.iload 4, 2) := by decide +kernel
theorem dX10_reason_118 : decode cX10_reason 118 = .ok (.invokestatic 68, 3) := by decide +kernel
theorem dX10_reason_121 : decode cX10_reason 121 = .ok (.isub, 1) := by decide +kernel
theorem dX10_reason_122 : decode cX10_reason 122 = .ok (.istore 6, 2) := by decide +kernel
theorem dX10_reason_124 : decode cX10_reason 124 = .ok (.iload_n 3, 1) := by decide +kernel
theorem dX10_reason_125 : decode cX10_reason 125 = .ok (.invokestatic 68, 3) := by decide +kernel
theorem dX10_reason_128 : decode cX10_reason 128 = .ok (.iload 5, 2) := by decide +kernel
theorem dX10_reason_130 : decode cX10_reason 130 = .ok (.invokestatic 68, 3) := by decide +kernel
theorem dX10_reason_133 : decode cX10_reason 133 = .ok (.if_icmp .ne 15, 3) := by decide +kernel
theorem dX10_reason_136 : decode cX10_reason 136 = .ok (.iload 6, 2) := by decide +kernel
theorem dX10_reason_138 : decode cX10_reason 138 = .ok (.iconst 1, 1) := by decide +kernel
theorem dX10_reason_139 : decode cX10_reason 139 = .ok (.if_icmp .eq 11, 3) := by decide +kernel
theorem dX10_reason_142 : decode cX10_reason 142 = .ok (.iload 6, 2) := by decide +kernel
theorem dX10_reason_144 : decode cX10_reason 144 = .ok (.iconst (-1), 1) := by decide +kernel
theorem dX10_reason_145 : decode cX10_reason 145 = .ok (.if_icmp .eq 5, 3) := by decide +kernel
theorem dX10_reason_148 : decode cX10_reason 148 = .ok (.iconst 2, 1) := by decide +kernel
theorem dX10_reason_149 : decode cX10_reason 149 = .ok (.ireturn, 1) := by decide +kernel
theorem dX10_reason_150 : decode cX10_reason 150 = .ok (.iload_n 3, 1) := by decide +kernel
theorem dX10_reason_151 : decode cX10_reason 151 = .ok (.invokestatic 71, 3) := by decide +kernel
theorem dX10_reason_154 : decode cX10_reason 154 = .ok (.iload 5, 2) := by decide +kernel
theorem dX10_reason_156 : decode cX10_reason 156 = .ok (.invokestatic 71, 3) := by decide +kernel
theorem dX10_reason_159 : decode cX10_reason 159 = .ok (.if_icmp .ne 19, 3) := by decide +kernel
theorem dX10_reason_162 : decode cX10_reason 162 = .ok (.iload_n 3, 1) := by decide +kernel
theorem dX10_reason_163 : decode cX10_reason 163 = .ok (.invokestatic 71, 3) := by decide +kernel
theorem dX10_reason_166 : decode cX10_reason 166 = .ok (.iload 4, 2) := by decide +kernel
theorem dX10_reason_168 : decode cX10_reason 168 = .ok (.invokestatic 71, 3) := by decide +kernel
theorem dX10_reason_171 : decode cX10_reason 171 = .ok (.if_icmp .eq 7, 3) := by decide +kernel
theorem dX10_reason_174 : decode cX10_reason 174 = .ok (.iconst 3, 1) := by decide +kernel
theorem dX10_reason_175 : decode cX10_reason 175 = .ok (.goto 4, 3) := by decide +kernel
theorem dX10_reason_178 : decode cX10_reason 178 = .ok (.iconst 0, 1) := by decide +kernel
theorem dX10_reason_179 : decode cX10_reason 179 = .ok (.ireturn, 1) := by decide +kernel
theorem dX10_dropTwo_0 : decode cX10_dropTwo 0 = .ok (.aload_n 0, 1) := by decide +kernel
theorem dX10_dropTwo_1 : decode cX10_dropTwo 1 = .ok (.dup, 1) := by decide +kernel
theorem dX10_dropTwo_2 : decode cX10_dropTwo 2 = .ok (.getfield 59, 3) := by decide +kernel
theorem dX10_dropTwo_5 : decode cX10_dropTwo 5 = .ok (.iconst 2, 1) := by decide +kernel
theorem dX10_dropTwo_6 : decode cX10_dropTwo 6 = .ok (.isub, 1) := by decide +kernel
theorem dX10_dropTwo_7 : decode cX10_dropTwo 7 = .ok (.putfield 59, 3) := by decide +kernel
theorem dX10_dropTwo_10 : decode cX10_dropTwo 10 = .ok (.iload_n 1, 1) := by decide +kernel
theorem dX10_dropTwo_11 : decode cX10_dropTwo 11 = .ok (.istore_n 2, 1) := by decide +kernel
theorem dX10_dropTwo_12 : decode cX10_dropTwo 12 = .ok (.iload_n 2, 1) := by decide +kernel
theorem dX10_dropTwo_13 : decode cX10_dropTwo 13 = .ok (.aload_n 0, 1) := by decide +kernel
theorem dX10_dropTwo_14 : decode cX10_dropTwo 14 = .ok (.getfield 59, 3) := by decide +kernel
theorem dX10_dropTwo_17 : decode cX10_dropTwo 17 = .ok (.if_icmp .ge 23, 3) := by decide +kernel
theorem dX10_dropTwo_20 : decode cX10_dropTwo 20 = .ok (.aload_n 0, 1) := by decide +kernel
theorem dX10_dropTwo_21 : decode cX10_dropTwo 21 = .ok (.getfield 22, 3) := by decide +kernel
theorem dX10_dropTwo_24 : decode cX10_dropTwo 24 = .ok (.iload_n 2, 1) := by decide +kernel
theorem dX10_dropTwo_25 : decode cX10_dropTwo 25 = .ok (.aload_n 0, 1) := by decide +kernel
theorem dX10_dropTwo_26 : decode cX10_dropTwo 26 = .ok (.getfield 22, 3) := by decide +kernel
theorem dX10_dropTwo_29 : decode cX10_dropTwo 29 = .ok (.iload_n 2, 1) := by decide +kernel
theorem dX10_dropTwo_30 : decode cX10_dropTwo 30 = .ok (.iconst 2, 1) := by decide +kernel
theorem dX10_dropTwo_31 : decode cX10_dropTwo 31 = .ok (.iadd, 1) := by decide +kernel
theorem dX10_dropTwo_32 : decode cX10_dropTwo 32 = .ok (.iaload, 1) := by decide +kernel
theorem dX10_dropTwo_33 : decode cX10_dropTwo 33 = .ok (.iastore, 1) := by decide +kernel
theorem dX10_dropTwo_34 : decode cX10_dropTwo 34 = .ok (.iinc 2 1, 3) := by decide +kernel
theorem dX10_dropTwo_37 : decode cX10_dropTwo 37 = .ok (.goto (-25), 3) := by decide +kernel
theorem dX10_dropTwo_40 : decode cX10_dropTwo 40 = .ok (.return_, 1) := by decide +kernel
theorem dX10_makeMove_0 : decode cX10_makeMove 0 = .ok (.aload_n 0, 1) := by decide +kernel
theorem dX10_makeMove_1 : decode cX10_makeMove 1 = .ok (.getfield 22, 3) := by decide +kernel
theorem dX10_makeMove_4 : decode cX10_makeMove 4 = .ok (.iload_n 2, 1) := by decide +kernel
theorem dX10_makeMove_5 : decode cX10_makeMove 5 = .ok (.iaload, 1) := by decide +kernel
theorem dX10_makeMove_6 : decode cX10_makeMove 6 = .ok (.istore_n 3, 1) := by decide +kernel
theorem dX10_makeMove_7 : decode cX10_makeMove 7 = .ok (.aload_n 0, 1) := by decide +kernel
theorem dX10_makeMove_8 : decode cX10_makeMove 8 = .ok (.getfield 22, 3) := by decide +kernel
theorem dX10_makeMove_11 : decode cX10_makeMove 11 = .ok (.iload_n 2, 1) := by decide +kernel
theorem dX10_makeMove_12 : decode cX10_makeMove 12 = .ok (.iconst 1, 1) := by decide +kernel
theorem dX10_makeMove_13 : decode cX10_makeMove 13 = .ok (.iadd, 1) := by decide +kernel
theorem dX10_makeMove_14 : decode cX10_makeMove 14 = .ok (.iaload, 1) := by decide +kernel
theorem dX10_makeMove_15 : decode cX10_makeMove 15 = .ok (.istore 4, 2) := by decide +kernel
theorem dX10_makeMove_17 : decode cX10_makeMove 17 = .ok (.iload_n 1, 1) := by decide +kernel
theorem dX10_makeMove_18 : decode cX10_makeMove 18 = .ok (.ifCond .ne 11, 3) := by decide +kernel
theorem dX10_makeMove_21 : decode cX10_makeMove 21 = .ok (.aload_n 0, 1) := by decide +kernel
theorem dX10_makeMove_22 : decode cX10_makeMove 22 = .ok (.iload_n 2, 1) := by decide +kernel
theorem dX10_makeMove_23 : decode cX10_makeMove 23 = .ok (.invokevirtual 74, 3) := by decide +kernel
theorem dX10_makeMove_26 : decode cX10_makeMove 26 = .ok (.goto 91, 3) := by decide +kernel
theorem dX10_makeMove_29 : decode cX10_makeMove 29 = .ok (.iload_n 1, 1) := by decide +kernel
theorem dX10_makeMove_30 : decode cX10_makeMove 30 = .ok (.iconst 1, 1) := by decide +kernel
theorem dX10_makeMove_31 : decode cX10_makeMove 31 = .ok (.if_icmp .ne 23, 3) := by decide +kernel
theorem dX10_makeMove_34 : decode cX10_makeMove 34 = .ok (.aload_n 0, 1) := by decide +kernel
theorem dX10_makeMove_35 : decode cX10_makeMove 35 = .ok (.getfield 22, 3) := by decide +kernel
theorem dX10_makeMove_38 : decode cX10_makeMove 38 = .ok (.iload_n 2, 1) := by decide +kernel
theorem dX10_makeMove_39 : decode cX10_makeMove 39 = .ok (.iload 4, 2) := by decide +kernel
theorem dX10_makeMove_41 : decode cX10_makeMove 41 = .ok (.iastore, 1) := by decide +kernel
theorem dX10_makeMove_42 : decode cX10_makeMove 42 = .ok (.aload_n 0, 1) := by decide +kernel
theorem dX10_makeMove_43 : decode cX10_makeMove 43 = .ok (.getfield 22, 3) := by decide +kernel
theorem dX10_makeMove_46 : decode cX10_makeMove 46 = .ok (.iload_n 2, 1) := by decide +kernel
theorem dX10_makeMove_47 : decode cX10_makeMove 47 = .ok (.iconst 1, 1) := by decide +kernel
theorem dX10_makeMove_48 : decode cX10_makeMove 48 = .ok (.iadd, 1) := by decide +kernel
theorem dX10_makeMove_49 : decode cX10_makeMove 49 = .ok (.iload_n 3, 1) := by decide +kernel
theorem dX10_makeMove_50 : decode cX10_makeMove 50 = .ok (.iastore, 1) := by decide +kernel
theorem dX10_makeMove_51 : decode cX10_makeMove 51 = .ok (.goto 66, 3) := by decide +kernel
theorem dX10_makeMove_54 : decode cX10_makeMove 54 = .ok (.aload_n 0, 1) := by decide +kernel
theorem dX10_makeMove_55 : decode cX10_makeMove 55 = .ok (.getfield 22, 3) := by decide +kernel
theorem dX10_makeMove_58 : decode cX10_makeMove 58 = .ok (.iload_n 2, 1) := by decide +kernel
theorem dX10_makeMove_59 : decode cX10_makeMove 59 = .ok (.iconst 2, 1) := by decide +kernel
theorem dX10_makeMove_60 : decode cX10_makeMove 60 = .ok (.iadd, 1) := by decide +kernel
theorem dX10_makeMove_61 : decode cX10_makeMove 61 = .ok (.iaload, 1) := by decide +kernel
theorem dX10_makeMove_62 : decode cX10_makeMove 62 = .ok (.istore 5, 2) := by decide +kernel
theorem dX10_makeMove_64 : decode cX10_makeMove 64 = .ok (.aload_n 0, 1) := by decide +kernel
theorem dX10_makeMove_65 : decode cX10_makeMove 65 = .ok (.getfield 22, 3) := by decide +kernel
theorem dX10_makeMove_68 : decode cX10_makeMove 68 = .ok (.iload_n 2, 1) := by decide +kernel
theorem dX10_makeMove_69 : decode cX10_makeMove 69 = .ok (.iload 4, 2) := by decide +kernel
theorem dX10_makeMove_71 : decode cX10_makeMove 71 = .ok (.invokestatic 68, 3) := by decide +kernel
theorem dX10_makeMove_74 : decode cX10_makeMove 74 = .ok (.iload 5, 2) := by decide +kernel
theorem dX10_makeMove_76 : decode cX10_makeMove 76 = .ok (.invokestatic 71, 3) := by decide +kernel
theorem dX10_makeMove_79 : decode cX10_makeMove 79 = .ok (.imul, 1) := by decide +kernel
theorem dX10_makeMove_80 : decode cX10_makeMove 80 = .ok (.iastore, 1) := by decide +kernel
theorem dX10_makeMove_81 : decode cX10_makeMove 81 = .ok (.aload_n 0, 1) := by decide +kernel
theorem dX10_makeMove_82 : decode cX10_makeMove 82 = .ok (.getfield 22, 3) := by decide +kernel
theorem dX10_makeMove_85 : decode cX10_makeMove 85 = .ok (.iload_n 2, 1) := by decide +kernel
theorem dX10_makeMove_86 : decode cX10_makeMove 86 = .ok (.iconst 1, 1) := by decide +kernel
theorem dX10_makeMove_87 : decode cX10_makeMove 87 = .ok (.iadd, 1) := by decide +kernel
theorem dX10_makeMove_88 : decode cX10_makeMove 88 = .ok (.iload_n 3, 1) := by decide +kernel
theorem dX10_makeMove_89 : decode cX10_makeMove 89 = .ok (.invokestatic 68, 3) := by decide +kernel
theorem dX10_makeMove_92 : decode cX10_makeMove 92 = .ok (.iload 4, 2) := by decide +kernel
theorem dX10_makeMove_94 : decode cX10_makeMove 94 = .ok (.invokestatic 71, 3) := by decide +kernel
theorem dX10_makeMove_97 : decode cX10_makeMove 97 = .ok (.imul, 1) := by decide +kernel
theorem dX10_makeMove_98 : decode cX10_makeMove 98 = .ok (.iastore, 1) := by decide +kernel
theorem dX10_makeMove_99 : decode cX10_makeMove 99 = .ok (.aload_n 0, 1) := by decide +kernel
theorem dX10_makeMove_100 : decode cX10_makeMove 100 = .ok (.getfield 22, 3) := by decide +kernel
theorem dX10_makeMove_103 : decode cX10_makeMove 103 = .ok (.iload_n 2, 1) := by decide +kernel
theorem dX10_makeMove_104 : decode cX10_makeMove 104 = .ok (.iconst 2, 1) := by decide +kernel
theorem dX10_makeMove_105 : decode cX10_makeMove 105 = .ok (.iadd, 1) := by decide +kernel
theorem dX10_makeMove_106 : decode cX10_makeMove 106 = .ok (.iload 4, 2) := by decide +kernel
theorem dX10_makeMove_108 : decode cX10_makeMove 108 = .ok (.invokestatic 68, 3) := by decide +kernel
theorem dX10_makeMove_111 : decode cX10_makeMove 111 = .ok (.iload_n 3, 1) := by decide +kernel
theorem dX10_makeMove_112 : decode cX10_makeMove 112 = .ok (.invokestatic 71, 3) := by decide +kernel
theorem dX10_makeMove_115 : decode cX10_makeMove 115 = .ok (.imul, 1) := by decide +kernel
theorem dX10_makeMove_116 : decode cX10_makeMove 116 = .ok (.iastore, 1) := by decide +kernel
theorem dX10_makeMove_117 : decode cX10_makeMove 117 = .ok (.return_, 1) := by decide +kernel
theorem dX10_possibleIn_0 : decode cX10_possibleIn 0 = .ok (.iconst 0, 1) := by decide +kernel
theorem dX10_possibleIn_1 : decode cX10_possibleIn 1 = .ok (.istore_n 2, 1) := by decide +kernel
theorem dX10_possibleIn_2 : decode cX10_possibleIn 2 = .ok (.iconst 0, 1) := by decide +kernel
theorem dX10_possibleIn_3 : decode cX10_possibleIn 3 = .ok (.istore_n 3, 1) := by decide +kernel
theorem dX10_possibleIn_4 : decode cX10_possibleIn 4 = .ok (.iload_n 3, 1) := by decide +kernel
theorem dX10_possibleIn_5 : decode cX10_possibleIn 5 = .ok (.aload_n 0, 1) := by decide +kernel
theorem dX10_possibleIn_6 : decode cX10_possibleIn 6 = .ok (.getfield 59, 3) := by decide +kernel
theorem dX10_possibleIn_9 : decode cX10_possibleIn 9 = .ok (.if_icmp .ge 26, 3) := by decide +kernel
theorem dX10_possibleIn_12 : decode cX10_possibleIn 12 = .ok (.iload_n 2, 1) := by decide +kernel
theorem dX10_possibleIn_13 : decode cX10_possibleIn 13 = .ok (.aload_n 0, 1) := by decide +kernel
theorem dX10_possibleIn_14 : decode cX10_possibleIn 14 = .ok (.iload_n 1, 1) := by decide +kernel
theorem dX10_possibleIn_15 : decode cX10_possibleIn 15 = .ok (.iload_n 3, 1) := by decide +kernel
theorem dX10_possibleIn_16 : decode cX10_possibleIn 16 = .ok (.invokevirtual 78, 3) := by decide +kernel
theorem dX10_possibleIn_19 : decode cX10_possibleIn 19 = .ok (.ifCond .ne 7, 3) := by decide +kernel
theorem dX10_possibleIn_22 : decode cX10_possibleIn 22 = .ok (.iconst 1, 1) := by decide +kernel
theorem dX10_possibleIn_23 : decode cX10_possibleIn 23 = .ok (.goto 4, 3) := by decide +kernel
theorem dX10_possibleIn_26 : decode cX10_possibleIn 26 = .ok (.iconst 0, 1) := by decide +kernel
theorem dX10_possibleIn_27 : decode cX10_possibleIn 27 = .ok (.iadd, 1) := by decide +kernel
theorem dX10_possibleIn_28 : decode cX10_possibleIn 28 = .ok (.istore_n 2, 1) := by decide +kernel
theorem dX10_possibleIn_29 : decode cX10_possibleIn 29 = .ok (.iinc 3 1, 3) := by decide +kernel
theorem dX10_possibleIn_32 : decode cX10_possibleIn 32 = .ok (.goto (-28), 3) := by decide +kernel
theorem dX10_possibleIn_35 : decode cX10_possibleIn 35 = .ok (.iload_n 2, 1) := by decide +kernel
theorem dX10_possibleIn_36 : decode cX10_possibleIn 36 = .ok (.ireturn, 1) := by decide +kernel
theorem dX10_pullRow_0 : decode cX10_pullRow 0 = .ok (.aload_n 0, 1) := by decide +kernel
theorem dX10_pullRow_1 : decode cX10_pullRow 1 = .ok (.getfield 59, 3) := by decide +kernel
theorem dX10_pullRow_4 : decode cX10_pullRow 4 = .ok (.istore_n 1, 1) := by decide +kernel
theorem dX10_pullRow_5 : decode cX10_pullRow 5 = .ok (.iconst 0, 1) := by decide +kernel
theorem dX10_pullRow_6 : decode cX10_pullRow 6 = .ok (.istore_n 2, 1) := by decide +kernel
theorem dX10_pullRow_7 : decode cX10_pullRow 7 = .ok (.iload_n 2, 1) := by decide +kernel
theorem dX10_pullRow_8 : decode cX10_pullRow 8 = .ok (.aload_n 0, 1) := by decide +kernel
theorem dX10_pullRow_9 : decode cX10_pullRow 9 = .ok (.getfield 59, 3) := by decide +kernel
theorem dX10_pullRow_12 : decode cX10_pullRow 12 = .ok (.if_icmp .ge 28, 3) := by decide +kernel
theorem dX10_pullRow_15 : decode cX10_pullRow 15 = .ok (.aload_n 0, 1) := by decide +kernel
theorem dX10_pullRow_16 : decode cX10_pullRow 16 = .ok (.iconst 0, 1) := by decide +kernel
theorem dX10_pullRow_17 : decode cX10_pullRow 17 = .ok (.iload_n 2, 1) := by decide +kernel
theorem dX10_pullRow_18 : decode cX10_pullRow 18 = .ok (.invokevirtual 78, 3) := by decide +kernel
theorem dX10_pullRow_21 : decode cX10_pullRow 21 = .ok (.ifCond .ne 13, 3) := by decide +kernel
theorem dX10_pullRow_24 : decode cX10_pullRow 24 = .ok (.aload_n 0, 1) := by decide +kernel
theorem dX10_pullRow_25 : decode cX10_pullRow 25 = .ok (.iload_n 2, 1) := by decide +kernel
theorem dX10_pullRow_26 : decode cX10_pullRow 26 = .ok (.invokevirtual 74, 3) := by decide +kernel
theorem dX10_pullRow_29 : decode cX10_pullRow 29 = .ok (.iconst 0, 1) := by decide +kernel
theorem dX10_pullRow_30 : decode cX10_pullRow 30 = .ok (.istore_n 2, 1) := by decide +kernel
theorem dX10_pullRow_31 : decode cX10_pullRow 31 = .ok (.goto (-24), 3) := by decide +kernel
theorem dX10_pullRow_34 : decode cX10_pullRow 34 = .ok (.iinc 2 1, 3) := by decide +kernel
theorem dX10_pullRow_37 : decode cX10_pullRow 37 = .ok (.goto (-30), 3) := by decide +kernel
theorem dX10_pullRow_40 : decode cX10_pullRow 40 = .ok (.iload_n 1, 1) := by decide +kernel
theorem dX10_pullRow_41 : decode cX10_pullRow 41 = .ok (.aload_n 0, 1) := by decide +kernel
theorem dX10_pullRow_42 : decode cX10_pullRow 42 = .ok (.getfield 59, 3) := by decide +kernel
theorem dX10_pullRow_45 : decode cX10_pullRow 45 = .ok (.isub, 1) := by decide +kernel
theorem dX10_pullRow_46 : decode cX10_pullRow 46 = .ok (.ireturn, 1) := by decide +kernel
theorem dX10_beginOf_0 : decode cX10_beginOf 0 = .ok (.aload_n 0, 1) := by decide +kernel
theorem dX10_beginOf_1 : decode cX10_beginOf 1 = .ok (.getfield 22, 3) := by decide +kernel
theorem dX10_beginOf_4 : decode cX10_beginOf 4 = .ok (.iload_n 1, 1) := by decide +kernel
theorem dX10_beginOf_5 : decode cX10_beginOf 5 = .ok (.iaload, 1) := by decide +kernel
theorem dX10_beginOf_6 : decode cX10_beginOf 6 = .ok (.invokestatic 68, 3) := by decide +kernel
theorem dX10_beginOf_9 : decode cX10_beginOf 9 = .ok (.istore_n 2, 1) := by decide +kernel
theorem dX10_beginOf_10 : decode cX10_beginOf 10 = .ok (.iload_n 1, 1) := by decide +kernel
theorem dX10_beginOf_11 : decode cX10_beginOf 11 = .ok (.iconst 1, 1) := by decide +kernel
theorem dX10_beginOf_12 : decode cX10_beginOf 12 = .ok (.isub, 1) := by decide +kernel
theorem dX10_beginOf_13 : decode cX10_beginOf 13 = .ok (.istore_n 3, 1) := by decide +kernel
theorem dX10_beginOf_14 : decode cX10_beginOf 14 = .ok (.iload_n 3, 1) := by decide +kernel
theorem dX10_beginOf_15 : decode cX10_beginOf 15 = .ok (.ifCond .lt 61, 3) := by decide +kernel
theorem dX10_beginOf_18 : decode cX10_beginOf 18 = .ok (.aload_n 0, 1) := by decide +kernel
theorem dX10_beginOf_19 : decode cX10_beginOf 19 = .ok (.getfield 22, 3) := by decide +kernel
theorem dX10_beginOf_22 : decode cX10_beginOf 22 = .ok (.iload_n 3, 1) := by decide +kernel
theorem dX10_beginOf_23 : decode cX10_beginOf 23 = .ok (.iaload, 1) := by decide +kernel
theorem dX10_beginOf_24 : decode cX10_beginOf 24 = .ok (.invokestatic 68, 3) := by decide +kernel
theorem dX10_beginOf_27 : decode cX10_beginOf 27 = .ok (.iload_n 2, 1) := by decide +kernel
theorem dX10_beginOf_28 : decode cX10_beginOf 28 = .ok (.if_icmp .ne 25, 3) := by decide +kernel
theorem dX10_beginOf_31 : decode cX10_beginOf 31 = .ok (.aload_n 0, 1) := by decide +kernel
theorem dX10_beginOf_32 : decode cX10_beginOf 32 = .ok (.getfield 22, 3) := by decide +kernel
theorem dX10_beginOf_35 : decode cX10_beginOf 35 = .ok (.iload_n 3, 1) := by decide +kernel
theorem dX10_beginOf_36 : decode cX10_beginOf 36 = .ok (.iaload, 1) := by decide +kernel
theorem dX10_beginOf_37 : decode cX10_beginOf 37 = .ok (.aload_n 0, 1) := by decide +kernel
theorem dX10_beginOf_38 : decode cX10_beginOf 38 = .ok (.getfield 22, 3) := by decide +kernel
theorem dX10_beginOf_41 : decode cX10_beginOf 41 = .ok (.iload_n 1, 1) := by decide +kernel
theorem dX10_beginOf_42 : decode cX10_beginOf 42 = .ok (.iaload, 1) := by decide +kernel
theorem dX10_beginOf_43 : decode cX10_beginOf 43 = .ok (.ineg, 1) := by decide +kernel
theorem dX10_beginOf_44 : decode cX10_beginOf 44 = .ok (.if_icmp .ne 7, 3) := by decide +kernel
theorem dX10_beginOf_47 : decode cX10_beginOf 47 = .ok (.iload_n 3, 1) := by decide +kernel
theorem dX10_beginOf_48 : decode cX10_beginOf 48 = .ok (.goto 4, 3) := by decide +kernel
theorem dX10_beginOf_51 : decode cX10_beginOf 51 = .ok (.iconst (-1), 1) := by decide +kernel
theorem dX10_beginOf_52 : decode cX10_beginOf 52 = .ok (.ireturn, 1) := by decide +kernel
theorem dX10_beginOf_53 : decode cX10_beginOf 53 = .ok (.aload_n 0, 1) := by decide +kernel
theorem dX10_beginOf_54 : decode cX10_beginOf 54 = .ok (.getfield 22, 3) := by decide +kernel
theorem dX10_beginOf_57 : decode cX10_beginOf 57 = .ok (.iload_n 3, 1) := by decide +kernel
theorem dX10_beginOf_58 : decode cX10_beginOf 58 = .ok (.iaload, 1) := by decide +kernel
theorem dX10_beginOf_59 : decode cX10_beginOf 59 = .ok (.invokestatic 68, 3) := by decide +kernel
theorem dX10_beginOf_62 : decode cX10_beginOf 62 = .ok (.iload_n 2, 1) := by decide +kernel
theorem dX10_beginOf_63 : decode cX10_beginOf 63 = .ok (.iconst 1, 1) := by decide +kernel
theorem dX10_beginOf_64 : decode cX10_beginOf 64 = .ok (.isub, 1) := by decide +kernel
theorem dX10_beginOf_65 : decode cX10_beginOf 65 = .ok (.if_icmp .ne 5, 3) := by decide +kernel
theorem dX10_beginOf_68 : decode cX10_beginOf 68 = .ok (.iconst (-1), 1) := by decide +kernel
theorem dX10_beginOf_69 : decode cX10_beginOf 69 = .ok (.ireturn, 1) := by decide +kernel
theorem dX10_beginOf_70 : decode cX10_beginOf 70 = .ok (.iinc 3 (-1), 3) := by decide +kernel
theorem dX10_beginOf_73 : decode cX10_beginOf 73 = .ok (.goto (-59), 3) := by decide +kernel
theorem dX10_beginOf_76 : decode cX10_beginOf 76 = .ok (.iconst (-1), 1) := by decide +kernel
theorem dX10_beginOf_77 : decode cX10_beginOf 77 = .ok (.ireturn, 1) := by decide +kernel
theorem dX10_findHandle_0 : decode cX10_findHandle 0 = .ok (.iconst 1, 1) := by decide +kernel
theorem dX10_findHandle_1 : decode cX10_findHandle 1 = .ok (.istore_n 1, 1) := by decide +kernel
theorem dX10_findHandle_2 : decode cX10_findHandle 2 = .ok (.iload_n 1, 1) := by decide +kernel
theorem dX10_findHandle_3 : decode cX10_findHandle 3 = .ok (.aload_n 0, 1) := by decide +kernel
theorem dX10_findHandle_4 : decode cX10_findHandle 4 = .ok (.getfield 59, 3) := by decide +kernel
theorem dX10_findHandle_7 : decode cX10_findHandle 7 = .ok (.if_icmp .ge 33, 3) := by decide +kernel
theorem dX10_findHandle_10 : decode cX10_findHandle 10 = .ok (.aload_n 0, 1) := by decide +kernel
theorem dX10_findHandle_11 : decode cX10_findHandle 11 = .ok (.aload_n 0, 1) := by decide +kernel
theorem dX10_findHandle_12 : decode cX10_findHandle 12 = .ok (.iload_n 1, 1) := by decide +kernel
theorem dX10_findHandle_13 : decode cX10_findHandle 13 = .ok (.invokevirtual 82, 3) := by decide +kernel
theorem dX10_findHandle_16 : decode cX10_findHandle 16 = .ok (.putfield 85, 3) := by decide +kernel
theorem dX10_findHandle_19 : decode cX10_findHandle 19 = .ok (.aload_n 0, 1) := by decide +kernel
theorem dX10_findHandle_20 : decode cX10_findHandle 20 = .ok (.iload_n 1, 1) := by decide +kernel
theorem dX10_findHandle_21 : decode cX10_findHandle 21 = .ok (.putfield 88, 3) := by decide +kernel
theorem dX10_findHandle_24 : decode cX10_findHandle 24 = .ok (.aload_n 0, 1) := by decide +kernel
theorem dX10_findHandle_25 : decode cX10_findHandle 25 = .ok (.getfield 85, 3) := by decide +kernel
theorem dX10_findHandle_28 : decode cX10_findHandle 28 = .ok (.iconst (-1), 1) := by decide +kernel
theorem dX10_findHandle_29 : decode cX10_findHandle 29 = .ok (.if_icmp .eq 5, 3) := by decide +kernel
theorem dX10_findHandle_32 : decode cX10_findHandle 32 = .ok (.iconst 1, 1) := by decide +kernel
theorem dX10_findHandle_33 : decode cX10_findHandle 33 = .ok (.ireturn, 1) := by decide +kernel
theorem dX10_findHandle_34 : decode cX10_findHandle 34 = .ok (.iinc 1 1, 3) := by decide +kernel
theorem dX10_findHandle_37 : decode cX10_findHandle 37 = .ok (.goto (-35), 3) := by decide +kernel
theorem dX10_findHandle_40 : decode cX10_findHandle 40 = .ok (.aload_n 0, 1) := by decide +kernel
theorem dX10_findHandle_41 : decode cX10_findHandle 41 = .ok (.iconst (-1), 1) := by decide +kernel
theorem dX10_findHandle_42 : decode cX10_findHandle 42 = .ok (.putfield 88, 3) := by decide +kernel
theorem dX10_findHandle_45 : decode cX10_findHandle 45 = .ok (.aload_n 0, 1) := by decide +kernel
theorem dX10_findHandle_46 : decode cX10_findHandle 46 = .ok (.iconst (-1), 1) := by decide +kernel
theorem dX10_findHandle_47 : decode cX10_findHandle 47 = .ok (.putfield 85, 3) := by decide +kernel
theorem dX10_findHandle_50 : decode cX10_findHandle 50 = .ok (.iconst 0, 1) := by decide +kernel
theorem dX10_findHandle_51 : decode cX10_findHandle 51 = .ok (.ireturn, 1) := by decide +kernel
theorem dX10_lengthBehind_0 : decode cX10_lengthBehind 0 = .ok (.aload_n 0, 1) := by decide +kernel
theorem dX10_lengthBehind_1 : decode cX10_lengthBehind 1 = .ok (.getfield 59, 3) := by decide +kernel
theorem dX10_lengthBehind_4 : decode cX10_lengthBehind 4 = .ok (.iconst 2, 1) := by decide +kernel
theorem dX10_lengthBehind_5 : decode cX10_lengthBehind 5 = .ok (.isub, 1) := by decide +kernel
theorem dX10_lengthBehind_6 : decode cX10_lengthBehind 6 = .ok (.istore_n 1, 1) := by decide +kernel
theorem dX10_lengthBehind_7 : decode cX10_lengthBehind 7 = .ok (.aload_n 0, 1) := by decide +kernel
theorem dX10_lengthBehind_8 : decode cX10_lengthBehind 8 = .ok (.getfield 85, 3) := by decide +kernel
theorem dX10_lengthBehind_11 : decode cX10_lengthBehind 11 = .ok (.iconst 1, 1) := by decide +kernel
theorem dX10_lengthBehind_12 : decode cX10_lengthBehind 12 = .ok (.iadd, 1) := by decide +kernel
theorem dX10_lengthBehind_13 : decode cX10_lengthBehind 13 = .ok (.istore_n 2, 1) := by decide +kernel
theorem dX10_lengthBehind_14 : decode cX10_lengthBehind 14 = .ok (.iload_n 2, 1) := by decide +kernel
theorem dX10_lengthBehind_15 : decode cX10_lengthBehind 15 = .ok (.aload_n 0, 1) := by decide +kernel
theorem dX10_lengthBehind_16 : decode cX10_lengthBehind 16 = .ok (.getfield 88, 3) := by decide +kernel
theorem dX10_lengthBehind_19 : decode cX10_lengthBehind 19 = .ok (.if_icmp .ge 43, 3) := by decide +kernel
theorem dX10_lengthBehind_22 : decode cX10_lengthBehind 22 = .ok (.iload_n 1, 1) := by decide +kernel
theorem dX10_lengthBehind_23 : decode cX10_lengthBehind 23 = .ok (.aload_n 0, 1) := by decide +kernel
theorem dX10_lengthBehind_24 : decode cX10_lengthBehind 24 = .ok (.getfield 22, 3) := by decide +kernel
theorem dX10_lengthBehind_27 : decode cX10_lengthBehind 27 = .ok (.iload_n 2, 1) := by decide +kernel
theorem dX10_lengthBehind_28 : decode cX10_lengthBehind 28 = .ok (.iaload, 1) := by decide +kernel
theorem dX10_lengthBehind_29 : decode cX10_lengthBehind 29 = .ok (.invokestatic 68, 3) := by decide +kernel
theorem dX10_lengthBehind_32 : decode cX10_lengthBehind 32 = .ok (.aload_n 0, 1) := by decide +kernel
theorem dX10_lengthBehind_33 : decode cX10_lengthBehind 33 = .ok (.getfield 22, 3) := by decide +kernel
theorem dX10_lengthBehind_36 : decode cX10_lengthBehind 36 = .ok (.aload_n 0, 1) := by decide +kernel
theorem dX10_lengthBehind_37 : decode cX10_lengthBehind 37 = .ok (.getfield 85, 3) := by decide +kernel
theorem dX10_lengthBehind_40 : decode cX10_lengthBehind 40 = .ok (.iaload, 1) := by decide +kernel
theorem dX10_lengthBehind_41 : decode cX10_lengthBehind 41 = .ok (.invokestatic 68, 3) := by decide +kernel
theorem dX10_lengthBehind_44 : decode cX10_lengthBehind 44 = .ok (.iconst 1, 1) := by decide +kernel
theorem dX10_lengthBehind_45 : decode cX10_lengthBehind 45 = .ok (.iadd, 1) := by decide +kernel
theorem dX10_lengthBehind_46 : decode cX10_lengthBehind 46 = .ok (.if_icmp .ne 7, 3) := by decide +kernel
theorem dX10_lengthBehind_49 : decode cX10_lengthBehind 49 = .ok (.iconst 2, 1) := by decide +kernel
theorem dX10_lengthBehind_50 : decode cX10_lengthBehind 50 = .ok (.goto 4, 3) := by decide +kernel
theorem dX10_lengthBehind_53 : decode cX10_lengthBehind 53 = .ok (.iconst 0, 1) := by decide +kernel
theorem dX10_lengthBehind_54 : decode cX10_lengthBehind 54 = .ok (.iadd, 1) := by decide +kernel
theorem dX10_lengthBehind_55 : decode cX10_lengthBehind 55 = .ok (.istore_n 1, 1) := by decide +kernel
theorem dX10_lengthBehind_56 : decode cX10_lengthBehind 56 = .ok (.iinc 2 1, 3) := by decide +kernel
theorem dX10_lengthBehind_59 : decode cX10_lengthBehind 59 = .ok (.goto (-45), 3) := by decide +kernel
theorem dX10_lengthBehind_62 : decode cX10_lengthBehind 62 = .ok (.iload_n 1, 1) := by decide +kernel
theorem dX10_lengthBehind_63 : decode cX10_lengthBehind 63 = .ok (.ireturn, 1) := by decide +kernel
theorem dX10_undoHandle_0 : decode cX10_undoHandle 0 = .ok (.aload_n 0, 1) := by decide +kernel
theorem dX10_undoHandle_1 : decode cX10_undoHandle 1 = .ok (.getfield 22, 3) := by decide +kernel
theorem dX10_undoHandle_4 : decode cX10_undoHandle 4 = .ok (.aload_n 0, 1) := by decide +kernel
theorem dX10_undoHandle_5 : decode cX10_undoHandle 5 = .ok (.getfield 85, 3) := by decide +kernel
theorem dX10_undoHandle_8 : decode cX10_undoHandle 8 = .ok (.iaload, 1) := by decide +kernel
theorem dX10_undoHandle_9 : decode cX10_undoHandle 9 = .ok (.invokestatic 68, 3) := by decide +kernel
theorem dX10_undoHandle_12 : decode cX10_undoHandle 12 = .ok (.istore_n 1, 1) := by decide +kernel
theorem dX10_undoHandle_13 : decode cX10_undoHandle 13 = .ok (.aload_n 0, 1) := by decide +kernel
theorem dX10_undoHandle_14 : decode cX10_undoHandle 14 = .ok (.getfield 22, 3) := by decide +kernel
theorem dX10_undoHandle_17 : decode cX10_undoHandle 17 = .ok (.aload_n 0, 1) := by decide +kernel
theorem dX10_undoHandle_18 : decode cX10_undoHandle 18 = .ok (.getfield 85, 3) := by decide +kernel
theorem dX10_undoHandle_21 : decode cX10_undoHandle 21 = .ok (.iaload, 1) := by decide +kernel
theorem dX10_undoHandle_22 : decode cX10_undoHandle 22 = .ok (.invokestatic 71, 3) := by decide +kernel
theorem dX10_undoHandle_25 : decode cX10_undoHandle 25 = .ok (.istore_n 2, 1) := by decide +kernel
theorem dX10_undoHandle_26 : decode cX10_undoHandle 26 = .ok (.iconst 0, 1) := by decide +kernel
theorem dX10_undoHandle_27 : decode cX10_undoHandle 27 = .ok (.istore_n 3, 1) := by decide +kernel
theorem dX10_undoHandle_28 : decode cX10_undoHandle 28 = .ok (.iconst 0, 1) := by decide +kernel
theorem dX10_undoHandle_29 : decode cX10_undoHandle 29 = .ok (.istore 4, 2) := by decide +kernel
theorem dX10_undoHandle_31 : decode cX10_undoHandle 31 = .ok (.iload 4, 2) := by decide +kernel
theorem dX10_undoHandle_33 : decode cX10_undoHandle 33 = .ok (.aload_n 0, 1) := by decide +kernel
theorem dX10_undoHandle_34 : decode cX10_undoHandle 34 = .ok (.getfield 59, 3) := by decide +kernel
theorem dX10_undoHandle_37 : decode cX10_undoHandle 37 = .ok (.if_icmp .ge 140, 3) := by decide +kernel
theorem dX10_undoHandle_40 : decode cX10_undoHandle 40 = .ok (.iload 4, 2) := by decide +kernel
theorem dX10_undoHandle_42 : decode cX10_undoHandle 42 = .ok (.aload_n 0, 1) := by decide +kernel
theorem dX10_undoHandle_43 : decode cX10_undoHandle 43 = .ok (.getfield 85, 3) := by decide +kernel
theorem dX10_undoHandle_46 : decode cX10_undoHandle 46 = .ok (.if_icmp .le 32, 3) := by decide +kernel
theorem dX10_undoHandle_49 : decode cX10_undoHandle 49 = .ok (.iload 4, 2) := by decide +kernel
theorem dX10_undoHandle_51 : decode cX10_undoHandle 51 = .ok (.aload_n 0, 1) := by decide +kernel
theorem dX10_undoHandle_52 : decode cX10_undoHandle 52 = .ok (.getfield 88, 3) := by decide +kernel
theorem dX10_undoHandle_55 : decode cX10_undoHandle 55 = .ok (.if_icmp .ge 23, 3) := by decide +kernel
theorem dX10_undoHandle_58 : decode cX10_undoHandle 58 = .ok (.aload_n 0, 1) := by decide +kernel
theorem dX10_undoHandle_59 : decode cX10_undoHandle 59 = .ok (.getfield 22, 3) := by decide +kernel
theorem dX10_undoHandle_62 : decode cX10_undoHandle 62 = .ok (.iload 4, 2) := by decide +kernel
theorem dX10_undoHandle_64 : decode cX10_undoHandle 64 = .ok (.iaload, 1) := by decide +kernel
theorem dX10_undoHandle_65 : decode cX10_undoHandle 65 = .ok (.invokestatic 68, 3) := by decide +kernel
theorem dX10_undoHandle_68 : decode cX10_undoHandle 68 = .ok (.iload_n 1, 1) := by decide +kernel
theorem dX10_undoHandle_69 : decode cX10_undoHandle 69 = .ok (.iconst 1, 1) := by decide +kernel
theorem dX10_undoHandle_70 : decode cX10_undoHandle 70 = .ok (.iadd, 1) := by decide +kernel
theorem dX10_undoHandle_71 : decode cX10_undoHandle 71 = .ok (.if_icmp .ne 7, 3) := by decide +kernel
theorem dX10_undoHandle_74 : decode cX10_undoHandle 74 = .ok (.iconst 1, 1) := by decide +kernel
theorem dX10_undoHandle_75 : decode cX10_undoHandle 75 = .ok (.goto 4, 3) := by decide +kernel
theorem dX10_undoHandle_78 : decode cX10_undoHandle 78 = .ok (.iconst 0, 1) := by decide +kernel
theorem dX10_undoHandle_79 : decode cX10_undoHandle 79 = .ok (.istore 5, 2) := by decide +kernel
theorem dX10_undoHandle_81 : decode cX10_undoHandle 81 = .ok (.iload 5, 2) := by decide +kernel
theorem dX10_undoHandle_83 : decode cX10_undoHandle 83 = .ok (.ifCond .eq 54, 3) := by decide +kernel
theorem dX10_undoHandle_86 : decode cX10_undoHandle 86 = .ok (.aload_n 0, 1) := by decide +kernel
theorem dX10_undoHandle_87 : decode cX10_undoHandle 87 = .ok (.getfield 25, 3) := by decide +kernel
theorem dX10_undoHandle_90 : decode cX10_undoHandle 90 = .ok (.iload_n 3, 1) := by decide +kernel
theorem dX10_undoHandle_91 : decode cX10_undoHandle 91 = .ok (.iload_n 2, 1) := by decide +kernel
theorem dX10_undoHandle_92 : decode cX10_undoHandle 92 = .ok (.ineg, 1) := by decide +kernel
theorem dX10_undoHandle_93 : decode cX10_undoHandle 93 = .ok (.iload_n 1, 1) := by decide +kernel
theorem dX10_undoHandle_94 : decode cX10_undoHandle 94 = .ok (.iconst 1, 1) := by decide +kernel
theorem dX10_undoHandle_95 : decode cX10_undoHandle 95 = .ok (.iadd, 1) := by decide +kernel
theorem dX10_undoHandle_96 : decode cX10_undoHandle 96 = .ok (.imul, 1) := by decide +kernel
theorem dX10_undoHandle_97 : decode cX10_undoHandle 97 = .ok (.iastore, 1) := by decide +kernel
theorem dX10_undoHandle_98 : decode cX10_undoHandle 98 = .ok (.aload_n 0, 1) := by decide +kernel
theorem dX10_undoHandle_99 : decode cX10_undoHandle 99 = .ok (.getfield 25, 3) := by decide +kernel
theorem dX10_undoHandle_102 : decode cX10_undoHandle 102 = .ok (.iload_n 3, 1) := by decide +kernel
theorem dX10_undoHandle_103 : decode cX10_undoHandle 103 = .ok (.iconst 1, 1) := by decide +kernel
theorem dX10_undoHandle_104 : decode cX10_undoHandle 104 = .ok (.iadd, 1) := by decide +kernel
theorem dX10_undoHandle_105 : decode cX10_undoHandle 105 = .ok (.aload_n 0, 1) := by decide +kernel
theorem dX10_undoHandle_106 : decode cX10_undoHandle 106 = .ok (.getfield 22, 3) := by decide +kernel
theorem dX10_undoHandle_109 : decode cX10_undoHandle 109 = .ok (.iload 4, 2) := by decide +kernel
theorem dX10_undoHandle_111 : decode cX10_undoHandle 111 = .ok (.iaload, 1) := by decide +kernel
theorem dX10_undoHandle_112 : decode cX10_undoHandle 112 = .ok (.invokestatic 71, 3) := by decide +kernel
theorem dX10_undoHandle_115 : decode cX10_undoHandle 115 = .ok (.iload_n 1, 1) := by decide +kernel
theorem dX10_undoHandle_116 : decode cX10_undoHandle 116 = .ok (.imul, 1) := by decide +kernel
theorem dX10_undoHandle_117 : decode cX10_undoHandle 117 = .ok (.iastore, 1) := by decide +kernel
theorem dX10_undoHandle_118 : decode cX10_undoHandle 118 = .ok (.aload_n 0, 1) := by decide +kernel
theorem dX10_undoHandle_119 : decode cX10_undoHandle 119 = .ok (.getfield 25, 3) := by decide +kernel
theorem dX10_undoHandle_122 : decode cX10_undoHandle 122 = .ok (.iload_n 3, 1) := by decide +kernel
theorem dX10_undoHandle_123 : decode cX10_undoHandle 123 = .ok (.iconst 2, 1) := by decide +kernel
theorem dX10_undoHandle_124 : decode cX10_undoHandle 124 = .ok (.iadd, 1) := by decide +kernel
theorem dX10_undoHandle_125 : decode cX10_undoHandle 125 = .ok (.iload_n 2, 1) := by decide +kernel
theorem dX10_undoHandle_126 : decode cX10_undoHandle 126 = .ok (.iload_n 1, 1) := by decide +kernel
theorem dX10_undoHandle_127 : decode cX10_undoHandle 127 = .ok (.iconst 1, 1) := by decide +kernel
theorem dX10_undoHandle_128 : decode cX10_undoHandle 128 = .ok (.iadd, 1) := by decide +kernel
theorem dX10_undoHandle_129 : decode cX10_undoHandle 129 = .ok (.imul, 1) := by decide +kernel
theorem dX10_undoHandle_130 : decode cX10_undoHandle 130 = .ok (.iastore, 1) := by decide +kernel
theorem dX10_undoHandle_131 : decode cX10_undoHandle 131 = .ok (.iinc 3 3, 3) := by decide +kernel
theorem dX10_undoHandle_134 : decode cX10_undoHandle 134 = .ok (.goto 37, 3) := by decide +kernel
theorem dX10_undoHandle_137 : decode cX10_undoHandle 137 = .ok (.iload 4, 2) := by decide +kernel
theorem dX10_undoHandle_139 : decode cX10_undoHandle 139 = .ok (.aload_n 0, 1) := by decide +kernel
theorem dX10_undoHandle_140 : decode cX10_undoHandle 140 = .ok (.getfield 85, 3) := by decide +kernel
theorem dX10_undoHandle_143 : decode cX10_undoHandle 143 = .ok (.if_icmp .eq 28, 3) := by decide +kernel
theorem dX10_undoHandle_146 : decode cX10_undoHandle 146 = .ok (.iload 4, 2) := by decide +kernel
theorem dX10_undoHandle_148 : decode cX10_undoHandle 148 = .ok (.aload_n 0, 1) := by decide +kernel
theorem dX10_undoHandle_149 : decode cX10_undoHandle 149 = .ok (.getfield 88, 3) := by decide +kernel
theorem dX10_undoHandle_152 : decode cX10_undoHandle 152 = .ok (.if_icmp .eq 19, 3) := by decide +kernel
theorem dX10_undoHandle_155 : decode cX10_undoHandle 155 = .ok (.aload_n 0, 1) := by decide +kernel
theorem dX10_undoHandle_156 : decode cX10_undoHandle 156 = .ok (.getfield 25, 3) := by decide +kernel
theorem dX10_undoHandle_159 : decode cX10_undoHandle 159 = .ok (.iload_n 3, 1) := by decide +kernel
theorem dX10_undoHandle_160 : decode cX10_undoHandle 160 = .ok (.aload_n 0, 1) := by decide +kernel
theorem dX10_undoHandle_161 : decode cX10_undoHandle 161 = .ok (.getfield 22, 3) := by decide +kernel
theorem dX10_undoHandle_164 : decode cX10_undoHandle 164 = .ok (.iload 4, 2) := by decide +kernel
theorem dX10_undoHandle_166 : decode cX10_undoHandle 166 = .ok (.iaload, 1) := by decide +kernel
theorem dX10_undoHandle_167 : decode cX10_undoHandle 167 = .ok (.iastore, 1) := by decide +kernel
theorem dX10_undoHandle_168 : decode cX10_undoHandle 168 = .ok (.iinc 3 1, 3) := by decide +kernel
theorem dX10_undoHandle_171 : decode cX10_undoHandle 171 = .ok (.iinc 4 1, 3) := by decide +kernel
theorem dX10_undoHandle_174 : decode cX10_undoHandle 174 = .ok (.goto (-143), 3) := by decide +kernel
theorem dX10_undoHandle_177 : decode cX10_undoHandle 177 = .ok (.aload_n 0, 1) := by decide +kernel
theorem dX10_undoHandle_178 : decode cX10_undoHandle 178 = .ok (.iload_n 3, 1) := by decide +kernel
theorem dX10_undoHandle_179 : decode cX10_undoHandle 179 = .ok (.putfield 59, 3) := by decide +kernel
theorem dX10_undoHandle_182 : decode cX10_undoHandle 182 = .ok (.iconst 0, 1) := by decide +kernel
theorem dX10_undoHandle_183 : decode cX10_undoHandle 183 = .ok (.istore 4, 2) := by decide +kernel
theorem dX10_undoHandle_185 : decode cX10_undoHandle 185 = .ok (.iload 4, 2) := by decide +kernel
theorem dX10_undoHandle_187 : decode cX10_undoHandle 187 = .ok (.iload_n 3, 1) := by decide +kernel
theorem dX10_undoHandle_188 : decode cX10_undoHandle 188 = .ok (.if_icmp .ge 23, 3) := by decide +kernel
theorem dX10_undoHandle_191 : decode cX10_undoHandle 191 = .ok (.aload_n 0, 1) := by decide +kernel
theorem dX10_undoHandle_192 : decode cX10_undoHandle 192 = .ok (.getfield 22, 3) := by decide +kernel
theorem dX10_undoHandle_195 : decode cX10_undoHandle 195 = .ok (.iload 4, 2) := by decide +kernel
theorem dX10_undoHandle_197 : decode cX10_undoHandle 197 = .ok (.aload_n 0, 1) := by decide +kernel
theorem dX10_undoHandle_198 : decode cX10_undoHandle 198 = .ok (.getfield 25, 3) := by decide +kernel
theorem dX10_undoHandle_201 : decode cX10_undoHandle 201 = .ok (.iload 4, 2) := by decide +kernel
theorem dX10_undoHandle_203 : decode cX10_undoHandle 203 = .ok (.iaload, 1) := by decide +kernel
theorem dX10_undoHandle_204 : decode cX10_undoHandle 204 = .ok (.iastore, 1) := by decide +kernel
theorem dX10_undoHandle_205 : decode cX10_undoHandle 205 = .ok (.iinc 4 1, 3) := by decide +kernel
theorem dX10_undoHandle_208 : decode cX10_undoHandle 208 = .ok (.goto (-23), 3) := by decide +kernel
theorem dX10_undoHandle_211 : decode cX10_undoHandle 211 = .ok (.return_, 1) := by decide +kernel
theorem dX10_untangle_0 : decode cX10_untangle 0 = .ok (.aload_n 0, 1) := by decide +kernel
theorem dX10_untangle_1 : decode cX10_untangle 1 = .ok (.iconst 0, 1) := by decide +kernel
theorem dX10_untangle_2 : decode cX10_untangle 2 = .ok (.putfield 91, 3) := by decide +kernel
theorem dX10_untangle_5 : decode cX10_untangle 5 = .ok (.aload_n 0, 1) := by decide +kernel
theorem dX10_untangle_6 : decode cX10_untangle 6 = .ok (.aload_n 0, 1) := by decide +kernel
theorem dX10_untangle_7 : decode cX10_untangle 7 = .ok (.getfield 59, 3) := by decide +kernel
theorem dX10_untangle_10 : decode cX10_untangle 10 = .ok (.putfield 94, 3) := by decide +kernel
theorem dX10_untangle_13 : decode cX10_untangle 13 = .ok (.aload_n 0, 1) := by decide +kernel
theorem dX10_untangle_14 : decode cX10_untangle 14 = .ok (.invokevirtual 97, 3) := by decide +kernel
theorem dX10_untangle_17 : decode cX10_untangle 17 = .ok (.ifCond .eq 68, 3) := by decide +kernel
theorem dX10_untangle_20 : decode cX10_untangle 20 = .ok (.aload_n 0, 1) := by decide +kernel
theorem dX10_untangle_21 : decode cX10_untangle 21 = .ok (.getfield 91, 3) := by decide +kernel
theorem dX10_untangle_24 : decode cX10_untangle 24 = .ok (.sipush 600, 3) := by decide +kernel
theorem dX10_untangle_27 : decode cX10_untangle 27 = .ok (.if_icmp .eq 13, 3) := by decide +kernel
theorem dX10_untangle_30 : decode cX10_untangle 30 = .ok (.aload_n 0, 1) := by decide +kernel
theorem dX10_untangle_31 : decode cX10_untangle 31 = .ok (.invokevirtual 101, 3) := by decide +kernel
theorem dX10_untangle_34 : decode cX10_untangle 34 = .ok (.sipush 400, 3) := by decide +kernel
theorem dX10_untangle_37 : decode cX10_untangle 37 = .ok (.if_icmp .le 5, 3) := by decide +kernel
theorem dX10_untangle_40 : decode cX10_untangle 40 = .ok (.iconst 0, 1) := by decide +kernel
theorem dX10_untangle_41 : decode cX10_untangle 41 = .ok (.ireturn, 1) := by decide +kernel
theorem dX10_untangle_42 : decode cX10_untangle 42 = .ok (.aload_n 0, 1) := by decide +kernel
theorem dX10_untangle_43 : decode cX10_untangle 43 = .ok (.invokevirtual 105, 3) := by decide +kernel
theorem dX10_untangle_46 : decode cX10_untangle 46 = .ok (.aload_n 0, 1) := by decide +kernel
theorem dX10_untangle_47 : decode cX10_untangle 47 = .ok (.dup, 1) := by decide +kernel
theorem dX10_untangle_48 : decode cX10_untangle 48 = .ok (.getfield 91, 3) := by decide +kernel
theorem dX10_untangle_51 : decode cX10_untangle 51 = .ok (.iconst 1, 1) := by decide +kernel
theorem dX10_untangle_52 : decode cX10_untangle 52 = .ok (.iadd, 1) := by decide +kernel
theorem dX10_untangle_53 : decode cX10_untangle 53 = .ok (.putfield 91, 3) := by decide +kernel
theorem dX10_untangle_56 : decode cX10_untangle 56 = .ok (.aload_n 0, 1) := by decide +kernel
theorem dX10_untangle_57 : decode cX10_untangle 57 = .ok (.aload_n 0, 1) := by decide +kernel
theorem dX10_untangle_58 : decode cX10_untangle 58 = .ok (.getfield 59, 3) := by decide +kernel
theorem dX10_untangle_61 : decode cX10_untangle 61 = .ok (.aload_n 0, 1) := by decide +kernel
theorem dX10_untangle_62 : decode cX10_untangle 62 = .ok (.getfield 94, 3) := by decide +kernel
theorem dX10_untangle_65 : decode cX10_untangle 65 = .ok (.if_icmp .le 10, 3) := by decide +kernel
theorem dX10_untangle_68 : decode cX10_untangle 68 = .ok (.aload_n 0, 1) := by decide +kernel
theorem dX10_untangle_69 : decode cX10_untangle 69 = .ok (.getfield 59, 3) := by decide +kernel
theorem dX10_untangle_72 : decode cX10_untangle 72 = .ok (.goto 7, 3) := by decide +kernel
theorem dX10_untangle_75 : decode cX10_untangle 75 = .ok (.aload_n 0, 1) := by decide +kernel
theorem dX10_untangle_76 : decode cX10_untangle 76 = .ok (.getfield 94, 3) := by decide +kernel
theorem dX10_untangle_79 : decode cX10_untangle 79 = .ok (.putfield 94, 3) := by decide +kernel
theorem dX10_untangle_82 : decode cX10_untangle 82 = .ok (.goto (-69), 3) := by decide +kernel
theorem dX10_untangle_85 : decode cX10_untangle 85 = .ok (.iconst 1, 1) := by decide +kernel
theorem dX10_untangle_86 : decode cX10_untangle 86 = .ok (.ireturn, 1) := by decide +kernel
theorem dX10_leaning_0 : decode cX10_leaning 0 = .ok (.iconst 1, 1) := by decide +kernel
theorem dX10_leaning_1 : decode cX10_leaning 1 = .ok (.istore_n 1, 1) := by decide +kernel
theorem dX10_leaning_2 : decode cX10_leaning 2 = .ok (.iload_n 1, 1) := by decide +kernel
theorem dX10_leaning_3 : decode cX10_leaning 3 = .ok (.iconst 4, 1) := by decide +kernel
theorem dX10_leaning_4 : decode cX10_leaning 4 = .ok (.if_icmp .ge 53, 3) := by decide +kernel
theorem dX10_leaning_7 : decode cX10_leaning 7 = .ok (.iconst 0, 1) := by decide +kernel
theorem dX10_leaning_8 : decode cX10_leaning 8 = .ok (.istore_n 2, 1) := by decide +kernel
theorem dX10_leaning_9 : decode cX10_leaning 9 = .ok (.iload_n 2, 1) := by decide +kernel
theorem dX10_leaning_10 : decode cX10_leaning 10 = .ok (.aload_n 0, 1) := by decide +kernel
theorem dX10_leaning_11 : decode cX10_leaning 11 = .ok (.getfield 59, 3) := by decide +kernel
theorem dX10_leaning_14 : decode cX10_leaning 14 = .ok (.if_icmp .ge 37, 3) := by decide +kernel
theorem dX10_leaning_17 : decode cX10_leaning 17 = .ok (.aload_n 0, 1) := by decide +kernel
theorem dX10_leaning_18 : decode cX10_leaning 18 = .ok (.getfield 22, 3) := by decide +kernel
theorem dX10_leaning_21 : decode cX10_leaning 21 = .ok (.iload_n 2, 1) := by decide +kernel
theorem dX10_leaning_22 : decode cX10_leaning 22 = .ok (.iaload, 1) := by decide +kernel
theorem dX10_leaning_23 : decode cX10_leaning 23 = .ok (.invokestatic 68, 3) := by decide +kernel
theorem dX10_leaning_26 : decode cX10_leaning 26 = .ok (.iload_n 1, 1) := by decide +kernel
theorem dX10_leaning_27 : decode cX10_leaning 27 = .ok (.if_icmp .ne 18, 3) := by decide +kernel
theorem dX10_leaning_30 : decode cX10_leaning 30 = .ok (.aload_n 0, 1) := by decide +kernel
theorem dX10_leaning_31 : decode cX10_leaning 31 = .ok (.getfield 22, 3) := by decide +kernel
theorem dX10_leaning_34 : decode cX10_leaning 34 = .ok (.iload_n 2, 1) := by decide +kernel
theorem dX10_leaning_35 : decode cX10_leaning 35 = .ok (.iaload, 1) := by decide +kernel
theorem dX10_leaning_36 : decode cX10_leaning 36 = .ok (.ifCond .le 7, 3) := by decide +kernel
theorem dX10_leaning_39 : decode cX10_leaning 39 = .ok (.iconst 1, 1) := by decide +kernel
theorem dX10_leaning_40 : decode cX10_leaning 40 = .ok (.goto 4, 3) := by decide +kernel
theorem dX10_leaning_43 : decode cX10_leaning 43 = .ok (.iconst 2, 1) := by decide +kernel
theorem dX10_leaning_44 : decode cX10_leaning 44 = .ok (.ireturn, 1) := by decide +kernel
theorem dX10_leaning_45 : decode cX10_leaning 45 = .ok (.iinc 2 1, 3) := by decide +kernel
theorem dX10_leaning_48 : decode cX10_leaning 48 = .ok (.goto (-39), 3) := by decide +kernel
theorem dX10_leaning_51 : decode cX10_leaning 51 = .ok (.iinc 1 1, 3) := by decide +kernel
theorem dX10_leaning_54 : decode cX10_leaning 54 = .ok (.goto (-52), 3) := by decide +kernel
theorem dX10_leaning_57 : decode cX10_leaning 57 = .ok (.iconst 0, 1) := by decide +kernel
theorem dX10_leaning_58 : decode cX10_leaning 58 = .ok (.ireturn, 1) := by decide +kernel
theorem dX10_cross_0 : decode cX10_cross 0 = .ok (.aload_n 0, 1) := by decide +kernel
theorem dX10_cross_1 : decode cX10_cross 1 = .ok (.iconst 0, 1) := by decide +kernel
theorem dX10_cross_2 : decode cX10_cross 2 = .ok (.putfield 41, 3) := by decide +kernel
theorem dX10_cross_5 : decode cX10_cross 5 = .ok (.iload_n 1, 1) := by decide +kernel
theorem dX10_cross_6 : decode cX10_cross 6 = .ok (.invokestatic 108, 3) := by decide +kernel
theorem dX10_cross_9 : decode cX10_cross 9 = .ok (.ifCond .ne 9, 3) := by decide +kernel
theorem dX10_cross_12 : decode cX10_cross 12 = .ok (.aload_n 0, 1) := by decide +kernel
theorem dX10_cross_13 : decode cX10_cross 13 = .ok (.iconst 1, 1) := by decide +kernel
theorem dX10_cross_14 : decode cX10_cross 14 = .ok (.invokevirtual 52, 3) := by decide +kernel
theorem dX10_cross_17 : decode cX10_cross 17 = .ok (.ireturn, 1) := by decide +kernel
theorem dX10_cross_18 : decode cX10_cross 18 = .ok (.aload_n 0, 1) := by decide +kernel
theorem dX10_cross_19 : decode cX10_cross 19 = .ok (.getfield 7, 3) := by decide +kernel
theorem dX10_cross_22 : decode cX10_cross 22 = .ok (.iconst 0, 1) := by decide +kernel
theorem dX10_cross_23 : decode cX10_cross 23 = .ok (.iaload, 1) := by decide +kernel
theorem dX10_cross_24 : decode cX10_cross 24 = .ok (.bipush 30, 2) := by decide +kernel
theorem dX10_cross_26 : decode cX10_cross 26 = .ok (.if_icmp .ne 9, 3) := by decide +kernel
theorem dX10_cross_29 : decode cX10_cross 29 = .ok (.aload_n 0, 1) := by decide +kernel
theorem dX10_cross_30 : decode cX10_cross 30 = .ok (.iconst 2, 1) := by decide +kernel
theorem dX10_cross_31 : decode cX10_cross 31 = .ok (.invokevirtual 52, 3) := by decide +kernel
theorem dX10_cross_34 : decode cX10_cross 34 = .ok (.ireturn, 1) := by decide +kernel
theorem dX10_cross_35 : decode cX10_cross 35 = .ok (.aload_n 0, 1) := by decide +kernel
theorem dX10_cross_36 : decode cX10_cross 36 = .ok (.invokevirtual 56, 3) := by decide +kernel
theorem dX10_cross_39 : decode cX10_cross 39 = .ok (.aload_n 0, 1) := by decide +kernel
theorem dX10_cross_40 : decode cX10_cross 40 = .ok (.getfield 7, 3) := by decide +kernel
theorem dX10_cross_43 : decode cX10_cross 43 = .ok (.iconst 2, 1) := by decide +kernel
theorem dX10_cross_44 : decode cX10_cross 44 = .ok (.aload_n 0, 1) := by decide +kernel
theorem dX10_cross_45 : decode cX10_cross 45 = .ok (.getfield 7, 3) := by decide +kernel
theorem dX10_cross_48 : decode cX10_cross 48 = .ok (.iconst 0, 1) := by decide +kernel
theorem dX10_cross_49 : decode cX10_cross 49 = .ok (.iaload, 1) := by decide +kernel
theorem dX10_cross_50 : decode cX10_cross 50 = .ok (.iadd, 1) := by decide +kernel
theorem dX10_cross_51 : decode cX10_cross 51 = .ok (.iload_n 1, 1) := by decide +kernel
theorem dX10_cross_52 : decode cX10_cross 52 = .ok (.iastore, 1) := by decide +kernel
theorem dX10_cross_53 : decode cX10_cross 53 = .ok (.aload_n 0, 1) := by decide +kernel
theorem dX10_cross_54 : decode cX10_cross 54 = .ok (.getfield 7, 3) := by decide +kernel
theorem dX10_cross_57 : decode cX10_cross 57 = .ok (.iconst 0, 1) := by decide +kernel
theorem dX10_cross_58 : decode cX10_cross 58 = .ok (.dup2, 1) := by decide +kernel
theorem dX10_cross_59 : decode cX10_cross 59 = .ok (.iaload, 1) := by decide +kernel
theorem dX10_cross_60 : decode cX10_cross 60 = .ok (.iconst 1, 1) := by decide +kernel
theorem dX10_cross_61 : decode cX10_cross 61 = .ok (.iadd, 1) := by decide +kernel
theorem dX10_cross_62 : decode cX10_cross 62 = .ok (.iastore, 1) := by decide +kernel
theorem dX10_cross_63 : decode cX10_cross 63 = .ok (.aload_n 0, 1) := by decide +kernel
theorem dX10_cross_64 : decode cX10_cross 64 = .ok (.getfield 7, 3) := by decide +kernel
theorem dX10_cross_67 : decode cX10_cross 67 = .ok (.iconst 0, 1) := by decide +kernel
theorem dX10_cross_68 : decode cX10_cross 68 = .ok (.iaload, 1) := by decide +kernel
theorem dX10_cross_69 : decode cX10_cross 69 = .ok (.ireturn, 1) := by decide +kernel
theorem dX10_open_0 : decode cX10_open 0 = .ok (.aload_n 0, 1) := by decide +kernel
theorem dX10_open_1 : decode cX10_open 1 = .ok (.iconst 0, 1) := by decide +kernel
theorem dX10_open_2 : decode cX10_open 2 = .ok (.putfield 41, 3) := by decide +kernel
theorem dX10_open_5 : decode cX10_open 5 = .ok (.aload_n 0, 1) := by decide +kernel
theorem dX10_open_6 : decode cX10_open 6 = .ok (.getfield 7, 3) := by decide +kernel
theorem dX10_open_9 : decode cX10_open 9 = .ok (.iconst 0, 1) := by decide +kernel
theorem dX10_open_10 : decode cX10_open 10 = .ok (.iaload, 1) := by decide +kernel
theorem dX10_open_11 : decode cX10_open 11 = .ok (.ifCond .ne 9, 3) := by decide +kernel
theorem dX10_open_14 : decode cX10_open 14 = .ok (.aload_n 0, 1) := by decide +kernel
theorem dX10_open_15 : decode cX10_open 15 = .ok (.iconst 1, 1) := by decide +kernel
theorem dX10_open_16 : decode cX10_open 16 = .ok (.invokevirtual 52, 3) := by decide +kernel
theorem dX10_open_19 : decode cX10_open 19 = .ok (.ireturn, 1) := by decide +kernel
theorem dX10_open_20 : decode cX10_open 20 = .ok (.aload_n 0, 1) := by decide +kernel
theorem dX10_open_21 : decode cX10_open 21 = .ok (.invokevirtual 56, 3) := by decide +kernel
theorem dX10_open_24 : decode cX10_open 24 = .ok (.aload_n 0, 1) := by decide +kernel
theorem dX10_open_25 : decode cX10_open 25 = .ok (.getfield 7, 3) := by decide +kernel
theorem dX10_open_28 : decode cX10_open 28 = .ok (.iconst 0, 1) := by decide +kernel
theorem dX10_open_29 : decode cX10_open 29 = .ok (.dup2, 1) := by decide +kernel
theorem dX10_open_30 : decode cX10_open 30 = .ok (.iaload, 1) := by decide +kernel
theorem dX10_open_31 : decode cX10_open 31 = .ok (.iconst 1, 1) := by decide +kernel
theorem dX10_open_32 : decode cX10_open 32 = .ok (.isub, 1) := by decide +kernel
theorem dX10_open_33 : decode cX10_open 33 = .ok (.iastore, 1) := by decide +kernel
theorem dX10_open_34 : decode cX10_open 34 = .ok (.aload_n 0, 1) := by decide +kernel
theorem dX10_open_35 : decode cX10_open 35 = .ok (.aload_n 0, 1) := by decide +kernel
theorem dX10_open_36 : decode cX10_open 36 = .ok (.getfield 7, 3) := by decide +kernel
theorem dX10_open_39 : decode cX10_open 39 = .ok (.iconst 0, 1) := by decide +kernel
theorem dX10_open_40 : decode cX10_open 40 = .ok (.iaload, 1) := by decide +kernel
theorem dX10_open_41 : decode cX10_open 41 = .ok (.invokevirtual 62, 3) := by decide +kernel
theorem dX10_open_44 : decode cX10_open 44 = .ok (.istore_n 1, 1) := by decide +kernel
theorem dX10_open_45 : decode cX10_open 45 = .ok (.aload_n 0, 1) := by decide +kernel
theorem dX10_open_46 : decode cX10_open 46 = .ok (.getfield 7, 3) := by decide +kernel
theorem dX10_open_49 : decode cX10_open 49 = .ok (.iconst 2, 1) := by decide +kernel
theorem dX10_open_50 : decode cX10_open 50 = .ok (.aload_n 0, 1) := by decide +kernel
theorem dX10_open_51 : decode cX10_open 51 = .ok (.getfield 7, 3) := by decide +kernel
theorem dX10_open_54 : decode cX10_open 54 = .ok (.iconst 0, 1) := by decide +kernel
theorem dX10_open_55 : decode cX10_open 55 = .ok (.iaload, 1) := by decide +kernel
theorem dX10_open_56 : decode cX10_open 56 = .ok (.iadd, 1) := by decide +kernel
theorem dX10_open_57 : decode cX10_open 57 = .ok (.iconst 0, 1) := by decide +kernel
theorem dX10_open_58 : decode cX10_open 58 = .ok (.iastore, 1) := by decide +kernel
theorem dX10_open_59 : decode cX10_open 59 = .ok (.iload_n 1, 1) := by decide +kernel
theorem dX10_open_60 : decode cX10_open 60 = .ok (.bipush 10, 2) := by decide +kernel
theorem dX10_open_62 : decode cX10_open 62 = .ok (.iadd, 1) := by decide +kernel
theorem dX10_open_63 : decode cX10_open 63 = .ok (.ireturn, 1) := by decide +kernel
theorem dX10_isMove_0 : decode cX10_isMove 0 = .ok (.iload_n 0, 1) := by decide +kernel
theorem dX10_isMove_1 : decode cX10_isMove 1 = .ok (.iconst 0, 1) := by decide +kernel
theorem dX10_isMove_2 : decode cX10_isMove 2 = .ok (.iconst 2, 1) := by decide +kernel
theorem dX10_isMove_3 : decode cX10_isMove 3 = .ok (.invokestatic 45, 3) := by decide +kernel
theorem dX10_isMove_6 : decode cX10_isMove 6 = .ok (.ireturn, 1) := by decide +kernel
theorem dX10_move_0 : decode cX10_move 0 = .ok (.aload_n 0, 1) := by decide +kernel
theorem dX10_move_1 : decode cX10_move 1 = .ok (.iconst 0, 1) := by decide +kernel
theorem dX10_move_2 : decode cX10_move 2 = .ok (.putfield 41, 3) := by decide +kernel
theorem dX10_move_5 : decode cX10_move 5 = .ok (.iload_n 1, 1) := by decide +kernel
theorem dX10_move_6 : decode cX10_move 6 = .ok (.invokestatic 112, 3) := by decide +kernel
theorem dX10_move_9 : decode cX10_move 9 = .ok (.ifCond .eq 7, 3) := by decide +kernel
theorem dX10_move_12 : decode cX10_move 12 = .ok (.iload_n 2, 1) := by decide +kernel
theorem dX10_move_13 : decode cX10_move 13 = .ok (.ifCond .ge 9, 3) := by decide +kernel
theorem dX10_move_16 : decode cX10_move 16 = .ok (.aload_n 0, 1) := by decide +kernel
theorem dX10_move_17 : decode cX10_move 17 = .ok (.iconst 1, 1) := by decide +kernel
theorem dX10_move_18 : decode cX10_move 18 = .ok (.invokevirtual 52, 3) := by decide +kernel
theorem dX10_move_21 : decode cX10_move 21 = .ok (.ireturn, 1) := by decide +kernel
theorem dX10_move_22 : decode cX10_move 22 = .ok (.aload_n 0, 1) := by decide +kernel
theorem dX10_move_23 : decode cX10_move 23 = .ok (.invokevirtual 115, 3) := by decide +kernel
theorem dX10_move_26 : decode cX10_move 26 = .ok (.aload_n 0, 1) := by decide +kernel
theorem dX10_move_27 : decode cX10_move 27 = .ok (.iload_n 1, 1) := by decide +kernel
theorem dX10_move_28 : decode cX10_move 28 = .ok (.iload_n 2, 1) := by decide +kernel
theorem dX10_move_29 : decode cX10_move 29 = .ok (.invokevirtual 78, 3) := by decide +kernel
theorem dX10_move_32 : decode cX10_move 32 = .ok (.ifCond .eq 9, 3) := by decide +kernel
theorem dX10_move_35 : decode cX10_move 35 = .ok (.aload_n 0, 1) := by decide +kernel
theorem dX10_move_36 : decode cX10_move 36 = .ok (.iconst 2, 1) := by decide +kernel
theorem dX10_move_37 : decode cX10_move 37 = .ok (.invokevirtual 52, 3) := by decide +kernel
theorem dX10_move_40 : decode cX10_move 40 = .ok (.ireturn, 1) := by decide +kernel
theorem dX10_move_41 : decode cX10_move 41 = .ok (.aload_n 0, 1) := by decide +kernel
theorem dX10_move_42 : decode cX10_move 42 = .ok (.invokevirtual 56, 3) := by decide +kernel
theorem dX10_move_45 : decode cX10_move 45 = .ok (.aload_n 0, 1) := by decide +kernel
theorem dX10_move_46 : decode cX10_move 46 = .ok (.iload_n 1, 1) := by decide +kernel
theorem dX10_move_47 : decode cX10_move 47 = .ok (.iload_n 2, 1) := by decide +kernel
theorem dX10_move_48 : decode cX10_move 48 = .ok (.invokevirtual 118, 3) := by decide +kernel
theorem dX10_move_51 : decode cX10_move 51 = .ok (.aload_n 0, 1) := by decide +kernel
theorem dX10_move_52 : decode cX10_move 52 = .ok (.getfield 7, 3) := by decide +kernel
theorem dX10_move_55 : decode cX10_move 55 = .ok (.iconst 1, 1) := by decide +kernel
theorem dX10_move_56 : decode cX10_move 56 = .ok (.dup2, 1) := by decide +kernel
theorem dX10_move_57 : decode cX10_move 57 = .ok (.iaload, 1) := by decide +kernel
theorem dX10_move_58 : decode cX10_move 58 = .ok (.iconst 1, 1) := by decide +kernel
theorem dX10_move_59 : decode cX10_move 59 = .ok (.iadd, 1) := by decide +kernel
theorem dX10_move_60 : decode cX10_move 60 = .ok (.iastore, 1) := by decide +kernel
theorem dX10_move_61 : decode cX10_move 61 = .ok (.aload_n 0, 1) := by decide +kernel
theorem dX10_move_62 : decode cX10_move 62 = .ok (.invokevirtual 122, 3) := by decide +kernel
theorem dX10_move_65 : decode cX10_move 65 = .ok (.ireturn, 1) := by decide +kernel
theorem dX10_pair_0 : decode cX10_pair 0 = .ok (.aload_n 0, 1) := by decide +kernel
theorem dX10_pair_1 : decode cX10_pair 1 = .ok (.iconst 0, 1) := by decide +kernel
theorem dX10_pair_2 : decode cX10_pair 2 = .ok (.putfield 41, 3) := by decide +kernel
theorem dX10_pair_5 : decode cX10_pair 5 = .ok (.iload_n 1, 1) := by decide +kernel
theorem dX10_pair_6 : decode cX10_pair 6 = .ok (.iconst 0, 1) := by decide +kernel
theorem dX10_pair_7 : decode cX10_pair 7 = .ok (.aload_n 0, 1) := by decide +kernel
theorem dX10_pair_8 : decode cX10_pair 8 = .ok (.getfield 7, 3) := by decide +kernel
theorem dX10_pair_11 : decode cX10_pair 11 = .ok (.iconst 0, 1) := by decide +kernel
theorem dX10_pair_12 : decode cX10_pair 12 = .ok (.iaload, 1) := by decide +kernel
theorem dX10_pair_13 : decode cX10_pair 13 = .ok (.invokestatic 45, 3) := by decide +kernel
theorem dX10_pair_16 : decode cX10_pair 16 = .ok (.ifCond .eq 10, 3) := by decide +kernel
theorem dX10_pair_19 : decode cX10_pair 19 = .ok (.iload_n 2, 1) := by decide +kernel
theorem dX10_pair_20 : decode cX10_pair 20 = .ok (.invokestatic 108, 3) := by decide +kernel
theorem dX10_pair_23 : decode cX10_pair 23 = .ok (.ifCond .ne 9, 3) := by decide +kernel
theorem dX10_pair_26 : decode cX10_pair 26 = .ok (.aload_n 0, 1) := by decide +kernel
theorem dX10_pair_27 : decode cX10_pair 27 = .ok (.iconst 1, 1) := by decide +kernel
theorem dX10_pair_28 : decode cX10_pair 28 = .ok (.invokevirtual 52, 3) := by decide +kernel
theorem dX10_pair_31 : decode cX10_pair 31 = .ok (.ireturn, 1) := by decide +kernel
theorem dX10_pair_32 : decode cX10_pair 32 = .ok (.aload_n 0, 1) := by decide +kernel
theorem dX10_pair_33 : decode cX10_pair 33 = .ok (.getfield 7, 3) := by decide +kernel
theorem dX10_pair_36 : decode cX10_pair 36 = .ok (.iconst 0, 1) := by decide +kernel
theorem dX10_pair_37 : decode cX10_pair 37 = .ok (.iaload, 1) := by decide +kernel
theorem dX10_pair_38 : decode cX10_pair 38 = .ok (.iconst 2, 1) := by decide +kernel
theorem dX10_pair_39 : decode cX10_pair 39 = .ok (.iadd, 1) := by decide +kernel
theorem dX10_pair_40 : decode cX10_pair 40 = .ok (.bipush 30, 2) := by decide +kernel
theorem dX10_pair_42 : decode cX10_pair 42 = .ok (.if_icmp .le 9, 3) := by decide +kernel
theorem dX10_pair_45 : decode cX10_pair 45 = .ok (.aload_n 0, 1) := by decide +kernel
theorem dX10_pair_46 : decode cX10_pair 46 = .ok (.iconst 2, 1) := by decide +kernel
theorem dX10_pair_47 : decode cX10_pair 47 = .ok (.invokevirtual 52, 3) := by decide +kernel
theorem dX10_pair_50 : decode cX10_pair 50 = .ok (.ireturn, 1) := by decide +kernel
theorem dX10_pair_51 : decode cX10_pair 51 = .ok (.aload_n 0, 1) := by decide +kernel
theorem dX10_pair_52 : decode cX10_pair 52 = .ok (.invokevirtual 56, 3) := by decide +kernel
theorem dX10_pair_55 : decode cX10_pair 55 = .ok (.aload_n 0, 1) := by decide +kernel
theorem dX10_pair_56 : decode cX10_pair 56 = .ok (.invokevirtual 115, 3) := by decide +kernel
theorem dX10_pair_59 : decode cX10_pair 59 = .ok (.aload_n 0, 1) := by decide +kernel
theorem dX10_pair_60 : decode cX10_pair 60 = .ok (.getfield 59, 3) := by decide +kernel
theorem dX10_pair_63 : decode cX10_pair 63 = .ok (.iconst 1, 1) := by decide +kernel
theorem dX10_pair_64 : decode cX10_pair 64 = .ok (.isub, 1) := by decide +kernel
theorem dX10_pair_65 : decode cX10_pair 65 = .ok (.istore_n 3, 1) := by decide +kernel
theorem dX10_pair_66 : decode cX10_pair 66 = .ok (.iload_n 3, 1) := by decide +kernel
theorem dX10_pair_67 : decode cX10_pair 67 = .ok (.iload_n 1, 1) := by decide +kernel
theorem dX10_pair_68 : decode cX10_pair 68 = .ok (.if_icmp .lt 23, 3) := by decide +kernel
theorem dX10_pair_71 : decode cX10_pair 71 = .ok (.aload_n 0, 1) := by decide +kernel
theorem dX10_pair_72 : decode cX10_pair 72 = .ok (.getfield 22, 3) := by decide +kernel
theorem dX10_pair_75 : decode cX10_pair 75 = .ok (.iload_n 3, 1) := by decide +kernel
theorem dX10_pair_76 : decode cX10_pair 76 = .ok (.iconst 2, 1) := by decide +kernel
theorem dX10_pair_77 : decode cX10_pair 77 = .ok (.iadd, 1) := by decide +kernel
theorem dX10_pair_78 : decode cX10_pair 78 = .ok (.aload_n 0, 1) := by decide +kernel
theorem dX10_pair_79 : decode cX10_pair 79 = .ok (.getfield 22, 3) := by decide +kernel
theorem dX10_pair_82 : decode cX10_pair 82 = .ok (.iload_n 3, 1) := by decide +kernel
theorem dX10_pair_83 : decode cX10_pair 83 = .ok (.iaload, 1) := by decide +kernel
theorem dX10_pair_84 : decode cX10_pair 84 = .ok (.iastore, 1) := by decide +kernel
theorem dX10_pair_85 : decode cX10_pair 85 = .ok (.iinc 3 (-1), 3) := by decide +kernel
theorem dX10_pair_88 : decode cX10_pair 88 = .ok (.goto (-22), 3) := by decide +kernel
theorem dX10_pair_91 : decode cX10_pair 91 = .ok (.aload_n 0, 1) := by decide +kernel
theorem dX10_pair_92 : decode cX10_pair 92 = .ok (.getfield 22, 3) := by decide +kernel
theorem dX10_pair_95 : decode cX10_pair 95 = .ok (.iload_n 1, 1) := by decide +kernel
theorem dX10_pair_96 : decode cX10_pair 96 = .ok (.iload_n 2, 1) := by decide +kernel
theorem dX10_pair_97 : decode cX10_pair 97 = .ok (.iastore, 1) := by decide +kernel
theorem dX10_pair_98 : decode cX10_pair 98 = .ok (.aload_n 0, 1) := by decide +kernel
theorem dX10_pair_99 : decode cX10_pair 99 = .ok (.getfield 22, 3) := by decide +kernel
theorem dX10_pair_102 : decode cX10_pair 102 = .ok (.iload_n 1, 1) := by decide +kernel
theorem dX10_pair_103 : decode cX10_pair 103 = .ok (.iconst 1, 1) := by decide +kernel
theorem dX10_pair_104 : decode cX10_pair 104 = .ok (.iadd, 1) := by decide +kernel
theorem dX10_pair_105 : decode cX10_pair 105 = .ok (.iload_n 2, 1) := by decide +kernel
theorem dX10_pair_106 : decode cX10_pair 106 = .ok (.ineg, 1) := by decide +kernel
theorem dX10_pair_107 : decode cX10_pair 107 = .ok (.iastore, 1) := by decide +kernel
theorem dX10_pair_108 : decode cX10_pair 108 = .ok (.aload_n 0, 1) := by decide +kernel
theorem dX10_pair_109 : decode cX10_pair 109 = .ok (.dup, 1) := by decide +kernel
theorem dX10_pair_110 : decode cX10_pair 110 = .ok (.getfield 59, 3) := by decide +kernel
theorem dX10_pair_113 : decode cX10_pair 113 = .ok (.iconst 2, 1) := by decide +kernel
theorem dX10_pair_114 : decode cX10_pair 114 = .ok (.iadd, 1) := by decide +kernel
theorem dX10_pair_115 : decode cX10_pair 115 = .ok (.putfield 59, 3) := by decide +kernel
theorem dX10_pair_118 : decode cX10_pair 118 = .ok (.aload_n 0, 1) := by decide +kernel
theorem dX10_pair_119 : decode cX10_pair 119 = .ok (.invokevirtual 122, 3) := by decide +kernel
theorem dX10_pair_122 : decode cX10_pair 122 = .ok (.ireturn, 1) := by decide +kernel
theorem dX10_pull_0 : decode cX10_pull 0 = .ok (.aload_n 0, 1) := by decide +kernel
theorem dX10_pull_1 : decode cX10_pull 1 = .ok (.iconst 0, 1) := by decide +kernel
theorem dX10_pull_2 : decode cX10_pull 2 = .ok (.putfield 41, 3) := by decide +kernel
theorem dX10_pull_5 : decode cX10_pull 5 = .ok (.aload_n 0, 1) := by decide +kernel
theorem dX10_pull_6 : decode cX10_pull 6 = .ok (.invokevirtual 56, 3) := by decide +kernel
theorem dX10_pull_9 : decode cX10_pull 9 = .ok (.aload_n 0, 1) := by decide +kernel
theorem dX10_pull_10 : decode cX10_pull 10 = .ok (.invokevirtual 115, 3) := by decide +kernel
theorem dX10_pull_13 : decode cX10_pull 13 = .ok (.aload_n 0, 1) := by decide +kernel
theorem dX10_pull_14 : decode cX10_pull 14 = .ok (.invokevirtual 125, 3) := by decide +kernel
theorem dX10_pull_17 : decode cX10_pull 17 = .ok (.istore_n 1, 1) := by decide +kernel
theorem dX10_pull_18 : decode cX10_pull 18 = .ok (.aload_n 0, 1) := by decide +kernel
theorem dX10_pull_19 : decode cX10_pull 19 = .ok (.invokevirtual 122, 3) := by decide +kernel
theorem dX10_pull_22 : decode cX10_pull 22 = .ok (.pop, 1) := by decide +kernel
theorem dX10_pull_23 : decode cX10_pull 23 = .ok (.iload_n 1, 1) := by decide +kernel
theorem dX10_pull_24 : decode cX10_pull 24 = .ok (.ireturn, 1) := by decide +kernel
theorem dX10_twist_0 : decode cX10_twist 0 = .ok (.iconst 0, 1) := by decide +kernel
theorem dX10_twist_1 : decode cX10_twist 1 = .ok (.istore_n 1, 1) := by decide +kernel
theorem dX10_twist_2 : decode cX10_twist 2 = .ok (.iconst 0, 1) := by decide +kernel
theorem dX10_twist_3 : decode cX10_twist 3 = .ok (.istore_n 2, 1) := by decide +kernel
theorem dX10_twist_4 : decode cX10_twist 4 = .ok (.iload_n 2, 1) := by decide +kernel
theorem dX10_twist_5 : decode cX10_twist 5 = .ok (.aload_n 0, 1) := by decide +kernel
theorem dX10_twist_6 : decode cX10_twist 6 = .ok (.getfield 7, 3) := by decide +kernel
theorem dX10_twist_9 : decode cX10_twist 9 = .ok (.iconst 0, 1) := by decide +kernel
theorem dX10_twist_10 : decode cX10_twist 10 = .ok (.iaload, 1) := by decide +kernel
theorem dX10_twist_11 : decode cX10_twist 11 = .ok (.if_icmp .ge 20, 3) := by decide +kernel
theorem dX10_twist_14 : decode cX10_twist 14 = .ok (.iload_n 1, 1) := by decide +kernel
theorem dX10_twist_15 : decode cX10_twist 15 = .ok (.aload_n 0, 1) := by decide +kernel
theorem dX10_twist_16 : decode cX10_twist 16 = .ok (.iload_n 2, 1) := by decide +kernel
theorem dX10_twist_17 : decode cX10_twist 17 = .ok (.invokevirtual 62, 3) := by decide +kernel
theorem dX10_twist_20 : decode cX10_twist 20 = .ok (.invokestatic 71, 3) := by decide +kernel
theorem dX10_twist_23 : decode cX10_twist 23 = .ok (.iadd, 1) := by decide +kernel
theorem dX10_twist_24 : decode cX10_twist 24 = .ok (.istore_n 1, 1) := by decide +kernel
theorem dX10_twist_25 : decode cX10_twist 25 = .ok (.iinc 2 1, 3) := by decide +kernel
theorem dX10_twist_28 : decode cX10_twist 28 = .ok (.goto (-24), 3) := by decide +kernel
theorem dX10_twist_31 : decode cX10_twist 31 = .ok (.iload_n 1, 1) := by decide +kernel
theorem dX10_twist_32 : decode cX10_twist 32 = .ok (.ireturn, 1) := by decide +kernel
theorem dX10_turn_0 : decode cX10_turn 0 = .ok (.aload_n 0, 1) := by decide +kernel
theorem dX10_turn_1 : decode cX10_turn 1 = .ok (.iconst 0, 1) := by decide +kernel
theorem dX10_turn_2 : decode cX10_turn 2 = .ok (.putfield 41, 3) := by decide +kernel
theorem dX10_turn_5 : decode cX10_turn 5 = .ok (.aload_n 0, 1) := by decide +kernel
theorem dX10_turn_6 : decode cX10_turn 6 = .ok (.invokevirtual 56, 3) := by decide +kernel
theorem dX10_turn_9 : decode cX10_turn 9 = .ok (.aload_n 0, 1) := by decide +kernel
theorem dX10_turn_10 : decode cX10_turn 10 = .ok (.aload_n 0, 1) := by decide +kernel
theorem dX10_turn_11 : decode cX10_turn 11 = .ok (.getfield 7, 3) := by decide +kernel
theorem dX10_turn_14 : decode cX10_turn 14 = .ok (.iconst 0, 1) := by decide +kernel
theorem dX10_turn_15 : decode cX10_turn 15 = .ok (.iaload, 1) := by decide +kernel
theorem dX10_turn_16 : decode cX10_turn 16 = .ok (.putfield 59, 3) := by decide +kernel
theorem dX10_turn_19 : decode cX10_turn 19 = .ok (.iconst 0, 1) := by decide +kernel
theorem dX10_turn_20 : decode cX10_turn 20 = .ok (.istore_n 1, 1) := by decide +kernel
theorem dX10_turn_21 : decode cX10_turn 21 = .ok (.iload_n 1, 1) := by decide +kernel
theorem dX10_turn_22 : decode cX10_turn 22 = .ok (.aload_n 0, 1) := by decide +kernel
theorem dX10_turn_23 : decode cX10_turn 23 = .ok (.getfield 59, 3) := by decide +kernel
theorem dX10_turn_26 : decode cX10_turn 26 = .ok (.if_icmp .ge 28, 3) := by decide +kernel
theorem dX10_turn_29 : decode cX10_turn 29 = .ok (.aload_n 0, 1) := by decide +kernel
theorem dX10_turn_30 : decode cX10_turn 30 = .ok (.getfield 22, 3) := by decide +kernel
theorem dX10_turn_33 : decode cX10_turn 33 = .ok (.iload_n 1, 1) := by decide +kernel
theorem dX10_turn_34 : decode cX10_turn 34 = .ok (.aload_n 0, 1) := by decide +kernel
theorem dX10_turn_35 : decode cX10_turn 35 = .ok (.aload_n 0, 1) := by decide +kernel
theorem dX10_turn_36 : decode cX10_turn 36 = .ok (.getfield 59, 3) := by decide +kernel
theorem dX10_turn_39 : decode cX10_turn 39 = .ok (.iconst 1, 1) := by decide +kernel
theorem dX10_turn_40 : decode cX10_turn 40 = .ok (.isub, 1) := by decide +kernel
theorem dX10_turn_41 : decode cX10_turn 41 = .ok (.iload_n 1, 1) := by decide +kernel
theorem dX10_turn_42 : decode cX10_turn 42 = .ok (.isub, 1) := by decide +kernel
theorem dX10_turn_43 : decode cX10_turn 43 = .ok (.invokevirtual 62, 3) := by decide +kernel
theorem dX10_turn_46 : decode cX10_turn 46 = .ok (.ineg, 1) := by decide +kernel
theorem dX10_turn_47 : decode cX10_turn 47 = .ok (.iastore, 1) := by decide +kernel
theorem dX10_turn_48 : decode cX10_turn 48 = .ok (.iinc 1 1, 3) := by decide +kernel
theorem dX10_turn_51 : decode cX10_turn 51 = .ok (.goto (-30), 3) := by decide +kernel
theorem dX10_turn_54 : decode cX10_turn 54 = .ok (.aload_n 0, 1) := by decide +kernel
theorem dX10_turn_55 : decode cX10_turn 55 = .ok (.invokevirtual 122, 3) := by decide +kernel
theorem dX10_turn_58 : decode cX10_turn 58 = .ok (.pop, 1) := by decide +kernel
theorem dX10_turn_59 : decode cX10_turn 59 = .ok (.aload_n 0, 1) := by decide +kernel
theorem dX10_turn_60 : decode cX10_turn 60 = .ok (.invokevirtual 128, 3) := by decide +kernel
theorem dX10_turn_63 : decode cX10_turn 63 = .ok (.bipush 100, 2) := by decide +kernel
theorem dX10_turn_65 : decode cX10_turn 65 = .ok (.iadd, 1) := by decide +kernel
theorem dX10_turn_66 : decode cX10_turn 66 = .ok (.ireturn, 1) := by decide +kernel
theorem dX10_handle_0 : decode cX10_handle 0 = .ok (.aload_n 0, 1) := by decide +kernel
theorem dX10_handle_1 : decode cX10_handle 1 = .ok (.iconst 0, 1) := by decide +kernel
theorem dX10_handle_2 : decode cX10_handle 2 = .ok (.putfield 41, 3) := by decide +kernel
theorem dX10_handle_5 : decode cX10_handle 5 = .ok (.aload_n 0, 1) := by decide +kernel
theorem dX10_handle_6 : decode cX10_handle 6 = .ok (.invokevirtual 115, 3) := by decide +kernel
theorem dX10_handle_9 : decode cX10_handle 9 = .ok (.aload_n 0, 1) := by decide +kernel
theorem dX10_handle_10 : decode cX10_handle 10 = .ok (.invokevirtual 97, 3) := by decide +kernel
theorem dX10_handle_13 : decode cX10_handle 13 = .ok (.ifCond .eq 12, 3) := by decide +kernel
theorem dX10_handle_16 : decode cX10_handle 16 = .ok (.aload_n 0, 1) := by decide +kernel
theorem dX10_handle_17 : decode cX10_handle 17 = .ok (.invokevirtual 101, 3) := by decide +kernel
theorem dX10_handle_20 : decode cX10_handle 20 = .ok (.bipush 30, 2) := by decide +kernel
theorem dX10_handle_22 : decode cX10_handle 22 = .ok (.if_icmp .le 9, 3) := by decide +kernel
theorem dX10_handle_25 : decode cX10_handle 25 = .ok (.aload_n 0, 1) := by decide +kernel
theorem dX10_handle_26 : decode cX10_handle 26 = .ok (.iconst 1, 1) := by decide +kernel
theorem dX10_handle_27 : decode cX10_handle 27 = .ok (.invokevirtual 52, 3) := by decide +kernel
theorem dX10_handle_30 : decode cX10_handle 30 = .ok (.ireturn, 1) := by decide +kernel
theorem dX10_handle_31 : decode cX10_handle 31 = .ok (.aload_n 0, 1) := by decide +kernel
theorem dX10_handle_32 : decode cX10_handle 32 = .ok (.invokevirtual 56, 3) := by decide +kernel
theorem dX10_handle_35 : decode cX10_handle 35 = .ok (.aload_n 0, 1) := by decide +kernel
theorem dX10_handle_36 : decode cX10_handle 36 = .ok (.invokevirtual 105, 3) := by decide +kernel
theorem dX10_handle_39 : decode cX10_handle 39 = .ok (.aload_n 0, 1) := by decide +kernel
theorem dX10_handle_40 : decode cX10_handle 40 = .ok (.getfield 7, 3) := by decide +kernel
theorem dX10_handle_43 : decode cX10_handle 43 = .ok (.iconst 1, 1) := by decide +kernel
theorem dX10_handle_44 : decode cX10_handle 44 = .ok (.dup2, 1) := by decide +kernel
theorem dX10_handle_45 : decode cX10_handle 45 = .ok (.iaload, 1) := by decide +kernel
theorem dX10_handle_46 : decode cX10_handle 46 = .ok (.iconst 1, 1) := by decide +kernel
theorem dX10_handle_47 : decode cX10_handle 47 = .ok (.iadd, 1) := by decide +kernel
theorem dX10_handle_48 : decode cX10_handle 48 = .ok (.iastore, 1) := by decide +kernel
theorem dX10_handle_49 : decode cX10_handle 49 = .ok (.aload_n 0, 1) := by decide +kernel
theorem dX10_handle_50 : decode cX10_handle 50 = .ok (.invokevirtual 122, 3) := by decide +kernel
theorem dX10_handle_53 : decode cX10_handle 53 = .ok (.ireturn, 1) := by decide +kernel
theorem dX10_append_0 : decode cX10_append 0 = .ok (.aload_n 0, 1) := by decide +kernel
theorem dX10_append_1 : decode cX10_append 1 = .ok (.iconst 0, 1) := by decide +kernel
theorem dX10_append_2 : decode cX10_append 2 = .ok (.putfield 41, 3) := by decide +kernel
theorem dX10_append_5 : decode cX10_append 5 = .ok (.iload_n 1, 1) := by decide +kernel
theorem dX10_append_6 : decode cX10_append 6 = .ok (.bipush 33, 2) := by decide +kernel
theorem dX10_append_8 : decode cX10_append 8 = .ok (.bipush 126, 2) := by decide +kernel
theorem dX10_append_10 : decode cX10_append 10 = .ok (.invokestatic 45, 3) := by decide +kernel
theorem dX10_append_13 : decode cX10_append 13 = .ok (.ifCond .ne 9, 3) := by decide +kernel
theorem dX10_append_16 : decode cX10_append 16 = .ok (.aload_n 0, 1) := by decide +kernel
theorem dX10_append_17 : decode cX10_append 17 = .ok (.iconst 1, 1) := by decide +kernel
theorem dX10_append_18 : decode cX10_append 18 = .ok (.invokevirtual 52, 3) := by decide +kernel
theorem dX10_append_21 : decode cX10_append 21 = .ok (.ireturn, 1) := by decide +kernel
theorem dX10_append_22 : decode cX10_append 22 = .ok (.aload_n 0, 1) := by decide +kernel
theorem dX10_append_23 : decode cX10_append 23 = .ok (.getfield 131, 3) := by decide +kernel
theorem dX10_append_26 : decode cX10_append 26 = .ok (.bipush 60, 2) := by decide +kernel
theorem dX10_append_28 : decode cX10_append 28 = .ok (.if_icmp .ne 9, 3) := by decide +kernel
theorem dX10_append_31 : decode cX10_append 31 = .ok (.aload_n 0, 1) := by decide +kernel
theorem dX10_append_32 : decode cX10_append 32 = .ok (.iconst 2, 1) := by decide +kernel
theorem dX10_append_33 : decode cX10_append 33 = .ok (.invokevirtual 52, 3) := by decide +kernel
theorem dX10_append_36 : decode cX10_append 36 = .ok (.ireturn, 1) := by decide +kernel
theorem dX10_append_37 : decode cX10_append 37 = .ok (.aload_n 0, 1) := by decide +kernel
theorem dX10_append_38 : decode cX10_append 38 = .ok (.getfield 19, 3) := by decide +kernel
theorem dX10_append_41 : decode cX10_append 41 = .ok (.aload_n 0, 1) := by decide +kernel
theorem dX10_append_42 : decode cX10_append 42 = .ok (.getfield 131, 3) := by decide +kernel
theorem dX10_append_45 : decode cX10_append 45 = .ok (.iload_n 1, 1) := by decide +kernel
theorem dX10_append_46 : decode cX10_append 46 = .ok (.iastore, 1) := by decide +kernel
theorem dX10_append_47 : decode cX10_append 47 = .ok (.aload_n 0, 1) := by decide +kernel
theorem dX10_append_48 : decode cX10_append 48 = .ok (.dup, 1) := by decide +kernel
theorem dX10_append_49 : decode cX10_append 49 = .ok (.getfield 131, 3) := by decide +kernel
theorem dX10_append_52 : decode cX10_append 52 = .ok (.iconst 1, 1) := by decide +kernel
theorem dX10_append_53 : decode cX10_append 53 = .ok (.iadd, 1) := by decide +kernel
theorem dX10_append_54 : decode cX10_append 54 = .ok (.putfield 131, 3) := by decide +kernel
theorem dX10_append_57 : decode cX10_append 57 = .ok (.aload_n 0, 1) := by decide +kernel
theorem dX10_append_58 : decode cX10_append 58 = .ok (.getfield 131, 3) := by decide +kernel
theorem dX10_append_61 : decode cX10_append 61 = .ok (.ireturn, 1) := by decide +kernel
theorem dX10_clearBuffer_0 : decode cX10_clearBuffer 0 = .ok (.aload_n 0, 1) := by decide +kernel
theorem dX10_clearBuffer_1 : decode cX10_clearBuffer 1 = .ok (.iconst 0, 1) := by decide +kernel
theorem dX10_clearBuffer_2 : decode cX10_clearBuffer 2 = .ok (.putfield 41, 3) := by decide +kernel
theorem dX10_clearBuffer_5 : decode cX10_clearBuffer 5 = .ok (.aload_n 0, 1) := by decide +kernel
theorem dX10_clearBuffer_6 : decode cX10_clearBuffer 6 = .ok (.getfield 131, 3) := by decide +kernel
theorem dX10_clearBuffer_9 : decode cX10_clearBuffer 9 = .ok (.istore_n 1, 1) := by decide +kernel
theorem dX10_clearBuffer_10 : decode cX10_clearBuffer 10 = .ok (.aload_n 0, 1) := by decide +kernel
theorem dX10_clearBuffer_11 : decode cX10_clearBuffer 11 = .ok (.iconst 0, 1) := by decide +kernel
theorem dX10_clearBuffer_12 : decode cX10_clearBuffer 12 = .ok (.putfield 131, 3) := by decide +kernel
theorem dX10_clearBuffer_15 : decode cX10_clearBuffer 15 = .ok (.iload_n 1, 1) := by decide +kernel
theorem dX10_clearBuffer_16 : decode cX10_clearBuffer 16 = .ok (.ireturn, 1) := by decide +kernel
theorem dX10_nextCode_0 : decode cX10_nextCode 0 = .ok (.aload_n 0, 1) := by decide +kernel
theorem dX10_nextCode_1 : decode cX10_nextCode 1 = .ok (.getfield 134, 3) := by decide +kernel
theorem dX10_nextCode_4 : decode cX10_nextCode 4 = .ok (.aload_n 0, 1) := by decide +kernel
theorem dX10_nextCode_5 : decode cX10_nextCode 5 = .ok (.getfield 131, 3) := by decide +kernel
theorem dX10_nextCode_8 : decode cX10_nextCode 8 = .ok (.if_icmp .ge 15, 3) := by decide +kernel
theorem dX10_nextCode_11 : decode cX10_nextCode 11 = .ok (.aload_n 0, 1) := by decide +kernel
theorem dX10_nextCode_12 : decode cX10_nextCode 12 = .ok (.getfield 19, 3) := by decide +kernel
theorem dX10_nextCode_15 : decode cX10_nextCode 15 = .ok (.aload_n 0, 1) := by decide +kernel
theorem dX10_nextCode_16 : decode cX10_nextCode 16 = .ok (.getfield 134, 3) := by decide +kernel
theorem dX10_nextCode_19 : decode cX10_nextCode 19 = .ok (.iaload, 1) := by decide +kernel
theorem dX10_nextCode_20 : decode cX10_nextCode 20 = .ok (.goto 4, 3) := by decide +kernel
theorem dX10_nextCode_23 : decode cX10_nextCode 23 = .ok (.iconst 0, 1) := by decide +kernel
theorem dX10_nextCode_24 : decode cX10_nextCode 24 = .ok (.ireturn, 1) := by decide +kernel
theorem dX10_readsPart_0 : decode cX10_readsPart 0 = .ok (.aload_n 0, 1) := by decide +kernel
theorem dX10_readsPart_1 : decode cX10_readsPart 1 = .ok (.invokevirtual 137, 3) := by decide +kernel
theorem dX10_readsPart_4 : decode cX10_readsPart 4 = .ok (.bipush 97, 2) := by decide +kernel
theorem dX10_readsPart_6 : decode cX10_readsPart 6 = .ok (.isub, 1) := by decide +kernel
theorem dX10_readsPart_7 : decode cX10_readsPart 7 = .ok (.iconst 1, 1) := by decide +kernel
theorem dX10_readsPart_8 : decode cX10_readsPart 8 = .ok (.iadd, 1) := by decide +kernel
theorem dX10_readsPart_9 : decode cX10_readsPart 9 = .ok (.istore_n 1, 1) := by decide +kernel
theorem dX10_readsPart_10 : decode cX10_readsPart 10 = .ok (.aload_n 0, 1) := by decide +kernel
theorem dX10_readsPart_11 : decode cX10_readsPart 11 = .ok (.invokevirtual 137, 3) := by decide +kernel
theorem dX10_readsPart_14 : decode cX10_readsPart 14 = .ok (.bipush 65, 2) := by decide +kernel
theorem dX10_readsPart_16 : decode cX10_readsPart 16 = .ok (.isub, 1) := by decide +kernel
theorem dX10_readsPart_17 : decode cX10_readsPart 17 = .ok (.iconst 1, 1) := by decide +kernel
theorem dX10_readsPart_18 : decode cX10_readsPart 18 = .ok (.iadd, 1) := by decide +kernel
theorem dX10_readsPart_19 : decode cX10_readsPart 19 = .ok (.istore_n 2, 1) := by decide +kernel
theorem dX10_readsPart_20 : decode cX10_readsPart 20 = .ok (.iload_n 1, 1) := by decide +kernel
theorem dX10_readsPart_21 : decode cX10_readsPart 21 = .ok (.iconst 1, 1) := by decide +kernel
theorem dX10_readsPart_22 : decode cX10_readsPart 22 = .ok (.iconst 3, 1) := by decide +kernel
theorem dX10_readsPart_23 : decode cX10_readsPart 23 = .ok (.invokestatic 45, 3) := by decide +kernel
theorem dX10_readsPart_26 : decode cX10_readsPart 26 = .ok (.istore_n 3, 1) := by decide +kernel
theorem dX10_readsPart_27 : decode cX10_readsPart 27 = .ok (.iload_n 3, 1) := by decide +kernel
theorem dX10_readsPart_28 : decode cX10_readsPart 28 = .ok (.ifCond .ne 14, 3) := by decide +kernel
theorem dX10_readsPart_31 : decode cX10_readsPart 31 = .ok (.iload_n 2, 1) := by decide +kernel
theorem dX10_readsPart_32 : decode cX10_readsPart 32 = .ok (.iconst 1, 1) := by decide +kernel
theorem dX10_readsPart_33 : decode cX10_readsPart 33 = .ok (.iconst 3, 1) := by decide +kernel
theorem dX10_readsPart_34 : decode cX10_readsPart 34 = .ok (.invokestatic 45, 3) := by decide +kernel
theorem dX10_readsPart_37 : decode cX10_readsPart 37 = .ok (.ifCond .ne 5, 3) := by decide +kernel
theorem dX10_readsPart_40 : decode cX10_readsPart 40 = .ok (.iconst 0, 1) := by decide +kernel
theorem dX10_readsPart_41 : decode cX10_readsPart 41 = .ok (.ireturn, 1) := by decide +kernel
theorem dX10_readsPart_42 : decode cX10_readsPart 42 = .ok (.aload_n 0, 1) := by decide +kernel
theorem dX10_readsPart_43 : decode cX10_readsPart 43 = .ok (.iload_n 3, 1) := by decide +kernel
theorem dX10_readsPart_44 : decode cX10_readsPart 44 = .ok (.ifCond .eq 7, 3) := by decide +kernel
theorem dX10_readsPart_47 : decode cX10_readsPart 47 = .ok (.iload_n 1, 1) := by decide +kernel
theorem dX10_readsPart_48 : decode cX10_readsPart 48 = .ok (.goto 5, 3) := by decide +kernel
theorem dX10_readsPart_51 : decode cX10_readsPart 51 = .ok (.iload_n 2, 1) := by decide +kernel
theorem dX10_readsPart_52 : decode cX10_readsPart 52 = .ok (.ineg, 1) := by decide +kernel
theorem dX10_readsPart_53 : decode cX10_readsPart 53 = .ok (.putfield 140, 3) := by decide +kernel
theorem dX10_readsPart_56 : decode cX10_readsPart 56 = .ok (.aload_n 0, 1) := by decide +kernel
theorem dX10_readsPart_57 : decode cX10_readsPart 57 = .ok (.dup, 1) := by decide +kernel
theorem dX10_readsPart_58 : decode cX10_readsPart 58 = .ok (.getfield 134, 3) := by decide +kernel
theorem dX10_readsPart_61 : decode cX10_readsPart 61 = .ok (.iconst 1, 1) := by decide +kernel
theorem dX10_readsPart_62 : decode cX10_readsPart 62 = .ok (.iadd, 1) := by decide +kernel
theorem dX10_readsPart_63 : decode cX10_readsPart 63 = .ok (.putfield 134, 3) := by decide +kernel
theorem dX10_readsPart_66 : decode cX10_readsPart 66 = .ok (.aload_n 0, 1) := by decide +kernel
theorem dX10_readsPart_67 : decode cX10_readsPart 67 = .ok (.invokevirtual 137, 3) := by decide +kernel
theorem dX10_readsPart_70 : decode cX10_readsPart 70 = .ok (.bipush 50, 2) := by decide +kernel
theorem dX10_readsPart_72 : decode cX10_readsPart 72 = .ok (.bipush 57, 2) := by decide +kernel
theorem dX10_readsPart_74 : decode cX10_readsPart 74 = .ok (.invokestatic 45, 3) := by decide +kernel
theorem dX10_readsPart_77 : decode cX10_readsPart 77 = .ok (.istore 4, 2) := by decide +kernel
theorem dX10_readsPart_79 : decode cX10_readsPart 79 = .ok (.aload_n 0, 1) := by decide +kernel
theorem dX10_readsPart_80 : decode cX10_readsPart 80 = .ok (.iload 4, 2) := by decide +kernel
theorem dX10_readsPart_82 : decode cX10_readsPart 82 = .ok (.ifCond .eq 13, 3) := by decide +kernel
theorem dX10_readsPart_85 : decode cX10_readsPart 85 = .ok (.aload_n 0, 1) := by decide +kernel
theorem dX10_readsPart_86 : decode cX10_readsPart 86 = .ok (.invokevirtual 137, 3) := by decide +kernel
theorem dX10_readsPart_89 : decode cX10_readsPart 89 = .ok (.bipush 48, 2) := by decide +kernel
theorem dX10_readsPart_91 : decode cX10_readsPart 91 = .ok (.isub, 1) := by decide +kernel
theorem dX10_readsPart_92 : decode cX10_readsPart 92 = .ok (.goto 4, 3) := by decide +kernel
theorem dX10_readsPart_95 : decode cX10_readsPart 95 = .ok (.iconst 1, 1) := by decide +kernel
theorem dX10_readsPart_96 : decode cX10_readsPart 96 = .ok (.putfield 143, 3) := by decide +kernel
theorem dX10_readsPart_99 : decode cX10_readsPart 99 = .ok (.aload_n 0, 1) := by decide +kernel
theorem dX10_readsPart_100 : decode cX10_readsPart 100 = .ok (.dup, 1) := by decide +kernel
theorem dX10_readsPart_101 : decode cX10_readsPart 101 = .ok (.getfield 134, 3) := by decide +kernel
theorem dX10_readsPart_104 : decode cX10_readsPart 104 = .ok (.iload 4, 2) := by decide +kernel
theorem dX10_readsPart_106 : decode cX10_readsPart 106 = .ok (.ifCond .eq 7, 3) := by decide +kernel
theorem dX10_readsPart_109 : decode cX10_readsPart 109 = .ok (.iconst 1, 1) := by decide +kernel
theorem dX10_readsPart_110 : decode cX10_readsPart 110 = .ok (.goto 4, 3) := by decide +kernel
theorem dX10_readsPart_113 : decode cX10_readsPart 113 = .ok (.iconst 0, 1) := by decide +kernel
theorem dX10_readsPart_114 : decode cX10_readsPart 114 = .ok (.iadd, 1) := by decide +kernel
theorem dX10_readsPart_115 : decode cX10_readsPart 115 = .ok (.putfield 134, 3) := by decide +kernel
theorem dX10_readsPart_118 : decode cX10_readsPart 118 = .ok (.iconst 1, 1) := by decide +kernel
theorem dX10_readsPart_119 : decode cX10_readsPart 119 = .ok (.ireturn, 1) := by decide +kernel
theorem dX10_findError_0 : decode cX10_findError 0 = .ok (.aload_n 0, 1) := by decide +kernel
theorem dX10_findError_1 : decode cX10_findError 1 = .ok (.iconst 0, 1) := by decide +kernel
theorem dX10_findError_2 : decode cX10_findError 2 = .ok (.putfield 134, 3) := by decide +kernel
theorem dX10_findError_5 : decode cX10_findError 5 = .ok (.iconst 1, 1) := by decide +kernel
theorem dX10_findError_6 : decode cX10_findError 6 = .ok (.istore_n 1, 1) := by decide +kernel
theorem dX10_findError_7 : decode cX10_findError 7 = .ok (.iload_n 1, 1) := by decide +kernel
theorem dX10_findError_8 : decode cX10_findError 8 = .ok (.ifCond .eq 22, 3) := by decide +kernel
theorem dX10_findError_11 : decode cX10_findError 11 = .ok (.aload_n 0, 1) := by decide +kernel
theorem dX10_findError_12 : decode cX10_findError 12 = .ok (.getfield 134, 3) := by decide +kernel
theorem dX10_findError_15 : decode cX10_findError 15 = .ok (.aload_n 0, 1) := by decide +kernel
theorem dX10_findError_16 : decode cX10_findError 16 = .ok (.getfield 131, 3) := by decide +kernel
theorem dX10_findError_19 : decode cX10_findError 19 = .ok (.if_icmp .ge 11, 3) := by decide +kernel
theorem dX10_findError_22 : decode cX10_findError 22 = .ok (.aload_n 0, 1) := by decide +kernel
theorem dX10_findError_23 : decode cX10_findError 23 = .ok (.invokevirtual 146, 3) := by decide +kernel
theorem dX10_findError_26 : decode cX10_findError 26 = .ok (.istore_n 1, 1) := by decide +kernel
theorem dX10_findError_27 : decode cX10_findError 27 = .ok (.goto (-20), 3) := by decide +kernel
theorem dX10_findError_30 : decode cX10_findError 30 = .ok (.iload_n 1, 1) := by decide +kernel
theorem dX10_findError_31 : decode cX10_findError 31 = .ok (.ifCond .eq 14, 3) := by decide +kernel
theorem dX10_findError_34 : decode cX10_findError 34 = .ok (.aload_n 0, 1) := by decide +kernel
theorem dX10_findError_35 : decode cX10_findError 35 = .ok (.getfield 131, 3) := by decide +kernel
theorem dX10_findError_38 : decode cX10_findError 38 = .ok (.ifCond .le 7, 3) := by decide +kernel
theorem dX10_findError_41 : decode cX10_findError 41 = .ok (.iconst (-1), 1) := by decide +kernel
theorem dX10_findError_42 : decode cX10_findError 42 = .ok (.goto 7, 3) := by decide +kernel
theorem dX10_findError_45 : decode cX10_findError 45 = .ok (.aload_n 0, 1) := by decide +kernel
theorem dX10_findError_46 : decode cX10_findError 46 = .ok (.getfield 134, 3) := by decide +kernel
theorem dX10_findError_49 : decode cX10_findError 49 = .ok (.ireturn, 1) := by decide +kernel
theorem dX10_firstError_0 : decode cX10_firstError 0 = .ok (.aload_n 0, 1) := by decide +kernel
theorem dX10_firstError_1 : decode cX10_firstError 1 = .ok (.iconst 0, 1) := by decide +kernel
theorem dX10_firstError_2 : decode cX10_firstError 2 = .ok (.putfield 41, 3) := by decide +kernel
theorem dX10_firstError_5 : decode cX10_firstError 5 = .ok (.aload_n 0, 1) := by decide +kernel
theorem dX10_firstError_6 : decode cX10_firstError 6 = .ok (.invokevirtual 149, 3) := by decide +kernel
theorem dX10_firstError_9 : decode cX10_firstError 9 = .ok (.istore_n 1, 1) := by decide +kernel
theorem dX10_firstError_10 : decode cX10_firstError 10 = .ok (.iload_n 1, 1) := by decide +kernel
theorem dX10_firstError_11 : decode cX10_firstError 11 = .ok (.iconst (-1), 1) := by decide +kernel
theorem dX10_firstError_12 : decode cX10_firstError 12 = .ok (.if_icmp .ne 10, 3) := by decide +kernel
theorem dX10_firstError_15 : decode cX10_firstError 15 = .ok (.aload_n 0, 1) := by decide +kernel
theorem dX10_firstError_16 : decode cX10_firstError 16 = .ok (.getfield 131, 3) := by decide +kernel
theorem dX10_firstError_19 : decode cX10_firstError 19 = .ok (.goto 4, 3) := by decide +kernel
theorem dX10_firstError_22 : decode cX10_firstError 22 = .ok (.iload_n 1, 1) := by decide +kernel
theorem dX10_firstError_23 : decode cX10_firstError 23 = .ok (.ireturn, 1) := by decide +kernel
theorem dX10_lace_0 : decode cX10_lace 0 = .ok (.aload_n 0, 1) := by decide +kernel
theorem dX10_lace_1 : decode cX10_lace 1 = .ok (.iconst 0, 1) := by decide +kernel
theorem dX10_lace_2 : decode cX10_lace 2 = .ok (.putfield 41, 3) := by decide +kernel
theorem dX10_lace_5 : decode cX10_lace 5 = .ok (.aload_n 0, 1) := by decide +kernel
theorem dX10_lace_6 : decode cX10_lace 6 = .ok (.invokevirtual 149, 3) := by decide +kernel
theorem dX10_lace_9 : decode cX10_lace 9 = .ok (.iconst (-1), 1) := by decide +kernel
theorem dX10_lace_10 : decode cX10_lace 10 = .ok (.if_icmp .eq 9, 3) := by decide +kernel
theorem dX10_lace_13 : decode cX10_lace 13 = .ok (.aload_n 0, 1) := by decide +kernel
theorem dX10_lace_14 : decode cX10_lace 14 = .ok (.iconst 1, 1) := by decide +kernel
theorem dX10_lace_15 : decode cX10_lace 15 = .ok (.invokevirtual 52, 3) := by decide +kernel
theorem dX10_lace_18 : decode cX10_lace 18 = .ok (.ireturn, 1) := by decide +kernel
theorem dX10_lace_19 : decode cX10_lace 19 = .ok (.aload_n 0, 1) := by decide +kernel
theorem dX10_lace_20 : decode cX10_lace 20 = .ok (.invokevirtual 56, 3) := by decide +kernel
theorem dX10_lace_23 : decode cX10_lace 23 = .ok (.iconst 0, 1) := by decide +kernel
theorem dX10_lace_24 : decode cX10_lace 24 = .ok (.istore_n 1, 1) := by decide +kernel
theorem dX10_lace_25 : decode cX10_lace 25 = .ok (.aload_n 0, 1) := by decide +kernel
theorem dX10_lace_26 : decode cX10_lace 26 = .ok (.iconst 0, 1) := by decide +kernel
theorem dX10_lace_27 : decode cX10_lace 27 = .ok (.putfield 134, 3) := by decide +kernel
theorem dX10_lace_30 : decode cX10_lace 30 = .ok (.aload_n 0, 1) := by decide +kernel
theorem dX10_lace_31 : decode cX10_lace 31 = .ok (.getfield 134, 3) := by decide +kernel
theorem dX10_lace_34 : decode cX10_lace 34 = .ok (.aload_n 0, 1) := by decide +kernel
theorem dX10_lace_35 : decode cX10_lace 35 = .ok (.getfield 131, 3) := by decide +kernel
theorem dX10_lace_38 : decode cX10_lace 38 = .ok (.if_icmp .ge 72, 3) := by decide +kernel
theorem dX10_lace_41 : decode cX10_lace 41 = .ok (.aload_n 0, 1) := by decide +kernel
theorem dX10_lace_42 : decode cX10_lace 42 = .ok (.invokevirtual 146, 3) := by decide +kernel
theorem dX10_lace_45 : decode cX10_lace 45 = .ok (.istore_n 2, 1) := by decide +kernel
theorem dX10_lace_46 : decode cX10_lace 46 = .ok (.iconst 0, 1) := by decide +kernel
theorem dX10_lace_47 : decode cX10_lace 47 = .ok (.istore_n 3, 1) := by decide +kernel
theorem dX10_lace_48 : decode cX10_lace 48 = .ok (.iload_n 3, 1) := by decide +kernel
theorem dX10_lace_49 : decode cX10_lace 49 = .ok (.aload_n 0, 1) := by decide +kernel
theorem dX10_lace_50 : decode cX10_lace 50 = .ok (.getfield 143, 3) := by decide +kernel
theorem dX10_lace_53 : decode cX10_lace 53 = .ok (.if_icmp .ge 54, 3) := by decide +kernel
theorem dX10_lace_56 : decode cX10_lace 56 = .ok (.iload_n 2, 1) := by decide +kernel
theorem dX10_lace_57 : decode cX10_lace 57 = .ok (.ifCond .eq 50, 3) := by decide +kernel
theorem dX10_lace_60 : decode cX10_lace 60 = .ok (.aload_n 0, 1) := by decide +kernel
theorem dX10_lace_61 : decode cX10_lace 61 = .ok (.getfield 7, 3) := by decide +kernel
theorem dX10_lace_64 : decode cX10_lace 64 = .ok (.iconst 0, 1) := by decide +kernel
theorem dX10_lace_65 : decode cX10_lace 65 = .ok (.iaload, 1) := by decide +kernel
theorem dX10_lace_66 : decode cX10_lace 66 = .ok (.bipush 30, 2) := by decide +kernel
theorem dX10_lace_68 : decode cX10_lace 68 = .ok (.if_icmp .ge 39, 3) := by decide +kernel
theorem dX10_lace_71 : decode cX10_lace 71 = .ok (.aload_n 0, 1) := by decide +kernel
theorem dX10_lace_72 : decode cX10_lace 72 = .ok (.getfield 7, 3) := by decide +kernel
theorem dX10_lace_75 : decode cX10_lace 75 = .ok (.iconst 2, 1) := by decide +kernel
theorem dX10_lace_76 : decode cX10_lace 76 = .ok (.aload_n 0, 1) := by decide +kernel
theorem dX10_lace_77 : decode cX10_lace 77 = .ok (.getfield 7, 3) := by decide +kernel
theorem dX10_lace_80 : decode cX10_lace 80 = .ok (.iconst 0, 1) := by decide +kernel
theorem dX10_lace_81 : decode cX10_lace 81 = .ok (.iaload, 1) := by decide +kernel
theorem dX10_lace_82 : decode cX10_lace 82 = .ok (.iadd, 1) := by decide +kernel
theorem dX10_lace_83 : decode cX10_lace 83 = .ok (.aload_n 0, 1) := by decide +kernel
theorem dX10_lace_84 : decode cX10_lace 84 = .ok (.getfield 140, 3) := by decide +kernel
theorem dX10_lace_87 : decode cX10_lace 87 = .ok (.iastore, 1) := by decide +kernel
theorem dX10_lace_88 : decode cX10_lace 88 = .ok (.aload_n 0, 1) := by decide +kernel
theorem dX10_lace_89 : decode cX10_lace 89 = .ok (.getfield 7, 3) := by decide +kernel
theorem dX10_lace_92 : decode cX10_lace 92 = .ok (.iconst 0, 1) := by decide +kernel
theorem dX10_lace_93 : decode cX10_lace 93 = .ok (.dup2, 1) := by decide +kernel
theorem dX10_lace_94 : decode cX10_lace 94 = .ok (.iaload, 1) := by decide +kernel
theorem dX10_lace_95 : decode cX10_lace 95 = .ok (.iconst 1, 1) := by decide +kernel
theorem dX10_lace_96 : decode cX10_lace 96 = .ok (.iadd, 1) := by decide +kernel
theorem dX10_lace_97 : decode cX10_lace 97 = .ok (.iastore, 1) := by decide +kernel
theorem dX10_lace_98 : decode cX10_lace 98 = .ok (.iinc 1 1, 3) := by decide +kernel
theorem dX10_lace_101 : decode cX10_lace 101 = .ok (.iinc 3 1, 3) := by decide +kernel
theorem dX10_lace_104 : decode cX10_lace 104 = .ok (.goto (-56), 3) := by decide +kernel
theorem dX10_lace_107 : decode cX10_lace 107 = .ok (.goto (-77), 3) := by decide +kernel
theorem dX10_lace_110 : decode cX10_lace 110 = .ok (.aload_n 0, 1) := by decide +kernel
theorem dX10_lace_111 : decode cX10_lace 111 = .ok (.iconst 0, 1) := by decide +kernel
theorem dX10_lace_112 : decode cX10_lace 112 = .ok (.putfield 131, 3) := by decide +kernel
theorem dX10_lace_115 : decode cX10_lace 115 = .ok (.iload_n 1, 1) := by decide +kernel
theorem dX10_lace_116 : decode cX10_lace 116 = .ok (.ireturn, 1) := by decide +kernel
theorem dX10_crossing_0 : decode cX10_crossing 0 = .ok (.aload_n 0, 1) := by decide +kernel
theorem dX10_crossing_1 : decode cX10_crossing 1 = .ok (.iconst 0, 1) := by decide +kernel
theorem dX10_crossing_2 : decode cX10_crossing 2 = .ok (.putfield 41, 3) := by decide +kernel
theorem dX10_crossing_5 : decode cX10_crossing 5 = .ok (.iload_n 1, 1) := by decide +kernel
theorem dX10_crossing_6 : decode cX10_crossing 6 = .ok (.ifCond .ge 9, 3) := by decide +kernel
theorem dX10_crossing_9 : decode cX10_crossing 9 = .ok (.aload_n 0, 1) := by decide +kernel
theorem dX10_crossing_10 : decode cX10_crossing 10 = .ok (.iconst 1, 1) := by decide +kernel
theorem dX10_crossing_11 : decode cX10_crossing 11 = .ok (.invokevirtual 52, 3) := by decide +kernel
theorem dX10_crossing_14 : decode cX10_crossing 14 = .ok (.ireturn, 1) := by decide +kernel
theorem dX10_crossing_15 : decode cX10_crossing 15 = .ok (.iload_n 1, 1) := by decide +kernel
theorem dX10_crossing_16 : decode cX10_crossing 16 = .ok (.aload_n 0, 1) := by decide +kernel
theorem dX10_crossing_17 : decode cX10_crossing 17 = .ok (.getfield 7, 3) := by decide +kernel
theorem dX10_crossing_20 : decode cX10_crossing 20 = .ok (.iconst 0, 1) := by decide +kernel
theorem dX10_crossing_21 : decode cX10_crossing 21 = .ok (.iaload, 1) := by decide +kernel
theorem dX10_crossing_22 : decode cX10_crossing 22 = .ok (.if_icmp .ge 14, 3) := by decide +kernel
theorem dX10_crossing_25 : decode cX10_crossing 25 = .ok (.aload_n 0, 1) := by decide +kernel
theorem dX10_crossing_26 : decode cX10_crossing 26 = .ok (.iload_n 1, 1) := by decide +kernel
theorem dX10_crossing_27 : decode cX10_crossing 27 = .ok (.invokevirtual 62, 3) := by decide +kernel
theorem dX10_crossing_30 : decode cX10_crossing 30 = .ok (.bipush 10, 2) := by decide +kernel
theorem dX10_crossing_32 : decode cX10_crossing 32 = .ok (.iadd, 1) := by decide +kernel
theorem dX10_crossing_33 : decode cX10_crossing 33 = .ok (.goto 4, 3) := by decide +kernel
theorem dX10_crossing_36 : decode cX10_crossing 36 = .ok (.iconst (-1), 1) := by decide +kernel
theorem dX10_crossing_37 : decode cX10_crossing 37 = .ok (.ireturn, 1) := by decide +kernel
theorem dX10_layLaces_0 : decode cX10_layLaces 0 = .ok (.iconst 0, 1) := by decide +kernel
theorem dX10_layLaces_1 : decode cX10_layLaces 1 = .ok (.istore_n 2, 1) := by decide +kernel
theorem dX10_layLaces_2 : decode cX10_layLaces 2 = .ok (.iload_n 2, 1) := by decide +kernel
theorem dX10_layLaces_3 : decode cX10_layLaces 3 = .ok (.iconst 4, 1) := by decide +kernel
theorem dX10_layLaces_4 : decode cX10_layLaces 4 = .ok (.if_icmp .ge 16, 3) := by decide +kernel
theorem dX10_layLaces_7 : decode cX10_layLaces 7 = .ok (.aload_n 0, 1) := by decide +kernel
theorem dX10_layLaces_8 : decode cX10_layLaces 8 = .ok (.getfield 28, 3) := by decide +kernel
theorem dX10_layLaces_11 : decode cX10_layLaces 11 = .ok (.iload_n 2, 1) := by decide +kernel
theorem dX10_layLaces_12 : decode cX10_layLaces 12 = .ok (.iload_n 2, 1) := by decide +kernel
theorem dX10_layLaces_13 : decode cX10_layLaces 13 = .ok (.iastore, 1) := by decide +kernel
theorem dX10_layLaces_14 : decode cX10_layLaces 14 = .ok (.iinc 2 1, 3) := by decide +kernel
theorem dX10_layLaces_17 : decode cX10_layLaces 17 = .ok (.goto (-15), 3) := by decide +kernel
theorem dX10_layLaces_20 : decode cX10_layLaces 20 = .ok (.iconst 0, 1) := by decide +kernel
theorem dX10_layLaces_21 : decode cX10_layLaces 21 = .ok (.istore_n 2, 1) := by decide +kernel
theorem dX10_layLaces_22 : decode cX10_layLaces 22 = .ok (.iload_n 2, 1) := by decide +kernel
theorem dX10_layLaces_23 : decode cX10_layLaces 23 = .ok (.iload_n 1, 1) := by decide +kernel
theorem dX10_layLaces_24 : decode cX10_layLaces 24 = .ok (.if_icmp .ge 50, 3) := by decide +kernel
theorem dX10_layLaces_27 : decode cX10_layLaces 27 = .ok (.aload_n 0, 1) := by decide +kernel
theorem dX10_layLaces_28 : decode cX10_layLaces 28 = .ok (.iload_n 2, 1) := by decide +kernel
theorem dX10_layLaces_29 : decode cX10_layLaces 29 = .ok (.invokevirtual 62, 3) := by decide +kernel
theorem dX10_layLaces_32 : decode cX10_layLaces 32 = .ok (.invokestatic 68, 3) := by decide +kernel
theorem dX10_layLaces_35 : decode cX10_layLaces 35 = .ok (.istore_n 3, 1) := by decide +kernel
theorem dX10_layLaces_36 : decode cX10_layLaces 36 = .ok (.aload_n 0, 1) := by decide +kernel
theorem dX10_layLaces_37 : decode cX10_layLaces 37 = .ok (.getfield 28, 3) := by decide +kernel
theorem dX10_layLaces_40 : decode cX10_layLaces 40 = .ok (.iload_n 3, 1) := by decide +kernel
theorem dX10_layLaces_41 : decode cX10_layLaces 41 = .ok (.iconst 1, 1) := by decide +kernel
theorem dX10_layLaces_42 : decode cX10_layLaces 42 = .ok (.isub, 1) := by decide +kernel
theorem dX10_layLaces_43 : decode cX10_layLaces 43 = .ok (.iaload, 1) := by decide +kernel
theorem dX10_layLaces_44 : decode cX10_layLaces 44 = .ok (.istore 4, 2) := by decide +kernel
theorem dX10_layLaces_46 : decode cX10_layLaces 46 = .ok (.aload_n 0, 1) := by decide +kernel
theorem dX10_layLaces_47 : decode cX10_layLaces 47 = .ok (.getfield 28, 3) := by decide +kernel
theorem dX10_layLaces_50 : decode cX10_layLaces 50 = .ok (.iload_n 3, 1) := by decide +kernel
theorem dX10_layLaces_51 : decode cX10_layLaces 51 = .ok (.iconst 1, 1) := by decide +kernel
theorem dX10_layLaces_52 : decode cX10_layLaces 52 = .ok (.isub, 1) := by decide +kernel
theorem dX10_layLaces_53 : decode cX10_layLaces 53 = .ok (.aload_n 0, 1) := by decide +kernel
theorem dX10_layLaces_54 : decode cX10_layLaces 54 = .ok (.getfield 28, 3) := by decide +kernel
theorem dX10_layLaces_57 : decode cX10_layLaces 57 = .ok (.iload_n 3, 1) := by decide +kernel
theorem dX10_layLaces_58 : decode cX10_layLaces 58 = .ok (.iaload, 1) := by decide +kernel
theorem dX10_layLaces_59 : decode cX10_layLaces 59 = .ok (.iastore, 1) := by decide +kernel
theorem dX10_layLaces_60 : decode cX10_layLaces 60 = .ok (.aload_n 0, 1) := by decide +kernel
theorem dX10_layLaces_61 : decode cX10_layLaces 61 = .ok (.getfield 28, 3) := by decide +kernel
theorem dX10_layLaces_64 : decode cX10_layLaces 64 = .ok (.iload_n 3, 1) := by decide +kernel
theorem dX10_layLaces_65 : decode cX10_layLaces 65 = .ok (.iload 4, 2) := by decide +kernel
theorem dX10_layLaces_67 : decode cX10_layLaces 67 = .ok (.iastore, 1) := by decide +kernel
theorem dX10_layLaces_68 : decode cX10_layLaces 68 = .ok (.iinc 2 1, 3) := by decide +kernel
theorem dX10_layLaces_71 : decode cX10_layLaces 71 = .ok (.goto (-49), 3) := by decide +kernel
theorem dX10_layLaces_74 : decode cX10_layLaces 74 = .ok (.return_, 1) := by decide +kernel
theorem dX10_laceAt_0 : decode cX10_laceAt 0 = .ok (.aload_n 0, 1) := by decide +kernel
theorem dX10_laceAt_1 : decode cX10_laceAt 1 = .ok (.iload_n 1, 1) := by decide +kernel
theorem dX10_laceAt_2 : decode cX10_laceAt 2 = .ok (.invokevirtual 152, 3) := by decide +kernel
theorem dX10_laceAt_5 : decode cX10_laceAt 5 = .ok (.aload_n 0, 1) := by decide +kernel
theorem dX10_laceAt_6 : decode cX10_laceAt 6 = .ok (.getfield 28, 3) := by decide +kernel
theorem dX10_laceAt_9 : decode cX10_laceAt 9 = .ok (.iload_n 2, 1) := by decide +kernel
theorem dX10_laceAt_10 : decode cX10_laceAt 10 = .ok (.iaload, 1) := by decide +kernel
theorem dX10_laceAt_11 : decode cX10_laceAt 11 = .ok (.ireturn, 1) := by decide +kernel
theorem dX10_lies_0 : decode cX10_lies 0 = .ok (.aload_n 0, 1) := by decide +kernel
theorem dX10_lies_1 : decode cX10_lies 1 = .ok (.iconst 0, 1) := by decide +kernel
theorem dX10_lies_2 : decode cX10_lies 2 = .ok (.putfield 41, 3) := by decide +kernel
theorem dX10_lies_5 : decode cX10_lies 5 = .ok (.iload_n 2, 1) := by decide +kernel
theorem dX10_lies_6 : decode cX10_lies 6 = .ok (.iconst 0, 1) := by decide +kernel
theorem dX10_lies_7 : decode cX10_lies 7 = .ok (.iconst 3, 1) := by decide +kernel
theorem dX10_lies_8 : decode cX10_lies 8 = .ok (.invokestatic 45, 3) := by decide +kernel
theorem dX10_lies_11 : decode cX10_lies 11 = .ok (.ifCond .ne 9, 3) := by decide +kernel
theorem dX10_lies_14 : decode cX10_lies 14 = .ok (.aload_n 0, 1) := by decide +kernel
theorem dX10_lies_15 : decode cX10_lies 15 = .ok (.iconst 1, 1) := by decide +kernel
theorem dX10_lies_16 : decode cX10_lies 16 = .ok (.invokevirtual 52, 3) := by decide +kernel
theorem dX10_lies_19 : decode cX10_lies 19 = .ok (.ireturn, 1) := by decide +kernel
theorem dX10_lies_20 : decode cX10_lies 20 = .ok (.iload_n 1, 1) := by decide +kernel
theorem dX10_lies_21 : decode cX10_lies 21 = .ok (.iconst 0, 1) := by decide +kernel
theorem dX10_lies_22 : decode cX10_lies 22 = .ok (.aload_n 0, 1) := by decide +kernel
theorem dX10_lies_23 : decode cX10_lies 23 = .ok (.getfield 7, 3) := by decide +kernel
theorem dX10_lies_26 : decode cX10_lies 26 = .ok (.iconst 0, 1) := by decide +kernel
theorem dX10_lies_27 : decode cX10_lies 27 = .ok (.iaload, 1) := by decide +kernel
theorem dX10_lies_28 : decode cX10_lies 28 = .ok (.invokestatic 45, 3) := by decide +kernel
theorem dX10_lies_31 : decode cX10_lies 31 = .ok (.ifCond .eq 12, 3) := by decide +kernel
theorem dX10_lies_34 : decode cX10_lies 34 = .ok (.aload_n 0, 1) := by decide +kernel
theorem dX10_lies_35 : decode cX10_lies 35 = .ok (.iload_n 1, 1) := by decide +kernel
theorem dX10_lies_36 : decode cX10_lies 36 = .ok (.iload_n 2, 1) := by decide +kernel
theorem dX10_lies_37 : decode cX10_lies 37 = .ok (.invokevirtual 155, 3) := by decide +kernel
theorem dX10_lies_40 : decode cX10_lies 40 = .ok (.goto 8, 3) := by decide +kernel
theorem dX10_lies_43 : decode cX10_lies 43 = .ok (.aload_n 0, 1) := by decide +kernel
theorem dX10_lies_44 : decode cX10_lies 44 = .ok (.iconst 2, 1) := by decide +kernel
theorem dX10_lies_45 : decode cX10_lies 45 = .ok (.invokevirtual 52, 3) := by decide +kernel
theorem dX10_lies_48 : decode cX10_lies 48 = .ok (.ireturn, 1) := by decide +kernel
theorem dX10_windingOf_0 : decode cX10_windingOf 0 = .ok (.iconst 0, 1) := by decide +kernel
theorem dX10_windingOf_1 : decode cX10_windingOf 1 = .ok (.istore_n 3, 1) := by decide +kernel
theorem dX10_windingOf_2 : decode cX10_windingOf 2 = .ok (.iconst 0, 1) := by decide +kernel
theorem dX10_windingOf_3 : decode cX10_windingOf 3 = .ok (.istore 4, 2) := by decide +kernel
theorem dX10_windingOf_5 : decode cX10_windingOf 5 = .ok (.iload 4, 2) := by decide +kernel
theorem dX10_windingOf_7 : decode cX10_windingOf 7 = .ok (.aload_n 0, 1) := by decide +kernel
theorem dX10_windingOf_8 : decode cX10_windingOf 8 = .ok (.getfield 7, 3) := by decide +kernel
theorem dX10_windingOf_11 : decode cX10_windingOf 11 = .ok (.iconst 0, 1) := by decide +kernel
theorem dX10_windingOf_12 : decode cX10_windingOf 12 = .ok (.iaload, 1) := by decide +kernel
theorem dX10_windingOf_13 : decode cX10_windingOf 13 = .ok (.if_icmp .ge 98, 3) := by decide +kernel
theorem dX10_windingOf_16 : decode cX10_windingOf 16 = .ok (.aload_n 0, 1) := by decide +kernel
theorem dX10_windingOf_17 : decode cX10_windingOf 17 = .ok (.iload 4, 2) := by decide +kernel
theorem dX10_windingOf_19 : decode cX10_windingOf 19 = .ok (.invokevirtual 152, 3) := by decide +kernel
theorem dX10_windingOf_22 : decode cX10_windingOf 22 = .ok (.aload_n 0, 1) := by decide +kernel
theorem dX10_windingOf_23 : decode cX10_windingOf 23 = .ok (.iload 4, 2) := by decide +kernel
theorem dX10_windingOf_25 : decode cX10_windingOf 25 = .ok (.invokevirtual 62, 3) := by decide +kernel
theorem dX10_windingOf_28 : decode cX10_windingOf 28 = .ok (.invokestatic 68, 3) := by decide +kernel
theorem dX10_windingOf_31 : decode cX10_windingOf 31 = .ok (.istore 5, 2) := by decide +kernel
theorem dX10_windingOf_33 : decode cX10_windingOf 33 = .ok (.aload_n 0, 1) := by decide +kernel
theorem dX10_windingOf_34 : decode cX10_windingOf 34 = .ok (.getfield 28, 3) := by decide +kernel
theorem dX10_windingOf_37 : decode cX10_windingOf 37 = .ok (.iload 5, 2) := by decide +kernel
theorem dX10_windingOf_39 : decode cX10_windingOf 39 = .ok (.iconst 1, 1) := by decide +kernel
theorem dX10_windingOf_40 : decode cX10_windingOf 40 = .ok (.isub, 1) := by decide +kernel
theorem dX10_windingOf_41 : decode cX10_windingOf 41 = .ok (.iaload, 1) := by decide +kernel
theorem dX10_windingOf_42 : decode cX10_windingOf 42 = .ok (.istore 6, 2) := by decide +kernel
theorem dX10_windingOf_44 : decode cX10_windingOf 44 = .ok (.aload_n 0, 1) := by decide +kernel
theorem dX10_windingOf_45 : decode cX10_windingOf 45 = .ok (.getfield 28, 3) := by decide +kernel
theorem dX10_windingOf_48 : decode cX10_windingOf 48 = .ok (.iload 5, 2) := by decide +kernel
theorem dX10_windingOf_50 : decode cX10_windingOf 50 = .ok (.iaload, 1) := by decide +kernel
theorem dX10_windingOf_51 : decode cX10_windingOf 51 = .ok (.istore 7, 2) := by decide +kernel
theorem dX10_windingOf_53 : decode cX10_windingOf 53 = .ok (.iload 6, 2) := by decide +kernel
theorem dX10_windingOf_55 : decode cX10_windingOf 55 = .ok (.iload_n 1, 1) := by decide +kernel
theorem dX10_windingOf_56 : decode cX10_windingOf 56 = .ok (.if_icmp .ne 9, 3) := by decide +kernel
theorem dX10_windingOf_59 : decode cX10_windingOf 59 = .ok (.iload 7, 2) := by decide +kernel
theorem dX10_windingOf_61 : decode cX10_windingOf 61 = .ok (.iload_n 2, 1) := by decide +kernel
theorem dX10_windingOf_62 : decode cX10_windingOf 62 = .ok (.if_icmp .eq 15, 3) := by decide +kernel
theorem dX10_windingOf_65 : decode cX10_windingOf 65 = .ok (.iload 6, 2) := by decide +kernel
theorem dX10_windingOf_67 : decode cX10_windingOf 67 = .ok (.iload_n 2, 1) := by decide +kernel
theorem dX10_windingOf_68 : decode cX10_windingOf 68 = .ok (.if_icmp .ne 13, 3) := by decide +kernel
theorem dX10_windingOf_71 : decode cX10_windingOf 71 = .ok (.iload 7, 2) := by decide +kernel
theorem dX10_windingOf_73 : decode cX10_windingOf 73 = .ok (.iload_n 1, 1) := by decide +kernel
theorem dX10_windingOf_74 : decode cX10_windingOf 74 = .ok (.if_icmp .ne 7, 3) := by decide +kernel
theorem dX10_windingOf_77 : decode cX10_windingOf 77 = .ok (.iconst 1, 1) := by decide +kernel
theorem dX10_windingOf_78 : decode cX10_windingOf 78 = .ok (.goto 4, 3) := by decide +kernel
theorem dX10_windingOf_81 : decode cX10_windingOf 81 = .ok (.iconst 0, 1) := by decide +kernel
theorem dX10_windingOf_82 : decode cX10_windingOf 82 = .ok (.istore 8, 2) := by decide +kernel
theorem dX10_windingOf_84 : decode cX10_windingOf 84 = .ok (.iload_n 3, 1) := by decide +kernel
theorem dX10_windingOf_85 : decode cX10_windingOf 85 = .ok (.iload 8, 2) := by decide +kernel
theorem dX10_windingOf_87 : decode cX10_windingOf 87 = .ok (.ifCond .eq 15, 3) := by decide +kernel
theorem dX10_windingOf_90 : decode cX10_windingOf 90 = .ok (.aload_n 0, 1) := by decide +kernel
theorem dX10_windingOf_91 : decode cX10_windingOf 91 = .ok (.iload 4, 2) := by decide +kernel
theorem dX10_windingOf_93 : decode cX10_windingOf 93 = .ok (.invokevirtual 62, 3) := by decide +kernel
theorem dX10_windingOf_96 : decode cX10_windingOf 96 = .ok (.invokestatic 71, 3) := by decide +kernel
theorem dX10_windingOf_99 : decode cX10_windingOf 99 = .ok (.goto 4, 3) := by decide +kernel
theorem dX10_windingOf_102 : decode cX10_windingOf 102 = .ok (.iconst 0, 1) := by decide +kernel
theorem dX10_windingOf_103 : decode cX10_windingOf 103 = .ok (.iadd, 1) := by decide +kernel
theorem dX10_windingOf_104 : decode cX10_windingOf 104 = .ok (.istore_n 3, 1) := by decide +kernel
theorem dX10_windingOf_105 : decode cX10_windingOf 105 = .ok (.iinc 4 1, 3) := by decide +kernel
theorem dX10_windingOf_108 : decode cX10_windingOf 108 = .ok (.goto (-103), 3) := by decide +kernel
theorem dX10_windingOf_111 : decode cX10_windingOf 111 = .ok (.iload_n 3, 1) := by decide +kernel
theorem dX10_windingOf_112 : decode cX10_windingOf 112 = .ok (.bipush 100, 2) := by decide +kernel
theorem dX10_windingOf_114 : decode cX10_windingOf 114 = .ok (.iadd, 1) := by decide +kernel
theorem dX10_windingOf_115 : decode cX10_windingOf 115 = .ok (.ireturn, 1) := by decide +kernel
theorem dX10_winding_0 : decode cX10_winding 0 = .ok (.aload_n 0, 1) := by decide +kernel
theorem dX10_winding_1 : decode cX10_winding 1 = .ok (.iconst 0, 1) := by decide +kernel
theorem dX10_winding_2 : decode cX10_winding 2 = .ok (.putfield 41, 3) := by decide +kernel
theorem dX10_winding_5 : decode cX10_winding 5 = .ok (.iload_n 1, 1) := by decide +kernel
theorem dX10_winding_6 : decode cX10_winding 6 = .ok (.iconst 0, 1) := by decide +kernel
theorem dX10_winding_7 : decode cX10_winding 7 = .ok (.iconst 3, 1) := by decide +kernel
theorem dX10_winding_8 : decode cX10_winding 8 = .ok (.invokestatic 45, 3) := by decide +kernel
theorem dX10_winding_11 : decode cX10_winding 11 = .ok (.ifCond .eq 21, 3) := by decide +kernel
theorem dX10_winding_14 : decode cX10_winding 14 = .ok (.iload_n 2, 1) := by decide +kernel
theorem dX10_winding_15 : decode cX10_winding 15 = .ok (.iconst 0, 1) := by decide +kernel
theorem dX10_winding_16 : decode cX10_winding 16 = .ok (.iconst 3, 1) := by decide +kernel
theorem dX10_winding_17 : decode cX10_winding 17 = .ok (.invokestatic 45, 3) := by decide +kernel
theorem dX10_winding_20 : decode cX10_winding 20 = .ok (.ifCond .eq 12, 3) := by decide +kernel
theorem dX10_winding_23 : decode cX10_winding 23 = .ok (.aload_n 0, 1) := by decide +kernel
theorem dX10_winding_24 : decode cX10_winding 24 = .ok (.iload_n 1, 1) := by decide +kernel
theorem dX10_winding_25 : decode cX10_winding 25 = .ok (.iload_n 2, 1) := by decide +kernel
theorem dX10_winding_26 : decode cX10_winding 26 = .ok (.invokevirtual 158, 3) := by decide +kernel
theorem dX10_winding_29 : decode cX10_winding 29 = .ok (.goto 8, 3) := by decide +kernel
theorem dX10_winding_32 : decode cX10_winding 32 = .ok (.aload_n 0, 1) := by decide +kernel
theorem dX10_winding_33 : decode cX10_winding 33 = .ok (.iconst 1, 1) := by decide +kernel
theorem dX10_winding_34 : decode cX10_winding 34 = .ok (.invokevirtual 52, 3) := by decide +kernel
theorem dX10_winding_37 : decode cX10_winding 37 = .ok (.ireturn, 1) := by decide +kernel
theorem dX10_tableOf_0 : decode cX10_tableOf 0 = .ok (.iload_n 0, 1) := by decide +kernel
theorem dX10_tableOf_1 : decode cX10_tableOf 1 = .ok (.invokestatic 68, 3) := by decide +kernel
theorem dX10_tableOf_4 : decode cX10_tableOf 4 = .ok (.istore_n 3, 1) := by decide +kernel
theorem dX10_tableOf_5 : decode cX10_tableOf 5 = .ok (.iload_n 1, 1) := by decide +kernel
theorem dX10_tableOf_6 : decode cX10_tableOf 6 = .ok (.iload_n 3, 1) := by decide +kernel
theorem dX10_tableOf_7 : decode cX10_tableOf 7 = .ok (.iconst 1, 1) := by decide +kernel
theorem dX10_tableOf_8 : decode cX10_tableOf 8 = .ok (.isub, 1) := by decide +kernel
theorem dX10_tableOf_9 : decode cX10_tableOf 9 = .ok (.iload_n 3, 1) := by decide +kernel
theorem dX10_tableOf_10 : decode cX10_tableOf 10 = .ok (.invokestatic 45, 3) := by decide +kernel
theorem dX10_tableOf_13 : decode cX10_tableOf 13 = .ok (.ifCond .eq 99, 3) := by decide +kernel
theorem dX10_tableOf_16 : decode cX10_tableOf 16 = .ok (.iload_n 2, 1) := by decide +kernel
theorem dX10_tableOf_17 : decode cX10_tableOf 17 = .ok (.iload_n 3, 1) := by decide +kernel
theorem dX10_tableOf_18 : decode cX10_tableOf 18 = .ok (.iconst 1, 1) := by decide +kernel
theorem dX10_tableOf_19 : decode cX10_tableOf 19 = .ok (.isub, 1) := by decide +kernel
theorem dX10_tableOf_20 : decode cX10_tableOf 20 = .ok (.iload_n 3, 1) := by decide +kernel
theorem dX10_tableOf_21 : decode cX10_tableOf 21 = .ok (.invokestatic 45, 3) := by decide +kernel
theorem dX10_tableOf_24 : decode cX10_tableOf 24 = .ok (.ifCond .eq 88, 3) := by decide +kernel
theorem dX10_tableOf_27 : decode cX10_tableOf 27 = .ok (.iload_n 1, 1) := by decide +kernel
theorem dX10_tableOf_28 : decode cX10_tableOf 28 = .ok (.iload_n 3, 1) := by decide +kernel
theorem dX10_tableOf_29 : decode cX10_tableOf 29 = .ok (.iconst 1, 1) := by decide +kernel
theorem dX10_tableOf_30 : decode cX10_tableOf 30 = .ok (.isub, 1) := by decide +kernel
theorem dX10_tableOf_31 : decode cX10_tableOf 31 = .ok (.if_icmp .ne 7, 3) := by decide +kernel
theorem dX10_tableOf_34 : decode cX10_tableOf 34 = .ok (.iconst 1, 1) := by decide +kernel
theorem dX10_tableOf_35 : decode cX10_tableOf 35 = .ok (.goto 4, 3) := by decide +kernel
theorem dX10_tableOf_38 : decode cX10_tableOf 38 = .ok (.iconst 0, 1) := by decide +kernel
theorem dX10_tableOf_39 : decode cX10_tableOf 39 = .ok (.istore 4, 2) := by decide +kernel
theorem dX10_tableOf_41 : decode cX10_tableOf 41 = .ok (.iload_n 2, 1) := by decide +kernel
theorem dX10_tableOf_42 : decode cX10_tableOf 42 = .ok (.iload_n 3, 1) := by decide +kernel
theorem dX10_tableOf_43 : decode cX10_tableOf 43 = .ok (.iconst 1, 1) := by decide +kernel
theorem dX10_tableOf_44 : decode cX10_tableOf 44 = .ok (.isub, 1) := by decide +kernel
theorem dX10_tableOf_45 : decode cX10_tableOf 45 = .ok (.if_icmp .ne 7, 3) := by decide +kernel
theorem dX10_tableOf_48 : decode cX10_tableOf 48 = .ok (.iconst 1, 1) := by decide +kernel
theorem dX10_tableOf_49 : decode cX10_tableOf 49 = .ok (.goto 4, 3) := by decide +kernel
theorem dX10_tableOf_52 : decode cX10_tableOf 52 = .ok (.iconst 0, 1) := by decide +kernel
theorem dX10_tableOf_53 : decode cX10_tableOf 53 = .ok (.istore 5, 2) := by decide +kernel
theorem dX10_tableOf_55 : decode cX10_tableOf 55 = .ok (.iload_n 0, 1) := by decide +kernel
theorem dX10_tableOf_56 : decode cX10_tableOf 56 = .ok (.ifCond .le 34, 3) := by decide +kernel
theorem dX10_tableOf_59 : decode cX10_tableOf 59 = .ok (.iload 4, 2) := by decide +kernel
theorem dX10_tableOf_61 : decode cX10_tableOf 61 = .ok (.ifCond .eq 18, 3) := by decide +kernel
theorem dX10_tableOf_64 : decode cX10_tableOf 64 = .ok (.iload 5, 2) := by decide +kernel
theorem dX10_tableOf_66 : decode cX10_tableOf 66 = .ok (.ifCond .eq 9, 3) := by decide +kernel
theorem dX10_tableOf_69 : decode cX10_tableOf 69 = .ok (.sipush 10006, 3) := by decide +kernel
theorem dX10_tableOf_72 : decode cX10_tableOf 72 = .ok (.goto 17, 3) := by decide +kernel
theorem dX10_tableOf_75 : decode cX10_tableOf 75 = .ok (.iconst 2, 1) := by decide +kernel
theorem dX10_tableOf_76 : decode cX10_tableOf 76 = .ok (.goto 13, 3) := by decide +kernel
theorem dX10_tableOf_79 : decode cX10_tableOf 79 = .ok (.iload 5, 2) := by decide +kernel
theorem dX10_tableOf_81 : decode cX10_tableOf 81 = .ok (.ifCond .eq 7, 3) := by decide +kernel
theorem dX10_tableOf_84 : decode cX10_tableOf 84 = .ok (.iconst 1, 1) := by decide +kernel
theorem dX10_tableOf_85 : decode cX10_tableOf 85 = .ok (.goto 4, 3) := by decide +kernel
theorem dX10_tableOf_88 : decode cX10_tableOf 88 = .ok (.iconst 0, 1) := by decide +kernel
theorem dX10_tableOf_89 : decode cX10_tableOf 89 = .ok (.ireturn, 1) := by decide +kernel
theorem dX10_tableOf_90 : decode cX10_tableOf 90 = .ok (.iload 4, 2) := by decide +kernel
theorem dX10_tableOf_92 : decode cX10_tableOf 92 = .ok (.ifCond .eq 16, 3) := by decide +kernel
theorem dX10_tableOf_95 : decode cX10_tableOf 95 = .ok (.iload 5, 2) := by decide +kernel
theorem dX10_tableOf_97 : decode cX10_tableOf 97 = .ok (.ifCond .eq 7, 3) := by decide +kernel
theorem dX10_tableOf_100 : decode cX10_tableOf 100 = .ok (.iconst 0, 1) := by decide +kernel
theorem dX10_tableOf_101 : decode cX10_tableOf 101 = .ok (.goto 10, 3) := by decide +kernel
theorem dX10_tableOf_104 : decode cX10_tableOf 104 = .ok (.iconst 1, 1) := by decide +kernel
theorem dX10_tableOf_105 : decode cX10_tableOf 105 = .ok (.goto 6, 3) := by decide +kernel
theorem dX10_tableOf_108 : decode cX10_tableOf 108 = .ok (.sipush 5004, 3) := by decide +kernel
theorem dX10_tableOf_111 : decode cX10_tableOf 111 = .ok (.ireturn, 1) := by decide +kernel
theorem dX10_tableOf_112 : decode cX10_tableOf 112 = .ok (.iload_n 1, 1) := by decide +kernel
theorem dX10_tableOf_113 : decode cX10_tableOf 113 = .ok (.iload_n 2, 1) := by decide +kernel
theorem dX10_tableOf_114 : decode cX10_tableOf 114 = .ok (.if_icmp .ne 7, 3) := by decide +kernel
theorem dX10_tableOf_117 : decode cX10_tableOf 117 = .ok (.iconst 1, 1) := by decide +kernel
theorem dX10_tableOf_118 : decode cX10_tableOf 118 = .ok (.goto 4, 3) := by decide +kernel
theorem dX10_tableOf_121 : decode cX10_tableOf 121 = .ok (.iconst 0, 1) := by decide +kernel
theorem dX10_tableOf_122 : decode cX10_tableOf 122 = .ok (.ireturn, 1) := by decide +kernel
theorem dX10_layUnit_0 : decode cX10_layUnit 0 = .ok (.iconst 0, 1) := by decide +kernel
theorem dX10_layUnit_1 : decode cX10_layUnit 1 = .ok (.istore_n 1, 1) := by decide +kernel
theorem dX10_layUnit_2 : decode cX10_layUnit 2 = .ok (.iload_n 1, 1) := by decide +kernel
theorem dX10_layUnit_3 : decode cX10_layUnit 3 = .ok (.bipush 16, 2) := by decide +kernel
theorem dX10_layUnit_5 : decode cX10_layUnit 5 = .ok (.if_icmp .ge 29, 3) := by decide +kernel
theorem dX10_layUnit_8 : decode cX10_layUnit 8 = .ok (.aload_n 0, 1) := by decide +kernel
theorem dX10_layUnit_9 : decode cX10_layUnit 9 = .ok (.getfield 31, 3) := by decide +kernel
theorem dX10_layUnit_12 : decode cX10_layUnit 12 = .ok (.iload_n 1, 1) := by decide +kernel
theorem dX10_layUnit_13 : decode cX10_layUnit 13 = .ok (.iload_n 1, 1) := by decide +kernel
theorem dX10_layUnit_14 : decode cX10_layUnit 14 = .ok (.iconst 4, 1) := by decide +kernel
theorem dX10_layUnit_15 : decode cX10_layUnit 15 = .ok (.idiv, 1) := by decide +kernel
theorem dX10_layUnit_16 : decode cX10_layUnit 16 = .ok (.iload_n 1, 1) := by decide +kernel
theorem dX10_layUnit_17 : decode cX10_layUnit 17 = .ok (.iconst 4, 1) := by decide +kernel
theorem dX10_layUnit_18 : decode cX10_layUnit 18 = .ok (.irem, 1) := by decide +kernel
theorem dX10_layUnit_19 : decode cX10_layUnit 19 = .ok (.if_icmp .ne 7, 3) := by decide +kernel
theorem dX10_layUnit_22 : decode cX10_layUnit 22 = .ok (.iconst 1, 1) := by decide +kernel
theorem dX10_layUnit_23 : decode cX10_layUnit 23 = .ok (.goto 4, 3) := by decide +kernel
theorem dX10_layUnit_26 : decode cX10_layUnit 26 = .ok (.iconst 0, 1) := by decide +kernel
theorem dX10_layUnit_27 : decode cX10_layUnit 27 = .ok (.iastore, 1) := by decide +kernel
theorem dX10_layUnit_28 : decode cX10_layUnit 28 = .ok (.iinc 1 1, 3) := by decide +kernel
theorem dX10_layUnit_31 : decode cX10_layUnit 31 = .ok (.goto (-29), 3) := by decide +kernel
theorem dX10_layUnit_34 : decode cX10_layUnit 34 = .ok (.return_, 1) := by decide +kernel
theorem dX10_keepProduct_0 : decode cX10_keepProduct 0 = .ok (.iconst 0, 1) := by decide +kernel
theorem dX10_keepProduct_1 : decode cX10_keepProduct 1 = .ok (.istore_n 1, 1) := by decide +kernel
theorem dX10_keepProduct_2 : decode cX10_keepProduct 2 = .ok (.iload_n 1, 1) := by decide +kernel
theorem dX10_keepProduct_3 : decode cX10_keepProduct 3 = .ok (.bipush 16, 2) := by decide +kernel
theorem dX10_keepProduct_5 : decode cX10_keepProduct 5 = .ok (.if_icmp .ge 21, 3) := by decide +kernel
theorem dX10_keepProduct_8 : decode cX10_keepProduct 8 = .ok (.aload_n 0, 1) := by decide +kernel
theorem dX10_keepProduct_9 : decode cX10_keepProduct 9 = .ok (.getfield 31, 3) := by decide +kernel
theorem dX10_keepProduct_12 : decode cX10_keepProduct 12 = .ok (.iload_n 1, 1) := by decide +kernel
theorem dX10_keepProduct_13 : decode cX10_keepProduct 13 = .ok (.aload_n 0, 1) := by decide +kernel
theorem dX10_keepProduct_14 : decode cX10_keepProduct 14 = .ok (.getfield 34, 3) := by decide +kernel
theorem dX10_keepProduct_17 : decode cX10_keepProduct 17 = .ok (.iload_n 1, 1) := by decide +kernel
theorem dX10_keepProduct_18 : decode cX10_keepProduct 18 = .ok (.iaload, 1) := by decide +kernel
theorem dX10_keepProduct_19 : decode cX10_keepProduct 19 = .ok (.iastore, 1) := by decide +kernel
theorem dX10_keepProduct_20 : decode cX10_keepProduct 20 = .ok (.iinc 1 1, 3) := by decide +kernel
theorem dX10_keepProduct_23 : decode cX10_keepProduct 23 = .ok (.goto (-21), 3) := by decide +kernel
theorem dX10_keepProduct_26 : decode cX10_keepProduct 26 = .ok (.return_, 1) := by decide +kernel
theorem dX10_multiply_0 : decode cX10_multiply 0 = .ok (.aload_n 0, 1) := by decide +kernel
theorem dX10_multiply_1 : decode cX10_multiply 1 = .ok (.invokevirtual 161, 3) := by decide +kernel
theorem dX10_multiply_4 : decode cX10_multiply 4 = .ok (.iconst 0, 1) := by decide +kernel
theorem dX10_multiply_5 : decode cX10_multiply 5 = .ok (.istore_n 1, 1) := by decide +kernel
theorem dX10_multiply_6 : decode cX10_multiply 6 = .ok (.iload_n 1, 1) := by decide +kernel
theorem dX10_multiply_7 : decode cX10_multiply 7 = .ok (.aload_n 0, 1) := by decide +kernel
theorem dX10_multiply_8 : decode cX10_multiply 8 = .ok (.getfield 7, 3) := by decide +kernel
theorem dX10_multiply_11 : decode cX10_multiply 11 = .ok (.iconst 0, 1) := by decide +kernel
theorem dX10_multiply_12 : decode cX10_multiply 12 = .ok (.iaload, 1) := by decide +kernel
theorem dX10_multiply_13 : decode cX10_multiply 13 = .ok (.if_icmp .ge 89, 3) := by decide +kernel
theorem dX10_multiply_16 : decode cX10_multiply 16 = .ok (.iconst 0, 1) := by decide +kernel
theorem dX10_multiply_17 : decode cX10_multiply 17 = .ok (.istore_n 2, 1) := by decide +kernel
theorem dX10_multiply_18 : decode cX10_multiply 18 = .ok (.iload_n 2, 1) := by decide +kernel
theorem dX10_multiply_19 : decode cX10_multiply 19 = .ok (.bipush 16, 2) := by decide +kernel
theorem dX10_multiply_21 : decode cX10_multiply 21 = .ok (.if_icmp .ge 71, 3) := by decide +kernel
theorem dX10_multiply_24 : decode cX10_multiply 24 = .ok (.iconst 0, 1) := by decide +kernel
theorem dX10_multiply_25 : decode cX10_multiply 25 = .ok (.istore_n 3, 1) := by decide +kernel
theorem dX10_multiply_26 : decode cX10_multiply 26 = .ok (.iconst 0, 1) := by decide +kernel
theorem dX10_multiply_27 : decode cX10_multiply 27 = .ok (.istore 4, 2) := by decide +kernel
theorem dX10_multiply_29 : decode cX10_multiply 29 = .ok (.iload 4, 2) := by decide +kernel
theorem dX10_multiply_31 : decode cX10_multiply 31 = .ok (.iconst 4, 1) := by decide +kernel
theorem dX10_multiply_32 : decode cX10_multiply 32 = .ok (.if_icmp .ge 43, 3) := by decide +kernel
theorem dX10_multiply_35 : decode cX10_multiply 35 = .ok (.iload_n 3, 1) := by decide +kernel
theorem dX10_multiply_36 : decode cX10_multiply 36 = .ok (.aload_n 0, 1) := by decide +kernel
theorem dX10_multiply_37 : decode cX10_multiply 37 = .ok (.getfield 31, 3) := by decide +kernel
theorem dX10_multiply_40 : decode cX10_multiply 40 = .ok (.iload_n 2, 1) := by decide +kernel
theorem dX10_multiply_41 : decode cX10_multiply 41 = .ok (.iconst 4, 1) := by decide +kernel
theorem dX10_multiply_42 : decode cX10_multiply 42 = .ok (.idiv, 1) := by decide +kernel
theorem dX10_multiply_43 : decode cX10_multiply 43 = .ok (.iconst 4, 1) := by decide +kernel
theorem dX10_multiply_44 : decode cX10_multiply 44 = .ok (.imul, 1) := by decide +kernel
theorem dX10_multiply_45 : decode cX10_multiply 45 = .ok (.iload 4, 2) := by decide +kernel
theorem dX10_multiply_47 : decode cX10_multiply 47 = .ok (.iadd, 1) := by decide +kernel
theorem dX10_multiply_48 : decode cX10_multiply 48 = .ok (.iaload, 1) := by decide +kernel
theorem dX10_multiply_49 : decode cX10_multiply 49 = .ok (.aload_n 0, 1) := by decide +kernel
theorem dX10_multiply_50 : decode cX10_multiply 50 = .ok (.iload_n 1, 1) := by decide +kernel
theorem dX10_multiply_51 : decode cX10_multiply 51 = .ok (.invokevirtual 62, 3) := by decide +kernel
theorem dX10_multiply_54 : decode cX10_multiply 54 = .ok (.iload 4, 2) := by decide +kernel
theorem dX10_multiply_56 : decode cX10_multiply 56 = .ok (.iload_n 2, 1) := by decide +kernel
theorem dX10_multiply_57 : decode cX10_multiply 57 = .ok (.iconst 4, 1) := by decide +kernel
theorem dX10_multiply_58 : decode cX10_multiply 58 = .ok (.irem, 1) := by decide +kernel
theorem dX10_multiply_59 : decode cX10_multiply 59 = .ok (.invokestatic 164, 3) := by decide +kernel
theorem dX10_multiply_62 : decode cX10_multiply 62 = .ok (.imul, 1) := by decide +kernel
theorem dX10_multiply_63 : decode cX10_multiply 63 = .ok (.sipush 10007, 3) := by decide +kernel
theorem dX10_multiply_66 : decode cX10_multiply 66 = .ok (.irem, 1) := by decide +kernel
theorem dX10_multiply_67 : decode cX10_multiply 67 = .ok (.iadd, 1) := by decide +kernel
theorem dX10_multiply_68 : decode cX10_multiply 68 = .ok (.istore_n 3, 1) := by decide +kernel
theorem dX10_multiply_69 : decode cX10_multiply 69 = .ok (.iinc 4 1, 3) := by decide +kernel
theorem dX10_multiply_72 : decode cX10_multiply 72 = .ok (.goto (-43), 3) := by decide +kernel
theorem dX10_multiply_75 : decode cX10_multiply 75 = .ok (.aload_n 0, 1) := by decide +kernel
theorem dX10_multiply_76 : decode cX10_multiply 76 = .ok (.getfield 34, 3) := by decide +kernel
theorem dX10_multiply_79 : decode cX10_multiply 79 = .ok (.iload_n 2, 1) := by decide +kernel
theorem dX10_multiply_80 : decode cX10_multiply 80 = .ok (.iload_n 3, 1) := by decide +kernel
theorem dX10_multiply_81 : decode cX10_multiply 81 = .ok (.sipush 10007, 3) := by decide +kernel
theorem dX10_multiply_84 : decode cX10_multiply 84 = .ok (.irem, 1) := by decide +kernel
theorem dX10_multiply_85 : decode cX10_multiply 85 = .ok (.iastore, 1) := by decide +kernel
theorem dX10_multiply_86 : decode cX10_multiply 86 = .ok (.iinc 2 1, 3) := by decide +kernel
theorem dX10_multiply_89 : decode cX10_multiply 89 = .ok (.goto (-71), 3) := by decide +kernel
theorem dX10_multiply_92 : decode cX10_multiply 92 = .ok (.aload_n 0, 1) := by decide +kernel
theorem dX10_multiply_93 : decode cX10_multiply 93 = .ok (.invokevirtual 168, 3) := by decide +kernel
theorem dX10_multiply_96 : decode cX10_multiply 96 = .ok (.iinc 1 1, 3) := by decide +kernel
theorem dX10_multiply_99 : decode cX10_multiply 99 = .ok (.goto (-93), 3) := by decide +kernel
theorem dX10_multiply_102 : decode cX10_multiply 102 = .ok (.return_, 1) := by decide +kernel
theorem dX10_multiplyBack_0 : decode cX10_multiplyBack 0 = .ok (.aload_n 0, 1) := by decide +kernel
theorem dX10_multiplyBack_1 : decode cX10_multiplyBack 1 = .ok (.invokevirtual 161, 3) := by decide +kernel
theorem dX10_multiplyBack_4 : decode cX10_multiplyBack 4 = .ok (.aload_n 0, 1) := by decide +kernel
theorem dX10_multiplyBack_5 : decode cX10_multiplyBack 5 = .ok (.getfield 7, 3) := by decide +kernel
theorem dX10_multiplyBack_8 : decode cX10_multiplyBack 8 = .ok (.iconst 0, 1) := by decide +kernel
theorem dX10_multiplyBack_9 : decode cX10_multiplyBack 9 = .ok (.iaload, 1) := by decide +kernel
theorem dX10_multiplyBack_10 : decode cX10_multiplyBack 10 = .ok (.iconst 1, 1) := by decide +kernel
theorem dX10_multiplyBack_11 : decode cX10_multiplyBack 11 = .ok (.isub, 1) := by decide +kernel
theorem dX10_multiplyBack_12 : decode cX10_multiplyBack 12 = .ok (.istore_n 1, 1) := by decide +kernel
theorem dX10_multiplyBack_13 : decode cX10_multiplyBack 13 = .ok (.iload_n 1, 1) := by decide +kernel
theorem dX10_multiplyBack_14 : decode cX10_multiplyBack 14 = .ok (.ifCond .lt 89, 3) := by decide +kernel
theorem dX10_multiplyBack_17 : decode cX10_multiplyBack 17 = .ok (.iconst 0, 1) := by decide +kernel
theorem dX10_multiplyBack_18 : decode cX10_multiplyBack 18 = .ok (.istore_n 2, 1) := by decide +kernel
theorem dX10_multiplyBack_19 : decode cX10_multiplyBack 19 = .ok (.iload_n 2, 1) := by decide +kernel
theorem dX10_multiplyBack_20 : decode cX10_multiplyBack 20 = .ok (.bipush 16, 2) := by decide +kernel
theorem dX10_multiplyBack_22 : decode cX10_multiplyBack 22 = .ok (.if_icmp .ge 71, 3) := by decide +kernel
theorem dX10_multiplyBack_25 : decode cX10_multiplyBack 25 = .ok (.iconst 0, 1) := by decide +kernel
theorem dX10_multiplyBack_26 : decode cX10_multiplyBack 26 = .ok (.istore_n 3, 1) := by decide +kernel
theorem dX10_multiplyBack_27 : decode cX10_multiplyBack 27 = .ok (.iconst 0, 1) := by decide +kernel
theorem dX10_multiplyBack_28 : decode cX10_multiplyBack 28 = .ok (.istore 4, 2) := by decide +kernel
theorem dX10_multiplyBack_30 : decode cX10_multiplyBack 30 = .ok (.iload 4, 2) := by decide +kernel
theorem dX10_multiplyBack_32 : decode cX10_multiplyBack 32 = .ok (.iconst 4, 1) := by decide +kernel
theorem dX10_multiplyBack_33 : decode cX10_multiplyBack 33 = .ok (.if_icmp .ge 43, 3) := by decide +kernel
theorem dX10_multiplyBack_36 : decode cX10_multiplyBack 36 = .ok (.iload_n 3, 1) := by decide +kernel
theorem dX10_multiplyBack_37 : decode cX10_multiplyBack 37 = .ok (.aload_n 0, 1) := by decide +kernel
theorem dX10_multiplyBack_38 : decode cX10_multiplyBack 38 = .ok (.iload_n 1, 1) := by decide +kernel
theorem dX10_multiplyBack_39 : decode cX10_multiplyBack 39 = .ok (.invokevirtual 62, 3) := by decide +kernel
theorem dX10_multiplyBack_42 : decode cX10_multiplyBack 42 = .ok (.iload_n 2, 1) := by decide +kernel
theorem dX10_multiplyBack_43 : decode cX10_multiplyBack 43 = .ok (.iconst 4, 1) := by decide +kernel
theorem dX10_multiplyBack_44 : decode cX10_multiplyBack 44 = .ok (.idiv, 1) := by decide +kernel
theorem dX10_multiplyBack_45 : decode cX10_multiplyBack 45 = .ok (.iload 4, 2) := by decide +kernel
theorem dX10_multiplyBack_47 : decode cX10_multiplyBack 47 = .ok (.invokestatic 164, 3) := by decide +kernel
theorem dX10_multiplyBack_50 : decode cX10_multiplyBack 50 = .ok (.aload_n 0, 1) := by decide +kernel
theorem dX10_multiplyBack_51 : decode cX10_multiplyBack 51 = .ok (.getfield 31, 3) := by decide +kernel
theorem dX10_multiplyBack_54 : decode cX10_multiplyBack 54 = .ok (.iconst 4, 1) := by decide +kernel
theorem dX10_multiplyBack_55 : decode cX10_multiplyBack 55 = .ok (.iload 4, 2) := by decide +kernel
theorem dX10_multiplyBack_57 : decode cX10_multiplyBack 57 = .ok (.imul, 1) := by decide +kernel
theorem dX10_multiplyBack_58 : decode cX10_multiplyBack 58 = .ok (.iload_n 2, 1) := by decide +kernel
theorem dX10_multiplyBack_59 : decode cX10_multiplyBack 59 = .ok (.iconst 4, 1) := by decide +kernel
theorem dX10_multiplyBack_60 : decode cX10_multiplyBack 60 = .ok (.irem, 1) := by decide +kernel
theorem dX10_multiplyBack_61 : decode cX10_multiplyBack 61 = .ok (.iadd, 1) := by decide +kernel
theorem dX10_multiplyBack_62 : decode cX10_multiplyBack 62 = .ok (.iaload, 1) := by decide +kernel
theorem dX10_multiplyBack_63 : decode cX10_multiplyBack 63 = .ok (.imul, 1) := by decide +kernel
theorem dX10_multiplyBack_64 : decode cX10_multiplyBack 64 = .ok (.sipush 10007, 3) := by decide +kernel
theorem dX10_multiplyBack_67 : decode cX10_multiplyBack 67 = .ok (.irem, 1) := by decide +kernel
theorem dX10_multiplyBack_68 : decode cX10_multiplyBack 68 = .ok (.iadd, 1) := by decide +kernel
theorem dX10_multiplyBack_69 : decode cX10_multiplyBack 69 = .ok (.istore_n 3, 1) := by decide +kernel
theorem dX10_multiplyBack_70 : decode cX10_multiplyBack 70 = .ok (.iinc 4 1, 3) := by decide +kernel
theorem dX10_multiplyBack_73 : decode cX10_multiplyBack 73 = .ok (.goto (-43), 3) := by decide +kernel
theorem dX10_multiplyBack_76 : decode cX10_multiplyBack 76 = .ok (.aload_n 0, 1) := by decide +kernel
theorem dX10_multiplyBack_77 : decode cX10_multiplyBack 77 = .ok (.getfield 34, 3) := by decide +kernel
theorem dX10_multiplyBack_80 : decode cX10_multiplyBack 80 = .ok (.iload_n 2, 1) := by decide +kernel
theorem dX10_multiplyBack_81 : decode cX10_multiplyBack 81 = .ok (.iload_n 3, 1) := by decide +kernel
theorem dX10_multiplyBack_82 : decode cX10_multiplyBack 82 = .ok (.sipush 10007, 3) := by decide +kernel
theorem dX10_multiplyBack_85 : decode cX10_multiplyBack 85 = .ok (.irem, 1) := by decide +kernel
theorem dX10_multiplyBack_86 : decode cX10_multiplyBack 86 = .ok (.iastore, 1) := by decide +kernel
theorem dX10_multiplyBack_87 : decode cX10_multiplyBack 87 = .ok (.iinc 2 1, 3) := by decide +kernel
theorem dX10_multiplyBack_90 : decode cX10_multiplyBack 90 = .ok (.goto (-71), 3) := by decide +kernel
theorem dX10_multiplyBack_93 : decode cX10_multiplyBack 93 = .ok (.aload_n 0, 1) := by decide +kernel
theorem dX10_multiplyBack_94 : decode cX10_multiplyBack 94 = .ok (.invokevirtual 168, 3) := by decide +kernel
theorem dX10_multiplyBack_97 : decode cX10_multiplyBack 97 = .ok (.iinc 1 (-1), 3) := by decide +kernel
theorem dX10_multiplyBack_100 : decode cX10_multiplyBack 100 = .ok (.goto (-87), 3) := by decide +kernel
theorem dX10_multiplyBack_103 : decode cX10_multiplyBack 103 = .ok (.return_, 1) := by decide +kernel
theorem dX10_areCells_0 : decode cX10_areCells 0 = .ok (.iload_n 0, 1) := by decide +kernel
theorem dX10_areCells_1 : decode cX10_areCells 1 = .ok (.iconst 0, 1) := by decide +kernel
theorem dX10_areCells_2 : decode cX10_areCells 2 = .ok (.iconst 3, 1) := by decide +kernel
theorem dX10_areCells_3 : decode cX10_areCells 3 = .ok (.invokestatic 45, 3) := by decide +kernel
theorem dX10_areCells_6 : decode cX10_areCells 6 = .ok (.ifCond .eq 16, 3) := by decide +kernel
theorem dX10_areCells_9 : decode cX10_areCells 9 = .ok (.iload_n 1, 1) := by decide +kernel
theorem dX10_areCells_10 : decode cX10_areCells 10 = .ok (.iconst 0, 1) := by decide +kernel
theorem dX10_areCells_11 : decode cX10_areCells 11 = .ok (.iconst 3, 1) := by decide +kernel
theorem dX10_areCells_12 : decode cX10_areCells 12 = .ok (.invokestatic 45, 3) := by decide +kernel
theorem dX10_areCells_15 : decode cX10_areCells 15 = .ok (.ifCond .eq 7, 3) := by decide +kernel
theorem dX10_areCells_18 : decode cX10_areCells 18 = .ok (.iconst 1, 1) := by decide +kernel
theorem dX10_areCells_19 : decode cX10_areCells 19 = .ok (.goto 4, 3) := by decide +kernel
theorem dX10_areCells_22 : decode cX10_areCells 22 = .ok (.iconst 0, 1) := by decide +kernel
theorem dX10_areCells_23 : decode cX10_areCells 23 = .ok (.ireturn, 1) := by decide +kernel
theorem dX10_measure_0 : decode cX10_measure 0 = .ok (.aload_n 0, 1) := by decide +kernel
theorem dX10_measure_1 : decode cX10_measure 1 = .ok (.iconst 0, 1) := by decide +kernel
theorem dX10_measure_2 : decode cX10_measure 2 = .ok (.putfield 41, 3) := by decide +kernel
theorem dX10_measure_5 : decode cX10_measure 5 = .ok (.iload_n 1, 1) := by decide +kernel
theorem dX10_measure_6 : decode cX10_measure 6 = .ok (.iload_n 2, 1) := by decide +kernel
theorem dX10_measure_7 : decode cX10_measure 7 = .ok (.invokestatic 171, 3) := by decide +kernel
theorem dX10_measure_10 : decode cX10_measure 10 = .ok (.ifCond .ne 9, 3) := by decide +kernel
theorem dX10_measure_13 : decode cX10_measure 13 = .ok (.aload_n 0, 1) := by decide +kernel
theorem dX10_measure_14 : decode cX10_measure 14 = .ok (.iconst 1, 1) := by decide +kernel
theorem dX10_measure_15 : decode cX10_measure 15 = .ok (.invokevirtual 52, 3) := by decide +kernel
theorem dX10_measure_18 : decode cX10_measure 18 = .ok (.ireturn, 1) := by decide +kernel
theorem dX10_measure_19 : decode cX10_measure 19 = .ok (.aload_n 0, 1) := by decide +kernel
theorem dX10_measure_20 : decode cX10_measure 20 = .ok (.invokevirtual 175, 3) := by decide +kernel
theorem dX10_measure_23 : decode cX10_measure 23 = .ok (.aload_n 0, 1) := by decide +kernel
theorem dX10_measure_24 : decode cX10_measure 24 = .ok (.getfield 31, 3) := by decide +kernel
theorem dX10_measure_27 : decode cX10_measure 27 = .ok (.iconst 4, 1) := by decide +kernel
theorem dX10_measure_28 : decode cX10_measure 28 = .ok (.iload_n 1, 1) := by decide +kernel
theorem dX10_measure_29 : decode cX10_measure 29 = .ok (.imul, 1) := by decide +kernel
theorem dX10_measure_30 : decode cX10_measure 30 = .ok (.iload_n 2, 1) := by decide +kernel
theorem dX10_measure_31 : decode cX10_measure 31 = .ok (.iadd, 1) := by decide +kernel
theorem dX10_measure_32 : decode cX10_measure 32 = .ok (.iaload, 1) := by decide +kernel
theorem dX10_measure_33 : decode cX10_measure 33 = .ok (.ireturn, 1) := by decide +kernel
theorem dX10_halved_0 : decode cX10_halved 0 = .ok (.aload_n 0, 1) := by decide +kernel
theorem dX10_halved_1 : decode cX10_halved 1 = .ok (.iconst 0, 1) := by decide +kernel
theorem dX10_halved_2 : decode cX10_halved 2 = .ok (.putfield 41, 3) := by decide +kernel
theorem dX10_halved_5 : decode cX10_halved 5 = .ok (.iload_n 1, 1) := by decide +kernel
theorem dX10_halved_6 : decode cX10_halved 6 = .ok (.iload_n 2, 1) := by decide +kernel
theorem dX10_halved_7 : decode cX10_halved 7 = .ok (.invokestatic 171, 3) := by decide +kernel
theorem dX10_halved_10 : decode cX10_halved 10 = .ok (.ifCond .ne 9, 3) := by decide +kernel
theorem dX10_halved_13 : decode cX10_halved 13 = .ok (.aload_n 0, 1) := by decide +kernel
theorem dX10_halved_14 : decode cX10_halved 14 = .ok (.iconst 1, 1) := by decide +kernel
theorem dX10_halved_15 : decode cX10_halved 15 = .ok (.invokevirtual 52, 3) := by decide +kernel
theorem dX10_halved_18 : decode cX10_halved 18 = .ok (.ireturn, 1) := by decide +kernel
theorem dX10_halved_19 : decode cX10_halved 19 = .ok (.aload_n 0, 1) := by decide +kernel
theorem dX10_halved_20 : decode cX10_halved 20 = .ok (.invokevirtual 178, 3) := by decide +kernel
theorem dX10_halved_23 : decode cX10_halved 23 = .ok (.aload_n 0, 1) := by decide +kernel
theorem dX10_halved_24 : decode cX10_halved 24 = .ok (.getfield 31, 3) := by decide +kernel
theorem dX10_halved_27 : decode cX10_halved 27 = .ok (.iconst 4, 1) := by decide +kernel
theorem dX10_halved_28 : decode cX10_halved 28 = .ok (.iload_n 1, 1) := by decide +kernel
theorem dX10_halved_29 : decode cX10_halved 29 = .ok (.imul, 1) := by decide +kernel
theorem dX10_halved_30 : decode cX10_halved 30 = .ok (.iload_n 2, 1) := by decide +kernel
theorem dX10_halved_31 : decode cX10_halved 31 = .ok (.iadd, 1) := by decide +kernel
theorem dX10_halved_32 : decode cX10_halved 32 = .ok (.iaload, 1) := by decide +kernel
theorem dX10_halved_33 : decode cX10_halved 33 = .ok (.ireturn, 1) := by decide +kernel
theorem dX10_ranks_0 : decode cX10_ranks 0 = .ok (.iconst 0, 1) := by decide +kernel
theorem dX10_ranks_1 : decode cX10_ranks 1 = .ok (.istore_n 1, 1) := by decide +kernel
theorem dX10_ranks_2 : decode cX10_ranks 2 = .ok (.iconst 0, 1) := by decide +kernel
theorem dX10_ranks_3 : decode cX10_ranks 3 = .ok (.istore_n 2, 1) := by decide +kernel
theorem dX10_ranks_4 : decode cX10_ranks 4 = .ok (.iload_n 2, 1) := by decide +kernel
theorem dX10_ranks_5 : decode cX10_ranks 5 = .ok (.aload_n 0, 1) := by decide +kernel
theorem dX10_ranks_6 : decode cX10_ranks 6 = .ok (.getfield 7, 3) := by decide +kernel
theorem dX10_ranks_9 : decode cX10_ranks 9 = .ok (.iconst 0, 1) := by decide +kernel
theorem dX10_ranks_10 : decode cX10_ranks 10 = .ok (.iaload, 1) := by decide +kernel
theorem dX10_ranks_11 : decode cX10_ranks 11 = .ok (.if_icmp .ge 22, 3) := by decide +kernel
theorem dX10_ranks_14 : decode cX10_ranks 14 = .ok (.iload_n 1, 1) := by decide +kernel
theorem dX10_ranks_15 : decode cX10_ranks 15 = .ok (.iconst 1, 1) := by decide +kernel
theorem dX10_ranks_16 : decode cX10_ranks 16 = .ok (.aload_n 0, 1) := by decide +kernel
theorem dX10_ranks_17 : decode cX10_ranks 17 = .ok (.iload_n 2, 1) := by decide +kernel
theorem dX10_ranks_18 : decode cX10_ranks 18 = .ok (.invokevirtual 62, 3) := by decide +kernel
theorem dX10_ranks_21 : decode cX10_ranks 21 = .ok (.invokestatic 68, 3) := by decide +kernel
theorem dX10_ranks_24 : decode cX10_ranks 24 = .ok (.ishl, 1) := by decide +kernel
theorem dX10_ranks_25 : decode cX10_ranks 25 = .ok (.ior, 1) := by decide +kernel
theorem dX10_ranks_26 : decode cX10_ranks 26 = .ok (.istore_n 1, 1) := by decide +kernel
theorem dX10_ranks_27 : decode cX10_ranks 27 = .ok (.iinc 2 1, 3) := by decide +kernel
theorem dX10_ranks_30 : decode cX10_ranks 30 = .ok (.goto (-26), 3) := by decide +kernel
theorem dX10_ranks_33 : decode cX10_ranks 33 = .ok (.iload_n 1, 1) := by decide +kernel
theorem dX10_ranks_34 : decode cX10_ranks 34 = .ok (.ireturn, 1) := by decide +kernel
theorem dX10_positives_0 : decode cX10_positives 0 = .ok (.iconst 0, 1) := by decide +kernel
theorem dX10_positives_1 : decode cX10_positives 1 = .ok (.istore_n 1, 1) := by decide +kernel
theorem dX10_positives_2 : decode cX10_positives 2 = .ok (.iconst 0, 1) := by decide +kernel
theorem dX10_positives_3 : decode cX10_positives 3 = .ok (.istore_n 2, 1) := by decide +kernel
theorem dX10_positives_4 : decode cX10_positives 4 = .ok (.iload_n 2, 1) := by decide +kernel
theorem dX10_positives_5 : decode cX10_positives 5 = .ok (.aload_n 0, 1) := by decide +kernel
theorem dX10_positives_6 : decode cX10_positives 6 = .ok (.getfield 7, 3) := by decide +kernel
theorem dX10_positives_9 : decode cX10_positives 9 = .ok (.iconst 0, 1) := by decide +kernel
theorem dX10_positives_10 : decode cX10_positives 10 = .ok (.iaload, 1) := by decide +kernel
theorem dX10_positives_11 : decode cX10_positives 11 = .ok (.if_icmp .ge 25, 3) := by decide +kernel
theorem dX10_positives_14 : decode cX10_positives 14 = .ok (.iload_n 1, 1) := by decide +kernel
theorem dX10_positives_15 : decode cX10_positives 15 = .ok (.aload_n 0, 1) := by decide +kernel
theorem dX10_positives_16 : decode cX10_positives 16 = .ok (.iload_n 2, 1) := by decide +kernel
theorem dX10_positives_17 : decode cX10_positives 17 = .ok (.invokevirtual 62, 3) := by decide +kernel
theorem dX10_positives_20 : decode cX10_positives 20 = .ok (.ifCond .le 7, 3) := by decide +kernel
theorem dX10_positives_23 : decode cX10_positives 23 = .ok (.iconst 1, 1) := by decide +kernel
theorem dX10_positives_24 : decode cX10_positives 24 = .ok (.goto 4, 3) := by decide +kernel
theorem dX10_positives_27 : decode cX10_positives 27 = .ok (.iconst 0, 1) := by decide +kernel
theorem dX10_positives_28 : decode cX10_positives 28 = .ok (.iadd, 1) := by decide +kernel
theorem dX10_positives_29 : decode cX10_positives 29 = .ok (.istore_n 1, 1) := by decide +kernel
theorem dX10_positives_30 : decode cX10_positives 30 = .ok (.iinc 2 1, 3) := by decide +kernel
theorem dX10_positives_33 : decode cX10_positives 33 = .ok (.goto (-29), 3) := by decide +kernel
theorem dX10_positives_36 : decode cX10_positives 36 = .ok (.iload_n 1, 1) := by decide +kernel
theorem dX10_positives_37 : decode cX10_positives 37 = .ok (.ireturn, 1) := by decide +kernel
theorem dX10_tellsCount_0 : decode cX10_tellsCount 0 = .ok (.iload_n 1, 1) := by decide +kernel
theorem dX10_tellsCount_1 : decode cX10_tellsCount 1 = .ok (.tableswitch 115 0 6 #[43, 50, 58, 65, 70, 75, 95], 43) := by decide +kernel
theorem dX10_tellsCount_44 : decode cX10_tellsCount 44 = .ok (.aload_n 0, 1) := by decide +kernel
theorem dX10_tellsCount_45 : decode cX10_tellsCount 45 = .ok (.getfield 7, 3) := by decide +kernel
theorem dX10_tellsCount_48 : decode cX10_tellsCount 48 = .ok (.iconst 0, 1) := by decide +kernel
theorem dX10_tellsCount_49 : decode cX10_tellsCount 49 = .ok (.iaload, 1) := by decide +kernel
theorem dX10_tellsCount_50 : decode cX10_tellsCount 50 = .ok (.ireturn, 1) := by decide +kernel
theorem dX10_tellsCount_51 : decode cX10_tellsCount 51 = .ok (.aload_n 0, 1) := by decide +kernel
theorem dX10_tellsCount_52 : decode cX10_tellsCount 52 = .ok (.invokevirtual 128, 3) := by decide +kernel
theorem dX10_tellsCount_55 : decode cX10_tellsCount 55 = .ok (.bipush 100, 2) := by decide +kernel
theorem dX10_tellsCount_57 : decode cX10_tellsCount 57 = .ok (.iadd, 1) := by decide +kernel
theorem dX10_tellsCount_58 : decode cX10_tellsCount 58 = .ok (.ireturn, 1) := by decide +kernel
theorem dX10_tellsCount_59 : decode cX10_tellsCount 59 = .ok (.aload_n 0, 1) := by decide +kernel
theorem dX10_tellsCount_60 : decode cX10_tellsCount 60 = .ok (.getfield 7, 3) := by decide +kernel
theorem dX10_tellsCount_63 : decode cX10_tellsCount 63 = .ok (.iconst 1, 1) := by decide +kernel
theorem dX10_tellsCount_64 : decode cX10_tellsCount 64 = .ok (.iaload, 1) := by decide +kernel
theorem dX10_tellsCount_65 : decode cX10_tellsCount 65 = .ok (.ireturn, 1) := by decide +kernel
theorem dX10_tellsCount_66 : decode cX10_tellsCount 66 = .ok (.aload_n 0, 1) := by decide +kernel
theorem dX10_tellsCount_67 : decode cX10_tellsCount 67 = .ok (.invokevirtual 181, 3) := by decide +kernel
theorem dX10_tellsCount_70 : decode cX10_tellsCount 70 = .ok (.ireturn, 1) := by decide +kernel
theorem dX10_tellsCount_71 : decode cX10_tellsCount 71 = .ok (.aload_n 0, 1) := by decide +kernel
theorem dX10_tellsCount_72 : decode cX10_tellsCount 72 = .ok (.invokevirtual 184, 3) := by decide +kernel
theorem dX10_tellsCount_75 : decode cX10_tellsCount 75 = .ok (.ireturn, 1) := by decide +kernel
theorem dX10_tellsCount_76 : decode cX10_tellsCount 76 = .ok (.aload_n 0, 1) := by decide +kernel
theorem dX10_tellsCount_77 : decode cX10_tellsCount 77 = .ok (.invokevirtual 115, 3) := by decide +kernel
theorem dX10_tellsCount_80 : decode cX10_tellsCount 80 = .ok (.aload_n 0, 1) := by decide +kernel
theorem dX10_tellsCount_81 : decode cX10_tellsCount 81 = .ok (.invokevirtual 97, 3) := by decide +kernel
theorem dX10_tellsCount_84 : decode cX10_tellsCount 84 = .ok (.ifCond .eq 10, 3) := by decide +kernel
theorem dX10_tellsCount_87 : decode cX10_tellsCount 87 = .ok (.aload_n 0, 1) := by decide +kernel
theorem dX10_tellsCount_88 : decode cX10_tellsCount 88 = .ok (.getfield 85, 3) := by decide +kernel
theorem dX10_tellsCount_91 : decode cX10_tellsCount 91 = .ok (.goto 4, 3) := by decide +kernel
theorem dX10_tellsCount_94 : decode cX10_tellsCount 94 = .ok (.iconst (-1), 1) := by decide +kernel
theorem dX10_tellsCount_95 : decode cX10_tellsCount 95 = .ok (.ireturn, 1) := by decide +kernel
theorem dX10_tellsCount_96 : decode cX10_tellsCount 96 = .ok (.aload_n 0, 1) := by decide +kernel
theorem dX10_tellsCount_97 : decode cX10_tellsCount 97 = .ok (.invokevirtual 115, 3) := by decide +kernel
theorem dX10_tellsCount_100 : decode cX10_tellsCount 100 = .ok (.aload_n 0, 1) := by decide +kernel
theorem dX10_tellsCount_101 : decode cX10_tellsCount 101 = .ok (.invokevirtual 97, 3) := by decide +kernel
theorem dX10_tellsCount_104 : decode cX10_tellsCount 104 = .ok (.ifCond .eq 10, 3) := by decide +kernel
theorem dX10_tellsCount_107 : decode cX10_tellsCount 107 = .ok (.aload_n 0, 1) := by decide +kernel
theorem dX10_tellsCount_108 : decode cX10_tellsCount 108 = .ok (.getfield 88, 3) := by decide +kernel
theorem dX10_tellsCount_111 : decode cX10_tellsCount 111 = .ok (.goto 4, 3) := by decide +kernel
theorem dX10_tellsCount_114 : decode cX10_tellsCount 114 = .ok (.iconst (-1), 1) := by decide +kernel
theorem dX10_tellsCount_115 : decode cX10_tellsCount 115 = .ok (.ireturn, 1) := by decide +kernel
theorem dX10_tellsCount_116 : decode cX10_tellsCount 116 = .ok (.aload_n 0, 1) := by decide +kernel
theorem dX10_tellsCount_117 : decode cX10_tellsCount 117 = .ok (.getfield 49, 3) := by decide +kernel
theorem dX10_tellsCount_120 : decode cX10_tellsCount 120 = .ok (.ireturn, 1) := by decide +kernel
theorem dX10_count_0 : decode cX10_count 0 = .ok (.aload_n 0, 1) := by decide +kernel
theorem dX10_count_1 : decode cX10_count 1 = .ok (.iconst 0, 1) := by decide +kernel
theorem dX10_count_2 : decode cX10_count 2 = .ok (.putfield 41, 3) := by decide +kernel
theorem dX10_count_5 : decode cX10_count 5 = .ok (.iload_n 1, 1) := by decide +kernel
theorem dX10_count_6 : decode cX10_count 6 = .ok (.iconst 0, 1) := by decide +kernel
theorem dX10_count_7 : decode cX10_count 7 = .ok (.bipush 7, 2) := by decide +kernel
theorem dX10_count_9 : decode cX10_count 9 = .ok (.invokestatic 45, 3) := by decide +kernel
theorem dX10_count_12 : decode cX10_count 12 = .ok (.ifCond .eq 11, 3) := by decide +kernel
theorem dX10_count_15 : decode cX10_count 15 = .ok (.aload_n 0, 1) := by decide +kernel
theorem dX10_count_16 : decode cX10_count 16 = .ok (.iload_n 1, 1) := by decide +kernel
theorem dX10_count_17 : decode cX10_count 17 = .ok (.invokevirtual 187, 3) := by decide +kernel
theorem dX10_count_20 : decode cX10_count 20 = .ok (.goto 8, 3) := by decide +kernel
theorem dX10_count_23 : decode cX10_count 23 = .ok (.aload_n 0, 1) := by decide +kernel
theorem dX10_count_24 : decode cX10_count 24 = .ok (.iconst 1, 1) := by decide +kernel
theorem dX10_count_25 : decode cX10_count 25 = .ok (.invokevirtual 52, 3) := by decide +kernel
theorem dX10_count_28 : decode cX10_count 28 = .ok (.ireturn, 1) := by decide +kernel
theorem dX10_whyNot_0 : decode cX10_whyNot 0 = .ok (.aload_n 0, 1) := by decide +kernel
theorem dX10_whyNot_1 : decode cX10_whyNot 1 = .ok (.iconst 0, 1) := by decide +kernel
theorem dX10_whyNot_2 : decode cX10_whyNot 2 = .ok (.putfield 41, 3) := by decide +kernel
theorem dX10_whyNot_5 : decode cX10_whyNot 5 = .ok (.iload_n 1, 1) := by decide +kernel
theorem dX10_whyNot_6 : decode cX10_whyNot 6 = .ok (.invokestatic 112, 3) := by decide +kernel
theorem dX10_whyNot_9 : decode cX10_whyNot 9 = .ok (.ifCond .eq 7, 3) := by decide +kernel
theorem dX10_whyNot_12 : decode cX10_whyNot 12 = .ok (.iload_n 2, 1) := by decide +kernel
theorem dX10_whyNot_13 : decode cX10_whyNot 13 = .ok (.ifCond .ge 9, 3) := by decide +kernel
theorem dX10_whyNot_16 : decode cX10_whyNot 16 = .ok (.aload_n 0, 1) := by decide +kernel
theorem dX10_whyNot_17 : decode cX10_whyNot 17 = .ok (.iconst 1, 1) := by decide +kernel
theorem dX10_whyNot_18 : decode cX10_whyNot 18 = .ok (.invokevirtual 52, 3) := by decide +kernel
theorem dX10_whyNot_21 : decode cX10_whyNot 21 = .ok (.ireturn, 1) := by decide +kernel
theorem dX10_whyNot_22 : decode cX10_whyNot 22 = .ok (.aload_n 0, 1) := by decide +kernel
theorem dX10_whyNot_23 : decode cX10_whyNot 23 = .ok (.invokevirtual 115, 3) := by decide +kernel
theorem dX10_whyNot_26 : decode cX10_whyNot 26 = .ok (.aload_n 0, 1) := by decide +kernel
theorem dX10_whyNot_27 : decode cX10_whyNot 27 = .ok (.iload_n 1, 1) := by decide +kernel
theorem dX10_whyNot_28 : decode cX10_whyNot 28 = .ok (.iload_n 2, 1) := by decide +kernel
theorem dX10_whyNot_29 : decode cX10_whyNot 29 = .ok (.invokevirtual 78, 3) := by decide +kernel
theorem dX10_whyNot_32 : decode cX10_whyNot 32 = .ok (.ireturn, 1) := by decide +kernel
theorem dX10_tellsUntangled_0 : decode cX10_tellsUntangled 0 = .ok (.aload_n 0, 1) := by decide +kernel
theorem dX10_tellsUntangled_1 : decode cX10_tellsUntangled 1 = .ok (.invokevirtual 115, 3) := by decide +kernel
theorem dX10_tellsUntangled_4 : decode cX10_tellsUntangled 4 = .ok (.aload_n 0, 1) := by decide +kernel
theorem dX10_tellsUntangled_5 : decode cX10_tellsUntangled 5 = .ok (.invokevirtual 190, 3) := by decide +kernel
theorem dX10_tellsUntangled_8 : decode cX10_tellsUntangled 8 = .ok (.ifCond .ne 5, 3) := by decide +kernel
theorem dX10_tellsUntangled_11 : decode cX10_tellsUntangled 11 = .ok (.iconst (-1), 1) := by decide +kernel
theorem dX10_tellsUntangled_12 : decode cX10_tellsUntangled 12 = .ok (.ireturn, 1) := by decide +kernel
theorem dX10_tellsUntangled_13 : decode cX10_tellsUntangled 13 = .ok (.iload_n 1, 1) := by decide +kernel
theorem dX10_tellsUntangled_14 : decode cX10_tellsUntangled 14 = .ok (.ifCond .ne 10, 3) := by decide +kernel
theorem dX10_tellsUntangled_17 : decode cX10_tellsUntangled 17 = .ok (.aload_n 0, 1) := by decide +kernel
theorem dX10_tellsUntangled_18 : decode cX10_tellsUntangled 18 = .ok (.getfield 59, 3) := by decide +kernel
theorem dX10_tellsUntangled_21 : decode cX10_tellsUntangled 21 = .ok (.goto 31, 3) := by decide +kernel
theorem dX10_tellsUntangled_24 : decode cX10_tellsUntangled 24 = .ok (.iload_n 1, 1) := by decide +kernel
theorem dX10_tellsUntangled_25 : decode cX10_tellsUntangled 25 = .ok (.iconst 1, 1) := by decide +kernel
theorem dX10_tellsUntangled_26 : decode cX10_tellsUntangled 26 = .ok (.if_icmp .ne 10, 3) := by decide +kernel
theorem dX10_tellsUntangled_29 : decode cX10_tellsUntangled 29 = .ok (.aload_n 0, 1) := by decide +kernel
theorem dX10_tellsUntangled_30 : decode cX10_tellsUntangled 30 = .ok (.getfield 91, 3) := by decide +kernel
theorem dX10_tellsUntangled_33 : decode cX10_tellsUntangled 33 = .ok (.goto 19, 3) := by decide +kernel
theorem dX10_tellsUntangled_36 : decode cX10_tellsUntangled 36 = .ok (.iload_n 1, 1) := by decide +kernel
theorem dX10_tellsUntangled_37 : decode cX10_tellsUntangled 37 = .ok (.iconst 2, 1) := by decide +kernel
theorem dX10_tellsUntangled_38 : decode cX10_tellsUntangled 38 = .ok (.if_icmp .ne 10, 3) := by decide +kernel
theorem dX10_tellsUntangled_41 : decode cX10_tellsUntangled 41 = .ok (.aload_n 0, 1) := by decide +kernel
theorem dX10_tellsUntangled_42 : decode cX10_tellsUntangled 42 = .ok (.invokevirtual 193, 3) := by decide +kernel
theorem dX10_tellsUntangled_45 : decode cX10_tellsUntangled 45 = .ok (.goto 7, 3) := by decide +kernel
theorem dX10_tellsUntangled_48 : decode cX10_tellsUntangled 48 = .ok (.aload_n 0, 1) := by decide +kernel
theorem dX10_tellsUntangled_49 : decode cX10_tellsUntangled 49 = .ok (.getfield 94, 3) := by decide +kernel
theorem dX10_tellsUntangled_52 : decode cX10_tellsUntangled 52 = .ok (.ireturn, 1) := by decide +kernel
theorem dX10_untangled_0 : decode cX10_untangled 0 = .ok (.aload_n 0, 1) := by decide +kernel
theorem dX10_untangled_1 : decode cX10_untangled 1 = .ok (.iconst 0, 1) := by decide +kernel
theorem dX10_untangled_2 : decode cX10_untangled 2 = .ok (.putfield 41, 3) := by decide +kernel
theorem dX10_untangled_5 : decode cX10_untangled 5 = .ok (.iload_n 1, 1) := by decide +kernel
theorem dX10_untangled_6 : decode cX10_untangled 6 = .ok (.iconst 0, 1) := by decide +kernel
theorem dX10_untangled_7 : decode cX10_untangled 7 = .ok (.iconst 3, 1) := by decide +kernel
theorem dX10_untangled_8 : decode cX10_untangled 8 = .ok (.invokestatic 45, 3) := by decide +kernel
theorem dX10_untangled_11 : decode cX10_untangled 11 = .ok (.ifCond .eq 11, 3) := by decide +kernel
theorem dX10_untangled_14 : decode cX10_untangled 14 = .ok (.aload_n 0, 1) := by decide +kernel
theorem dX10_untangled_15 : decode cX10_untangled 15 = .ok (.iload_n 1, 1) := by decide +kernel
theorem dX10_untangled_16 : decode cX10_untangled 16 = .ok (.invokevirtual 196, 3) := by decide +kernel
theorem dX10_untangled_19 : decode cX10_untangled 19 = .ok (.goto 8, 3) := by decide +kernel
theorem dX10_untangled_22 : decode cX10_untangled 22 = .ok (.aload_n 0, 1) := by decide +kernel
theorem dX10_untangled_23 : decode cX10_untangled 23 = .ok (.iconst 1, 1) := by decide +kernel
theorem dX10_untangled_24 : decode cX10_untangled 24 = .ok (.invokevirtual 52, 3) := by decide +kernel
theorem dX10_untangled_27 : decode cX10_untangled 27 = .ok (.ireturn, 1) := by decide +kernel
theorem dX10_tellsLeft_0 : decode cX10_tellsLeft 0 = .ok (.aload_n 0, 1) := by decide +kernel
theorem dX10_tellsLeft_1 : decode cX10_tellsLeft 1 = .ok (.invokevirtual 115, 3) := by decide +kernel
theorem dX10_tellsLeft_4 : decode cX10_tellsLeft 4 = .ok (.aload_n 0, 1) := by decide +kernel
theorem dX10_tellsLeft_5 : decode cX10_tellsLeft 5 = .ok (.invokevirtual 190, 3) := by decide +kernel
theorem dX10_tellsLeft_8 : decode cX10_tellsLeft 8 = .ok (.ifCond .eq 23, 3) := by decide +kernel
theorem dX10_tellsLeft_11 : decode cX10_tellsLeft 11 = .ok (.iload_n 1, 1) := by decide +kernel
theorem dX10_tellsLeft_12 : decode cX10_tellsLeft 12 = .ok (.aload_n 0, 1) := by decide +kernel
theorem dX10_tellsLeft_13 : decode cX10_tellsLeft 13 = .ok (.getfield 59, 3) := by decide +kernel
theorem dX10_tellsLeft_16 : decode cX10_tellsLeft 16 = .ok (.if_icmp .ge 15, 3) := by decide +kernel
theorem dX10_tellsLeft_19 : decode cX10_tellsLeft 19 = .ok (.aload_n 0, 1) := by decide +kernel
theorem dX10_tellsLeft_20 : decode cX10_tellsLeft 20 = .ok (.getfield 22, 3) := by decide +kernel
theorem dX10_tellsLeft_23 : decode cX10_tellsLeft 23 = .ok (.iload_n 1, 1) := by decide +kernel
theorem dX10_tellsLeft_24 : decode cX10_tellsLeft 24 = .ok (.iaload, 1) := by decide +kernel
theorem dX10_tellsLeft_25 : decode cX10_tellsLeft 25 = .ok (.bipush 10, 2) := by decide +kernel
theorem dX10_tellsLeft_27 : decode cX10_tellsLeft 27 = .ok (.iadd, 1) := by decide +kernel
theorem dX10_tellsLeft_28 : decode cX10_tellsLeft 28 = .ok (.goto 4, 3) := by decide +kernel
theorem dX10_tellsLeft_31 : decode cX10_tellsLeft 31 = .ok (.iconst (-1), 1) := by decide +kernel
theorem dX10_tellsLeft_32 : decode cX10_tellsLeft 32 = .ok (.ireturn, 1) := by decide +kernel
theorem dX10_left_0 : decode cX10_left 0 = .ok (.aload_n 0, 1) := by decide +kernel
theorem dX10_left_1 : decode cX10_left 1 = .ok (.iconst 0, 1) := by decide +kernel
theorem dX10_left_2 : decode cX10_left 2 = .ok (.putfield 41, 3) := by decide +kernel
theorem dX10_left_5 : decode cX10_left 5 = .ok (.iload_n 1, 1) := by decide +kernel
theorem dX10_left_6 : decode cX10_left 6 = .ok (.ifCond .ge 11, 3) := by decide +kernel
theorem dX10_left_9 : decode cX10_left 9 = .ok (.aload_n 0, 1) := by decide +kernel
theorem dX10_left_10 : decode cX10_left 10 = .ok (.iconst 1, 1) := by decide +kernel
theorem dX10_left_11 : decode cX10_left 11 = .ok (.invokevirtual 52, 3) := by decide +kernel
theorem dX10_left_14 : decode cX10_left 14 = .ok (.goto 8, 3) := by decide +kernel
theorem dX10_left_17 : decode cX10_left 17 = .ok (.aload_n 0, 1) := by decide +kernel
theorem dX10_left_18 : decode cX10_left 18 = .ok (.iload_n 1, 1) := by decide +kernel
theorem dX10_left_19 : decode cX10_left 19 = .ok (.invokevirtual 199, 3) := by decide +kernel
theorem dX10_left_22 : decode cX10_left 22 = .ok (.ireturn, 1) := by decide +kernel
theorem dX10_tellsSame_0 : decode cX10_tellsSame 0 = .ok (.aload_n 0, 1) := by decide +kernel
theorem dX10_tellsSame_1 : decode cX10_tellsSame 1 = .ok (.iconst 0, 1) := by decide +kernel
theorem dX10_tellsSame_2 : decode cX10_tellsSame 2 = .ok (.putfield 59, 3) := by decide +kernel
theorem dX10_tellsSame_5 : decode cX10_tellsSame 5 = .ok (.aload_n 0, 1) := by decide +kernel
theorem dX10_tellsSame_6 : decode cX10_tellsSame 6 = .ok (.getfield 16, 3) := by decide +kernel
theorem dX10_tellsSame_9 : decode cX10_tellsSame 9 = .ok (.iconst 0, 1) := by decide +kernel
theorem dX10_tellsSame_10 : decode cX10_tellsSame 10 = .ok (.iaload, 1) := by decide +kernel
theorem dX10_tellsSame_11 : decode cX10_tellsSame 11 = .ok (.iconst 1, 1) := by decide +kernel
theorem dX10_tellsSame_12 : decode cX10_tellsSame 12 = .ok (.isub, 1) := by decide +kernel
theorem dX10_tellsSame_13 : decode cX10_tellsSame 13 = .ok (.istore_n 1, 1) := by decide +kernel
theorem dX10_tellsSame_14 : decode cX10_tellsSame 14 = .ok (.iload_n 1, 1) := by decide +kernel
theorem dX10_tellsSame_15 : decode cX10_tellsSame 15 = .ok (.ifCond .lt 37, 3) := by decide +kernel
theorem dX10_tellsSame_18 : decode cX10_tellsSame 18 = .ok (.aload_n 0, 1) := by decide +kernel
theorem dX10_tellsSame_19 : decode cX10_tellsSame 19 = .ok (.getfield 22, 3) := by decide +kernel
theorem dX10_tellsSame_22 : decode cX10_tellsSame 22 = .ok (.aload_n 0, 1) := by decide +kernel
theorem dX10_tellsSame_23 : decode cX10_tellsSame 23 = .ok (.getfield 59, 3) := by decide +kernel
theorem dX10_tellsSame_26 : decode cX10_tellsSame 26 = .ok (.aload_n 0, 1) := by decide +kernel
theorem dX10_tellsSame_27 : decode cX10_tellsSame 27 = .ok (.getfield 16, 3) := by decide +kernel
theorem dX10_tellsSame_30 : decode cX10_tellsSame 30 = .ok (.iconst 2, 1) := by decide +kernel
theorem dX10_tellsSame_31 : decode cX10_tellsSame 31 = .ok (.iload_n 1, 1) := by decide +kernel
theorem dX10_tellsSame_32 : decode cX10_tellsSame 32 = .ok (.iadd, 1) := by decide +kernel
theorem dX10_tellsSame_33 : decode cX10_tellsSame 33 = .ok (.iaload, 1) := by decide +kernel
theorem dX10_tellsSame_34 : decode cX10_tellsSame 34 = .ok (.ineg, 1) := by decide +kernel
theorem dX10_tellsSame_35 : decode cX10_tellsSame 35 = .ok (.iastore, 1) := by decide +kernel
theorem dX10_tellsSame_36 : decode cX10_tellsSame 36 = .ok (.aload_n 0, 1) := by decide +kernel
theorem dX10_tellsSame_37 : decode cX10_tellsSame 37 = .ok (.dup, 1) := by decide +kernel
theorem dX10_tellsSame_38 : decode cX10_tellsSame 38 = .ok (.getfield 59, 3) := by decide +kernel
theorem dX10_tellsSame_41 : decode cX10_tellsSame 41 = .ok (.iconst 1, 1) := by decide +kernel
theorem dX10_tellsSame_42 : decode cX10_tellsSame 42 = .ok (.iadd, 1) := by decide +kernel
theorem dX10_tellsSame_43 : decode cX10_tellsSame 43 = .ok (.putfield 59, 3) := by decide +kernel
theorem dX10_tellsSame_46 : decode cX10_tellsSame 46 = .ok (.iinc 1 (-1), 3) := by decide +kernel
theorem dX10_tellsSame_49 : decode cX10_tellsSame 49 = .ok (.goto (-35), 3) := by decide +kernel
theorem dX10_tellsSame_52 : decode cX10_tellsSame 52 = .ok (.iconst 0, 1) := by decide +kernel
theorem dX10_tellsSame_53 : decode cX10_tellsSame 53 = .ok (.istore_n 1, 1) := by decide +kernel
theorem dX10_tellsSame_54 : decode cX10_tellsSame 54 = .ok (.iload_n 1, 1) := by decide +kernel
theorem dX10_tellsSame_55 : decode cX10_tellsSame 55 = .ok (.aload_n 0, 1) := by decide +kernel
theorem dX10_tellsSame_56 : decode cX10_tellsSame 56 = .ok (.getfield 7, 3) := by decide +kernel
theorem dX10_tellsSame_59 : decode cX10_tellsSame 59 = .ok (.iconst 0, 1) := by decide +kernel
theorem dX10_tellsSame_60 : decode cX10_tellsSame 60 = .ok (.iaload, 1) := by decide +kernel
theorem dX10_tellsSame_61 : decode cX10_tellsSame 61 = .ok (.if_icmp .ge 33, 3) := by decide +kernel
theorem dX10_tellsSame_64 : decode cX10_tellsSame 64 = .ok (.aload_n 0, 1) := by decide +kernel
theorem dX10_tellsSame_65 : decode cX10_tellsSame 65 = .ok (.getfield 22, 3) := by decide +kernel
theorem dX10_tellsSame_68 : decode cX10_tellsSame 68 = .ok (.aload_n 0, 1) := by decide +kernel
theorem dX10_tellsSame_69 : decode cX10_tellsSame 69 = .ok (.getfield 59, 3) := by decide +kernel
theorem dX10_tellsSame_72 : decode cX10_tellsSame 72 = .ok (.aload_n 0, 1) := by decide +kernel
theorem dX10_tellsSame_73 : decode cX10_tellsSame 73 = .ok (.iload_n 1, 1) := by decide +kernel
theorem dX10_tellsSame_74 : decode cX10_tellsSame 74 = .ok (.invokevirtual 62, 3) := by decide +kernel
theorem dX10_tellsSame_77 : decode cX10_tellsSame 77 = .ok (.iastore, 1) := by decide +kernel
theorem dX10_tellsSame_78 : decode cX10_tellsSame 78 = .ok (.aload_n 0, 1) := by decide +kernel
theorem dX10_tellsSame_79 : decode cX10_tellsSame 79 = .ok (.dup, 1) := by decide +kernel
theorem dX10_tellsSame_80 : decode cX10_tellsSame 80 = .ok (.getfield 59, 3) := by decide +kernel
theorem dX10_tellsSame_83 : decode cX10_tellsSame 83 = .ok (.iconst 1, 1) := by decide +kernel
theorem dX10_tellsSame_84 : decode cX10_tellsSame 84 = .ok (.iadd, 1) := by decide +kernel
theorem dX10_tellsSame_85 : decode cX10_tellsSame 85 = .ok (.putfield 59, 3) := by decide +kernel
theorem dX10_tellsSame_88 : decode cX10_tellsSame 88 = .ok (.iinc 1 1, 3) := by decide +kernel
theorem dX10_tellsSame_91 : decode cX10_tellsSame 91 = .ok (.goto (-37), 3) := by decide +kernel
theorem dX10_tellsSame_94 : decode cX10_tellsSame 94 = .ok (.aload_n 0, 1) := by decide +kernel
theorem dX10_tellsSame_95 : decode cX10_tellsSame 95 = .ok (.invokevirtual 190, 3) := by decide +kernel
theorem dX10_tellsSame_98 : decode cX10_tellsSame 98 = .ok (.ifCond .ne 5, 3) := by decide +kernel
theorem dX10_tellsSame_101 : decode cX10_tellsSame 101 = .ok (.iconst (-1), 1) := by decide +kernel
theorem dX10_tellsSame_102 : decode cX10_tellsSame 102 = .ok (.ireturn, 1) := by decide +kernel
theorem dX10_tellsSame_103 : decode cX10_tellsSame 103 = .ok (.aload_n 0, 1) := by decide +kernel
theorem dX10_tellsSame_104 : decode cX10_tellsSame 104 = .ok (.getfield 59, 3) := by decide +kernel
theorem dX10_tellsSame_107 : decode cX10_tellsSame 107 = .ok (.ifCond .ne 7, 3) := by decide +kernel
theorem dX10_tellsSame_110 : decode cX10_tellsSame 110 = .ok (.iconst 1, 1) := by decide +kernel
theorem dX10_tellsSame_111 : decode cX10_tellsSame 111 = .ok (.goto 4, 3) := by decide +kernel
theorem dX10_tellsSame_114 : decode cX10_tellsSame 114 = .ok (.iconst 0, 1) := by decide +kernel
theorem dX10_tellsSame_115 : decode cX10_tellsSame 115 = .ok (.ireturn, 1) := by decide +kernel
theorem dX10_same_0 : decode cX10_same 0 = .ok (.aload_n 0, 1) := by decide +kernel
theorem dX10_same_1 : decode cX10_same 1 = .ok (.iconst 0, 1) := by decide +kernel
theorem dX10_same_2 : decode cX10_same 2 = .ok (.putfield 41, 3) := by decide +kernel
theorem dX10_same_5 : decode cX10_same 5 = .ok (.aload_n 0, 1) := by decide +kernel
theorem dX10_same_6 : decode cX10_same 6 = .ok (.getfield 37, 3) := by decide +kernel
theorem dX10_same_9 : decode cX10_same 9 = .ok (.ifCond .eq 10, 3) := by decide +kernel
theorem dX10_same_12 : decode cX10_same 12 = .ok (.aload_n 0, 1) := by decide +kernel
theorem dX10_same_13 : decode cX10_same 13 = .ok (.invokevirtual 202, 3) := by decide +kernel
theorem dX10_same_16 : decode cX10_same 16 = .ok (.goto 8, 3) := by decide +kernel
theorem dX10_same_19 : decode cX10_same 19 = .ok (.aload_n 0, 1) := by decide +kernel
theorem dX10_same_20 : decode cX10_same 20 = .ok (.iconst 1, 1) := by decide +kernel
theorem dX10_same_21 : decode cX10_same 21 = .ok (.invokevirtual 52, 3) := by decide +kernel
theorem dX10_same_24 : decode cX10_same 24 = .ok (.ireturn, 1) := by decide +kernel
theorem dX10_tellsPossible_0 : decode cX10_tellsPossible 0 = .ok (.aload_n 0, 1) := by decide +kernel
theorem dX10_tellsPossible_1 : decode cX10_tellsPossible 1 = .ok (.invokevirtual 115, 3) := by decide +kernel
theorem dX10_tellsPossible_4 : decode cX10_tellsPossible 4 = .ok (.aload_n 0, 1) := by decide +kernel
theorem dX10_tellsPossible_5 : decode cX10_tellsPossible 5 = .ok (.iload_n 1, 1) := by decide +kernel
theorem dX10_tellsPossible_6 : decode cX10_tellsPossible 6 = .ok (.invokevirtual 205, 3) := by decide +kernel
theorem dX10_tellsPossible_9 : decode cX10_tellsPossible 9 = .ok (.ireturn, 1) := by decide +kernel
theorem dX10_possible_0 : decode cX10_possible 0 = .ok (.aload_n 0, 1) := by decide +kernel
theorem dX10_possible_1 : decode cX10_possible 1 = .ok (.iconst 0, 1) := by decide +kernel
theorem dX10_possible_2 : decode cX10_possible 2 = .ok (.putfield 41, 3) := by decide +kernel
theorem dX10_possible_5 : decode cX10_possible 5 = .ok (.iload_n 1, 1) := by decide +kernel
theorem dX10_possible_6 : decode cX10_possible 6 = .ok (.invokestatic 112, 3) := by decide +kernel
theorem dX10_possible_9 : decode cX10_possible 9 = .ok (.ifCond .eq 11, 3) := by decide +kernel
theorem dX10_possible_12 : decode cX10_possible 12 = .ok (.aload_n 0, 1) := by decide +kernel
theorem dX10_possible_13 : decode cX10_possible 13 = .ok (.iload_n 1, 1) := by decide +kernel
theorem dX10_possible_14 : decode cX10_possible 14 = .ok (.invokevirtual 208, 3) := by decide +kernel
theorem dX10_possible_17 : decode cX10_possible 17 = .ok (.goto 8, 3) := by decide +kernel
theorem dX10_possible_20 : decode cX10_possible 20 = .ok (.aload_n 0, 1) := by decide +kernel
theorem dX10_possible_21 : decode cX10_possible 21 = .ok (.iconst 1, 1) := by decide +kernel
theorem dX10_possible_22 : decode cX10_possible 22 = .ok (.invokevirtual 52, 3) := by decide +kernel
theorem dX10_possible_25 : decode cX10_possible 25 = .ok (.ireturn, 1) := by decide +kernel
theorem dX10_tellsBest_0 : decode cX10_tellsBest 0 = .ok (.aload_n 0, 1) := by decide +kernel
theorem dX10_tellsBest_1 : decode cX10_tellsBest 1 = .ok (.iconst 0, 1) := by decide +kernel
theorem dX10_tellsBest_2 : decode cX10_tellsBest 2 = .ok (.invokevirtual 208, 3) := by decide +kernel
theorem dX10_tellsBest_5 : decode cX10_tellsBest 5 = .ok (.istore_n 1, 1) := by decide +kernel
theorem dX10_tellsBest_6 : decode cX10_tellsBest 6 = .ok (.iconst 1, 1) := by decide +kernel
theorem dX10_tellsBest_7 : decode cX10_tellsBest 7 = .ok (.istore_n 2, 1) := by decide +kernel
theorem dX10_tellsBest_8 : decode cX10_tellsBest 8 = .ok (.iload_n 2, 1) := by decide +kernel
theorem dX10_tellsBest_9 : decode cX10_tellsBest 9 = .ok (.iconst 3, 1) := by decide +kernel
theorem dX10_tellsBest_10 : decode cX10_tellsBest 10 = .ok (.if_icmp .ge 62, 3) := by decide +kernel
theorem dX10_tellsBest_13 : decode cX10_tellsBest 13 = .ok (.iconst 0, 1) := by decide +kernel
theorem dX10_tellsBest_14 : decode cX10_tellsBest 14 = .ok (.istore_n 3, 1) := by decide +kernel
theorem dX10_tellsBest_15 : decode cX10_tellsBest 15 = .ok (.iload_n 3, 1) := by decide +kernel
theorem dX10_tellsBest_16 : decode cX10_tellsBest 16 = .ok (.aload_n 0, 1) := by decide +kernel
theorem dX10_tellsBest_17 : decode cX10_tellsBest 17 = .ok (.getfield 7, 3) := by decide +kernel
theorem dX10_tellsBest_20 : decode cX10_tellsBest 20 = .ok (.iconst 0, 1) := by decide +kernel
theorem dX10_tellsBest_21 : decode cX10_tellsBest 21 = .ok (.iaload, 1) := by decide +kernel
theorem dX10_tellsBest_22 : decode cX10_tellsBest 22 = .ok (.if_icmp .ge 44, 3) := by decide +kernel
theorem dX10_tellsBest_25 : decode cX10_tellsBest 25 = .ok (.aload_n 0, 1) := by decide +kernel
theorem dX10_tellsBest_26 : decode cX10_tellsBest 26 = .ok (.invokevirtual 115, 3) := by decide +kernel
theorem dX10_tellsBest_29 : decode cX10_tellsBest 29 = .ok (.aload_n 0, 1) := by decide +kernel
theorem dX10_tellsBest_30 : decode cX10_tellsBest 30 = .ok (.iload_n 2, 1) := by decide +kernel
theorem dX10_tellsBest_31 : decode cX10_tellsBest 31 = .ok (.iload_n 3, 1) := by decide +kernel
theorem dX10_tellsBest_32 : decode cX10_tellsBest 32 = .ok (.invokevirtual 78, 3) := by decide +kernel
theorem dX10_tellsBest_35 : decode cX10_tellsBest 35 = .ok (.ifCond .ne 25, 3) := by decide +kernel
theorem dX10_tellsBest_38 : decode cX10_tellsBest 38 = .ok (.aload_n 0, 1) := by decide +kernel
theorem dX10_tellsBest_39 : decode cX10_tellsBest 39 = .ok (.iload_n 2, 1) := by decide +kernel
theorem dX10_tellsBest_40 : decode cX10_tellsBest 40 = .ok (.iload_n 3, 1) := by decide +kernel
theorem dX10_tellsBest_41 : decode cX10_tellsBest 41 = .ok (.invokevirtual 118, 3) := by decide +kernel
theorem dX10_tellsBest_44 : decode cX10_tellsBest 44 = .ok (.aload_n 0, 1) := by decide +kernel
theorem dX10_tellsBest_45 : decode cX10_tellsBest 45 = .ok (.iconst 0, 1) := by decide +kernel
theorem dX10_tellsBest_46 : decode cX10_tellsBest 46 = .ok (.invokevirtual 205, 3) := by decide +kernel
theorem dX10_tellsBest_49 : decode cX10_tellsBest 49 = .ok (.iload_n 1, 1) := by decide +kernel
theorem dX10_tellsBest_50 : decode cX10_tellsBest 50 = .ok (.if_icmp .le 10, 3) := by decide +kernel
theorem dX10_tellsBest_53 : decode cX10_tellsBest 53 = .ok (.bipush 31, 2) := by decide +kernel
theorem dX10_tellsBest_55 : decode cX10_tellsBest 55 = .ok (.iload_n 2, 1) := by decide +kernel
theorem dX10_tellsBest_56 : decode cX10_tellsBest 56 = .ok (.imul, 1) := by decide +kernel
theorem dX10_tellsBest_57 : decode cX10_tellsBest 57 = .ok (.iload_n 3, 1) := by decide +kernel
theorem dX10_tellsBest_58 : decode cX10_tellsBest 58 = .ok (.iadd, 1) := by decide +kernel
theorem dX10_tellsBest_59 : decode cX10_tellsBest 59 = .ok (.ireturn, 1) := by decide +kernel
theorem dX10_tellsBest_60 : decode cX10_tellsBest 60 = .ok (.iinc 3 1, 3) := by decide +kernel
theorem dX10_tellsBest_63 : decode cX10_tellsBest 63 = .ok (.goto (-48), 3) := by decide +kernel
theorem dX10_tellsBest_66 : decode cX10_tellsBest 66 = .ok (.iinc 2 1, 3) := by decide +kernel
theorem dX10_tellsBest_69 : decode cX10_tellsBest 69 = .ok (.goto (-61), 3) := by decide +kernel
theorem dX10_tellsBest_72 : decode cX10_tellsBest 72 = .ok (.iconst (-1), 1) := by decide +kernel
theorem dX10_tellsBest_73 : decode cX10_tellsBest 73 = .ok (.ireturn, 1) := by decide +kernel
theorem dX10_bestMove_0 : decode cX10_bestMove 0 = .ok (.aload_n 0, 1) := by decide +kernel
theorem dX10_bestMove_1 : decode cX10_bestMove 1 = .ok (.iconst 0, 1) := by decide +kernel
theorem dX10_bestMove_2 : decode cX10_bestMove 2 = .ok (.putfield 41, 3) := by decide +kernel
theorem dX10_bestMove_5 : decode cX10_bestMove 5 = .ok (.aload_n 0, 1) := by decide +kernel
theorem dX10_bestMove_6 : decode cX10_bestMove 6 = .ok (.invokevirtual 211, 3) := by decide +kernel
theorem dX10_bestMove_9 : decode cX10_bestMove 9 = .ok (.ireturn, 1) := by decide +kernel
theorem dX10_share_0 : decode cX10_share 0 = .ok (.aload_n 0, 1) := by decide +kernel
theorem dX10_share_1 : decode cX10_share 1 = .ok (.getfield 7, 3) := by decide +kernel
theorem dX10_share_4 : decode cX10_share 4 = .ok (.iconst 0, 1) := by decide +kernel
theorem dX10_share_5 : decode cX10_share 5 = .ok (.iaload, 1) := by decide +kernel
theorem dX10_share_6 : decode cX10_share 6 = .ok (.ifCond .ne 5, 3) := by decide +kernel
theorem dX10_share_9 : decode cX10_share 9 = .ok (.dconst 0, 1) := by decide +kernel
theorem dX10_share_10 : decode cX10_share 10 = .ok (.dreturn, 1) := by decide +kernel
theorem dX10_share_11 : decode cX10_share 11 = .ok (.aload_n 0, 1) := by decide +kernel
theorem dX10_share_12 : decode cX10_share 12 = .ok (.invokevirtual 115, 3) := by decide +kernel
theorem dX10_share_15 : decode cX10_share 15 = .ok (.aload_n 0, 1) := by decide +kernel
theorem dX10_share_16 : decode cX10_share 16 = .ok (.invokevirtual 125, 3) := by decide +kernel
theorem dX10_share_19 : decode cX10_share 19 = .ok (.i2d, 1) := by decide +kernel
theorem dX10_share_20 : decode cX10_share 20 = .ok (.aload_n 0, 1) := by decide +kernel
theorem dX10_share_21 : decode cX10_share 21 = .ok (.getfield 7, 3) := by decide +kernel
theorem dX10_share_24 : decode cX10_share 24 = .ok (.iconst 0, 1) := by decide +kernel
theorem dX10_share_25 : decode cX10_share 25 = .ok (.iaload, 1) := by decide +kernel
theorem dX10_share_26 : decode cX10_share 26 = .ok (.i2d, 1) := by decide +kernel
theorem dX10_share_27 : decode cX10_share 27 = .ok (.ddiv, 1) := by decide +kernel
theorem dX10_share_28 : decode cX10_share 28 = .ok (.dreturn, 1) := by decide +kernel
theorem dX10_slack_0 : decode cX10_slack 0 = .ok (.aload_n 0, 1) := by decide +kernel
theorem dX10_slack_1 : decode cX10_slack 1 = .ok (.iconst 0, 1) := by decide +kernel
theorem dX10_slack_2 : decode cX10_slack 2 = .ok (.putfield 41, 3) := by decide +kernel
theorem dX10_slack_5 : decode cX10_slack 5 = .ok (.aload_n 0, 1) := by decide +kernel
theorem dX10_slack_6 : decode cX10_slack 6 = .ok (.invokevirtual 214, 3) := by decide +kernel
theorem dX10_slack_9 : decode cX10_slack 9 = .ok (.dreturn, 1) := by decide +kernel
theorem dX10_mix_0 : decode cX10_mix 0 = .ok (.aload_n 0, 1) := by decide +kernel
theorem dX10_mix_1 : decode cX10_mix 1 = .ok (.ldc2_w 218, 3) := by decide +kernel
theorem dX10_mix_4 : decode cX10_mix 4 = .ok (.aload_n 0, 1) := by decide +kernel
theorem dX10_mix_5 : decode cX10_mix 5 = .ok (.getfield 220, 3) := by decide +kernel
theorem dX10_mix_8 : decode cX10_mix 8 = .ok (.lmul, 1) := by decide +kernel
theorem dX10_mix_9 : decode cX10_mix 9 = .ok (.lload_n 1, 1) := by decide +kernel
theorem dX10_mix_10 : decode cX10_mix 10 = .ok (.ladd, 1) := by decide +kernel
theorem dX10_mix_11 : decode cX10_mix 11 = .ok (.putfield 220, 3) := by decide +kernel
theorem dX10_mix_14 : decode cX10_mix 14 = .ok (.return_, 1) := by decide +kernel
theorem dX10_mixMeasure_0 : decode cX10_mixMeasure 0 = .ok (.iconst 0, 1) := by decide +kernel
theorem dX10_mixMeasure_1 : decode cX10_mixMeasure 1 = .ok (.istore_n 1, 1) := by decide +kernel
theorem dX10_mixMeasure_2 : decode cX10_mixMeasure 2 = .ok (.iload_n 1, 1) := by decide +kernel
theorem dX10_mixMeasure_3 : decode cX10_mixMeasure 3 = .ok (.bipush 16, 2) := by decide +kernel
theorem dX10_mixMeasure_5 : decode cX10_mixMeasure 5 = .ok (.if_icmp .ge 39, 3) := by decide +kernel
theorem dX10_mixMeasure_8 : decode cX10_mixMeasure 8 = .ok (.aload_n 0, 1) := by decide +kernel
theorem dX10_mixMeasure_9 : decode cX10_mixMeasure 9 = .ok (.invokevirtual 175, 3) := by decide +kernel
theorem dX10_mixMeasure_12 : decode cX10_mixMeasure 12 = .ok (.aload_n 0, 1) := by decide +kernel
theorem dX10_mixMeasure_13 : decode cX10_mixMeasure 13 = .ok (.aload_n 0, 1) := by decide +kernel
theorem dX10_mixMeasure_14 : decode cX10_mixMeasure 14 = .ok (.getfield 31, 3) := by decide +kernel
theorem dX10_mixMeasure_17 : decode cX10_mixMeasure 17 = .ok (.iload_n 1, 1) := by decide +kernel
theorem dX10_mixMeasure_18 : decode cX10_mixMeasure 18 = .ok (.iaload, 1) := by decide +kernel
theorem dX10_mixMeasure_19 : decode cX10_mixMeasure 19 = .ok (.i2l, 1) := by decide +kernel
theorem dX10_mixMeasure_20 : decode cX10_mixMeasure 20 = .ok (.invokevirtual 224, 3) := by decide +kernel
theorem dX10_mixMeasure_23 : decode cX10_mixMeasure 23 = .ok (.aload_n 0, 1) := by decide +kernel
theorem dX10_mixMeasure_24 : decode cX10_mixMeasure 24 = .ok (.invokevirtual 178, 3) := by decide +kernel
theorem dX10_mixMeasure_27 : decode cX10_mixMeasure 27 = .ok (.aload_n 0, 1) := by decide +kernel
theorem dX10_mixMeasure_28 : decode cX10_mixMeasure 28 = .ok (.aload_n 0, 1) := by decide +kernel
theorem dX10_mixMeasure_29 : decode cX10_mixMeasure 29 = .ok (.getfield 31, 3) := by decide +kernel
theorem dX10_mixMeasure_32 : decode cX10_mixMeasure 32 = .ok (.iload_n 1, 1) := by decide +kernel
theorem dX10_mixMeasure_33 : decode cX10_mixMeasure 33 = .ok (.iaload, 1) := by decide +kernel
theorem dX10_mixMeasure_34 : decode cX10_mixMeasure 34 = .ok (.i2l, 1) := by decide +kernel
theorem dX10_mixMeasure_35 : decode cX10_mixMeasure 35 = .ok (.invokevirtual 224, 3) := by decide +kernel
theorem dX10_mixMeasure_38 : decode cX10_mixMeasure 38 = .ok (.iinc 1 1, 3) := by decide +kernel
theorem dX10_mixMeasure_41 : decode cX10_mixMeasure 41 = .ok (.goto (-39), 3) := by decide +kernel
theorem dX10_mixMeasure_44 : decode cX10_mixMeasure 44 = .ok (.return_, 1) := by decide +kernel
theorem dX10_digest_0 : decode cX10_digest 0 = .ok (.aload_n 0, 1) := by decide +kernel
theorem dX10_digest_1 : decode cX10_digest 1 = .ok (.iconst 0, 1) := by decide +kernel
theorem dX10_digest_2 : decode cX10_digest 2 = .ok (.putfield 41, 3) := by decide +kernel
theorem dX10_digest_5 : decode cX10_digest 5 = .ok (.aload_n 0, 1) := by decide +kernel
theorem dX10_digest_6 : decode cX10_digest 6 = .ok (.ldc2_w 228, 3) := by decide +kernel
theorem dX10_digest_9 : decode cX10_digest 9 = .ok (.putfield 220, 3) := by decide +kernel
theorem dX10_digest_12 : decode cX10_digest 12 = .ok (.iconst 0, 1) := by decide +kernel
theorem dX10_digest_13 : decode cX10_digest 13 = .ok (.istore_n 1, 1) := by decide +kernel
theorem dX10_digest_14 : decode cX10_digest 14 = .ok (.iload_n 1, 1) := by decide +kernel
theorem dX10_digest_15 : decode cX10_digest 15 = .ok (.bipush 8, 2) := by decide +kernel
theorem dX10_digest_17 : decode cX10_digest 17 = .ok (.if_icmp .ge 19, 3) := by decide +kernel
theorem dX10_digest_20 : decode cX10_digest 20 = .ok (.aload_n 0, 1) := by decide +kernel
theorem dX10_digest_21 : decode cX10_digest 21 = .ok (.aload_n 0, 1) := by decide +kernel
theorem dX10_digest_22 : decode cX10_digest 22 = .ok (.iload_n 1, 1) := by decide +kernel
theorem dX10_digest_23 : decode cX10_digest 23 = .ok (.invokevirtual 187, 3) := by decide +kernel
theorem dX10_digest_26 : decode cX10_digest 26 = .ok (.i2l, 1) := by decide +kernel
theorem dX10_digest_27 : decode cX10_digest 27 = .ok (.invokevirtual 224, 3) := by decide +kernel
theorem dX10_digest_30 : decode cX10_digest 30 = .ok (.iinc 1 1, 3) := by decide +kernel
theorem dX10_digest_33 : decode cX10_digest 33 = .ok (.goto (-19), 3) := by decide +kernel
theorem dX10_digest_36 : decode cX10_digest 36 = .ok (.iconst 0, 1) := by decide +kernel
theorem dX10_digest_37 : decode cX10_digest 37 = .ok (.istore_n 1, 1) := by decide +kernel
theorem dX10_digest_38 : decode cX10_digest 38 = .ok (.iload_n 1, 1) := by decide +kernel
theorem dX10_digest_39 : decode cX10_digest 39 = .ok (.aload_n 0, 1) := by decide +kernel
theorem dX10_digest_40 : decode cX10_digest 40 = .ok (.getfield 7, 3) := by decide +kernel
theorem dX10_digest_43 : decode cX10_digest 43 = .ok (.iconst 0, 1) := by decide +kernel
theorem dX10_digest_44 : decode cX10_digest 44 = .ok (.iaload, 1) := by decide +kernel
theorem dX10_digest_45 : decode cX10_digest 45 = .ok (.if_icmp .ge 22, 3) := by decide +kernel
theorem dX10_digest_48 : decode cX10_digest 48 = .ok (.aload_n 0, 1) := by decide +kernel
theorem dX10_digest_49 : decode cX10_digest 49 = .ok (.aload_n 0, 1) := by decide +kernel
theorem dX10_digest_50 : decode cX10_digest 50 = .ok (.iload_n 1, 1) := by decide +kernel
theorem dX10_digest_51 : decode cX10_digest 51 = .ok (.invokevirtual 62, 3) := by decide +kernel
theorem dX10_digest_54 : decode cX10_digest 54 = .ok (.bipush 10, 2) := by decide +kernel
theorem dX10_digest_56 : decode cX10_digest 56 = .ok (.iadd, 1) := by decide +kernel
theorem dX10_digest_57 : decode cX10_digest 57 = .ok (.i2l, 1) := by decide +kernel
theorem dX10_digest_58 : decode cX10_digest 58 = .ok (.invokevirtual 224, 3) := by decide +kernel
theorem dX10_digest_61 : decode cX10_digest 61 = .ok (.iinc 1 1, 3) := by decide +kernel
theorem dX10_digest_64 : decode cX10_digest 64 = .ok (.goto (-26), 3) := by decide +kernel
theorem dX10_digest_67 : decode cX10_digest 67 = .ok (.iconst 0, 1) := by decide +kernel
theorem dX10_digest_68 : decode cX10_digest 68 = .ok (.istore_n 1, 1) := by decide +kernel
theorem dX10_digest_69 : decode cX10_digest 69 = .ok (.iload_n 1, 1) := by decide +kernel
theorem dX10_digest_70 : decode cX10_digest 70 = .ok (.iconst 4, 1) := by decide +kernel
theorem dX10_digest_71 : decode cX10_digest 71 = .ok (.if_icmp .ge 25, 3) := by decide +kernel
theorem dX10_digest_74 : decode cX10_digest 74 = .ok (.aload_n 0, 1) := by decide +kernel
theorem dX10_digest_75 : decode cX10_digest 75 = .ok (.aload_n 0, 1) := by decide +kernel
theorem dX10_digest_76 : decode cX10_digest 76 = .ok (.aload_n 0, 1) := by decide +kernel
theorem dX10_digest_77 : decode cX10_digest 77 = .ok (.getfield 7, 3) := by decide +kernel
theorem dX10_digest_80 : decode cX10_digest 80 = .ok (.iconst 0, 1) := by decide +kernel
theorem dX10_digest_81 : decode cX10_digest 81 = .ok (.iaload, 1) := by decide +kernel
theorem dX10_digest_82 : decode cX10_digest 82 = .ok (.iload_n 1, 1) := by decide +kernel
theorem dX10_digest_83 : decode cX10_digest 83 = .ok (.invokevirtual 155, 3) := by decide +kernel
theorem dX10_digest_86 : decode cX10_digest 86 = .ok (.i2l, 1) := by decide +kernel
theorem dX10_digest_87 : decode cX10_digest 87 = .ok (.invokevirtual 224, 3) := by decide +kernel
theorem dX10_digest_90 : decode cX10_digest 90 = .ok (.iinc 1 1, 3) := by decide +kernel
theorem dX10_digest_93 : decode cX10_digest 93 = .ok (.goto (-24), 3) := by decide +kernel
theorem dX10_digest_96 : decode cX10_digest 96 = .ok (.iconst 0, 1) := by decide +kernel
theorem dX10_digest_97 : decode cX10_digest 97 = .ok (.istore_n 1, 1) := by decide +kernel
theorem dX10_digest_98 : decode cX10_digest 98 = .ok (.iload_n 1, 1) := by decide +kernel
theorem dX10_digest_99 : decode cX10_digest 99 = .ok (.iconst 4, 1) := by decide +kernel
theorem dX10_digest_100 : decode cX10_digest 100 = .ok (.if_icmp .ge 35, 3) := by decide +kernel
theorem dX10_digest_103 : decode cX10_digest 103 = .ok (.iload_n 1, 1) := by decide +kernel
theorem dX10_digest_104 : decode cX10_digest 104 = .ok (.iconst 1, 1) := by decide +kernel
theorem dX10_digest_105 : decode cX10_digest 105 = .ok (.iadd, 1) := by decide +kernel
theorem dX10_digest_106 : decode cX10_digest 106 = .ok (.istore_n 2, 1) := by decide +kernel
theorem dX10_digest_107 : decode cX10_digest 107 = .ok (.iload_n 2, 1) := by decide +kernel
theorem dX10_digest_108 : decode cX10_digest 108 = .ok (.iconst 4, 1) := by decide +kernel
theorem dX10_digest_109 : decode cX10_digest 109 = .ok (.if_icmp .ge 20, 3) := by decide +kernel
theorem dX10_digest_112 : decode cX10_digest 112 = .ok (.aload_n 0, 1) := by decide +kernel
theorem dX10_digest_113 : decode cX10_digest 113 = .ok (.aload_n 0, 1) := by decide +kernel
theorem dX10_digest_114 : decode cX10_digest 114 = .ok (.iload_n 1, 1) := by decide +kernel
theorem dX10_digest_115 : decode cX10_digest 115 = .ok (.iload_n 2, 1) := by decide +kernel
theorem dX10_digest_116 : decode cX10_digest 116 = .ok (.invokevirtual 158, 3) := by decide +kernel
theorem dX10_digest_119 : decode cX10_digest 119 = .ok (.i2l, 1) := by decide +kernel
theorem dX10_digest_120 : decode cX10_digest 120 = .ok (.invokevirtual 224, 3) := by decide +kernel
theorem dX10_digest_123 : decode cX10_digest 123 = .ok (.iinc 2 1, 3) := by decide +kernel
theorem dX10_digest_126 : decode cX10_digest 126 = .ok (.goto (-19), 3) := by decide +kernel
theorem dX10_digest_129 : decode cX10_digest 129 = .ok (.iinc 1 1, 3) := by decide +kernel
theorem dX10_digest_132 : decode cX10_digest 132 = .ok (.goto (-34), 3) := by decide +kernel
theorem dX10_digest_135 : decode cX10_digest 135 = .ok (.aload_n 0, 1) := by decide +kernel
theorem dX10_digest_136 : decode cX10_digest 136 = .ok (.invokevirtual 230, 3) := by decide +kernel
theorem dX10_digest_139 : decode cX10_digest 139 = .ok (.iconst 0, 1) := by decide +kernel
theorem dX10_digest_140 : decode cX10_digest 140 = .ok (.istore_n 1, 1) := by decide +kernel
theorem dX10_digest_141 : decode cX10_digest 141 = .ok (.iload_n 1, 1) := by decide +kernel
theorem dX10_digest_142 : decode cX10_digest 142 = .ok (.iconst 4, 1) := by decide +kernel
theorem dX10_digest_143 : decode cX10_digest 143 = .ok (.if_icmp .ge 19, 3) := by decide +kernel
theorem dX10_digest_146 : decode cX10_digest 146 = .ok (.aload_n 0, 1) := by decide +kernel
theorem dX10_digest_147 : decode cX10_digest 147 = .ok (.aload_n 0, 1) := by decide +kernel
theorem dX10_digest_148 : decode cX10_digest 148 = .ok (.iload_n 1, 1) := by decide +kernel
theorem dX10_digest_149 : decode cX10_digest 149 = .ok (.invokevirtual 196, 3) := by decide +kernel
theorem dX10_digest_152 : decode cX10_digest 152 = .ok (.i2l, 1) := by decide +kernel
theorem dX10_digest_153 : decode cX10_digest 153 = .ok (.invokevirtual 224, 3) := by decide +kernel
theorem dX10_digest_156 : decode cX10_digest 156 = .ok (.iinc 1 1, 3) := by decide +kernel
theorem dX10_digest_159 : decode cX10_digest 159 = .ok (.goto (-18), 3) := by decide +kernel
theorem dX10_digest_162 : decode cX10_digest 162 = .ok (.iconst 0, 1) := by decide +kernel
theorem dX10_digest_163 : decode cX10_digest 163 = .ok (.istore_n 1, 1) := by decide +kernel
theorem dX10_digest_164 : decode cX10_digest 164 = .ok (.iload_n 1, 1) := by decide +kernel
theorem dX10_digest_165 : decode cX10_digest 165 = .ok (.bipush 6, 2) := by decide +kernel
theorem dX10_digest_167 : decode cX10_digest 167 = .ok (.if_icmp .ge 19, 3) := by decide +kernel
theorem dX10_digest_170 : decode cX10_digest 170 = .ok (.aload_n 0, 1) := by decide +kernel
theorem dX10_digest_171 : decode cX10_digest 171 = .ok (.aload_n 0, 1) := by decide +kernel
theorem dX10_digest_172 : decode cX10_digest 172 = .ok (.iload_n 1, 1) := by decide +kernel
theorem dX10_digest_173 : decode cX10_digest 173 = .ok (.invokevirtual 199, 3) := by decide +kernel
theorem dX10_digest_176 : decode cX10_digest 176 = .ok (.i2l, 1) := by decide +kernel
theorem dX10_digest_177 : decode cX10_digest 177 = .ok (.invokevirtual 224, 3) := by decide +kernel
theorem dX10_digest_180 : decode cX10_digest 180 = .ok (.iinc 1 1, 3) := by decide +kernel
theorem dX10_digest_183 : decode cX10_digest 183 = .ok (.goto (-19), 3) := by decide +kernel
theorem dX10_digest_186 : decode cX10_digest 186 = .ok (.iconst 0, 1) := by decide +kernel
theorem dX10_digest_187 : decode cX10_digest 187 = .ok (.istore_n 1, 1) := by decide +kernel
theorem dX10_digest_188 : decode cX10_digest 188 = .ok (.iload_n 1, 1) := by decide +kernel
theorem dX10_digest_189 : decode cX10_digest 189 = .ok (.iconst 3, 1) := by decide +kernel
theorem dX10_digest_190 : decode cX10_digest 190 = .ok (.if_icmp .ge 19, 3) := by decide +kernel
theorem dX10_digest_193 : decode cX10_digest 193 = .ok (.aload_n 0, 1) := by decide +kernel
theorem dX10_digest_194 : decode cX10_digest 194 = .ok (.aload_n 0, 1) := by decide +kernel
theorem dX10_digest_195 : decode cX10_digest 195 = .ok (.iload_n 1, 1) := by decide +kernel
theorem dX10_digest_196 : decode cX10_digest 196 = .ok (.invokevirtual 208, 3) := by decide +kernel
theorem dX10_digest_199 : decode cX10_digest 199 = .ok (.i2l, 1) := by decide +kernel
theorem dX10_digest_200 : decode cX10_digest 200 = .ok (.invokevirtual 224, 3) := by decide +kernel
theorem dX10_digest_203 : decode cX10_digest 203 = .ok (.iinc 1 1, 3) := by decide +kernel
theorem dX10_digest_206 : decode cX10_digest 206 = .ok (.goto (-18), 3) := by decide +kernel
theorem dX10_digest_209 : decode cX10_digest 209 = .ok (.aload_n 0, 1) := by decide +kernel
theorem dX10_digest_210 : decode cX10_digest 210 = .ok (.aload_n 0, 1) := by decide +kernel
theorem dX10_digest_211 : decode cX10_digest 211 = .ok (.invokevirtual 211, 3) := by decide +kernel
theorem dX10_digest_214 : decode cX10_digest 214 = .ok (.i2l, 1) := by decide +kernel
theorem dX10_digest_215 : decode cX10_digest 215 = .ok (.invokevirtual 224, 3) := by decide +kernel
theorem dX10_digest_218 : decode cX10_digest 218 = .ok (.aload_n 0, 1) := by decide +kernel
theorem dX10_digest_219 : decode cX10_digest 219 = .ok (.aload_n 0, 1) := by decide +kernel
theorem dX10_digest_220 : decode cX10_digest 220 = .ok (.invokevirtual 214, 3) := by decide +kernel
theorem dX10_digest_223 : decode cX10_digest 223 = .ok (.invokestatic 233, 3) := by decide +kernel
theorem dX10_digest_226 : decode cX10_digest 226 = .ok (.invokevirtual 224, 3) := by decide +kernel
theorem dX10_digest_229 : decode cX10_digest 229 = .ok (.aload_n 0, 1) := by decide +kernel
theorem dX10_digest_230 : decode cX10_digest 230 = .ok (.aload_n 0, 1) := by decide +kernel
theorem dX10_digest_231 : decode cX10_digest 231 = .ok (.getfield 131, 3) := by decide +kernel
theorem dX10_digest_234 : decode cX10_digest 234 = .ok (.i2l, 1) := by decide +kernel
theorem dX10_digest_235 : decode cX10_digest 235 = .ok (.invokevirtual 224, 3) := by decide +kernel
theorem dX10_digest_238 : decode cX10_digest 238 = .ok (.iconst 0, 1) := by decide +kernel
theorem dX10_digest_239 : decode cX10_digest 239 = .ok (.istore_n 1, 1) := by decide +kernel
theorem dX10_digest_240 : decode cX10_digest 240 = .ok (.iload_n 1, 1) := by decide +kernel
theorem dX10_digest_241 : decode cX10_digest 241 = .ok (.aload_n 0, 1) := by decide +kernel
theorem dX10_digest_242 : decode cX10_digest 242 = .ok (.getfield 131, 3) := by decide +kernel
theorem dX10_digest_245 : decode cX10_digest 245 = .ok (.if_icmp .ge 20, 3) := by decide +kernel
theorem dX10_digest_248 : decode cX10_digest 248 = .ok (.aload_n 0, 1) := by decide +kernel
theorem dX10_digest_249 : decode cX10_digest 249 = .ok (.aload_n 0, 1) := by decide +kernel
theorem dX10_digest_250 : decode cX10_digest 250 = .ok (.getfield 19, 3) := by decide +kernel
theorem dX10_digest_253 : decode cX10_digest 253 = .ok (.iload_n 1, 1) := by decide +kernel
theorem dX10_digest_254 : decode cX10_digest 254 = .ok (.iaload, 1) := by decide +kernel
theorem dX10_digest_255 : decode cX10_digest 255 = .ok (.i2l, 1) := by decide +kernel
theorem dX10_digest_256 : decode cX10_digest 256 = .ok (.invokevirtual 224, 3) := by decide +kernel
theorem dX10_digest_259 : decode cX10_digest 259 = .ok (.iinc 1 1, 3) := by decide +kernel
theorem dX10_digest_262 : decode cX10_digest 262 = .ok (.goto (-22), 3) := by decide +kernel
theorem dX10_digest_265 : decode cX10_digest 265 = .ok (.aload_n 0, 1) := by decide +kernel
theorem dX10_digest_266 : decode cX10_digest 266 = .ok (.getfield 220, 3) := by decide +kernel
theorem dX10_digest_269 : decode cX10_digest 269 = .ok (.lreturn, 1) := by decide +kernel
theorem dL_cross_0 : decode cL_cross 0 = .ok (.aload_n 2, 1) := by decide +kernel
theorem dL_cross_1 : decode cL_cross 1 = .ok (.iconst 0, 1) := by decide +kernel
theorem dL_cross_2 : decode cL_cross 2 = .ok (.aload_n 0, 1) := by decide +kernel
theorem dL_cross_3 : decode cL_cross 3 = .ok (.iload_n 1, 1) := by decide +kernel
theorem dL_cross_4 : decode cL_cross 4 = .ok (.invokevirtual 7, 3) := by decide +kernel
theorem dL_cross_7 : decode cL_cross 7 = .ok (.i2l, 1) := by decide +kernel
theorem dL_cross_8 : decode cL_cross 8 = .ok (.lastore, 1) := by decide +kernel
theorem dL_cross_9 : decode cL_cross 9 = .ok (.goto 9, 3) := by decide +kernel
theorem dL_cross_12 : decode cL_cross 12 = .ok (.astore_n 3, 1) := by decide +kernel
theorem dL_cross_13 : decode cL_cross 13 = .ok (.iconst 1, 1) := by decide +kernel
theorem dL_cross_14 : decode cL_cross 14 = .ok (.ireturn, 1) := by decide +kernel
theorem dL_cross_15 : decode cL_cross 15 = .ok (.astore_n 3, 1) := by decide +kernel
theorem dL_cross_16 : decode cL_cross 16 = .ok (.iconst 2, 1) := by decide +kernel
theorem dL_cross_17 : decode cL_cross 17 = .ok (.ireturn, 1) := by decide +kernel
theorem dL_cross_18 : decode cL_cross 18 = .ok (.iconst 0, 1) := by decide +kernel
theorem dL_cross_19 : decode cL_cross 19 = .ok (.ireturn, 1) := by decide +kernel
theorem dL_open_0 : decode cL_open 0 = .ok (.aload_n 1, 1) := by decide +kernel
theorem dL_open_1 : decode cL_open 1 = .ok (.iconst 0, 1) := by decide +kernel
theorem dL_open_2 : decode cL_open 2 = .ok (.aload_n 0, 1) := by decide +kernel
theorem dL_open_3 : decode cL_open 3 = .ok (.invokevirtual 17, 3) := by decide +kernel
theorem dL_open_6 : decode cL_open 6 = .ok (.i2l, 1) := by decide +kernel
theorem dL_open_7 : decode cL_open 7 = .ok (.lastore, 1) := by decide +kernel
theorem dL_open_8 : decode cL_open 8 = .ok (.goto 6, 3) := by decide +kernel
theorem dL_open_11 : decode cL_open 11 = .ok (.astore_n 2, 1) := by decide +kernel
theorem dL_open_12 : decode cL_open 12 = .ok (.iconst 1, 1) := by decide +kernel
theorem dL_open_13 : decode cL_open 13 = .ok (.ireturn, 1) := by decide +kernel
theorem dL_open_14 : decode cL_open 14 = .ok (.iconst 0, 1) := by decide +kernel
theorem dL_open_15 : decode cL_open 15 = .ok (.ireturn, 1) := by decide +kernel
theorem dL_move_0 : decode cL_move 0 = .ok (.aload_n 3, 1) := by decide +kernel
theorem dL_move_1 : decode cL_move 1 = .ok (.iconst 0, 1) := by decide +kernel
theorem dL_move_2 : decode cL_move 2 = .ok (.aload_n 0, 1) := by decide +kernel
theorem dL_move_3 : decode cL_move 3 = .ok (.iload_n 1, 1) := by decide +kernel
theorem dL_move_4 : decode cL_move 4 = .ok (.iload_n 2, 1) := by decide +kernel
theorem dL_move_5 : decode cL_move 5 = .ok (.invokevirtual 21, 3) := by decide +kernel
theorem dL_move_8 : decode cL_move 8 = .ok (.i2l, 1) := by decide +kernel
theorem dL_move_9 : decode cL_move 9 = .ok (.lastore, 1) := by decide +kernel
theorem dL_move_10 : decode cL_move 10 = .ok (.goto 11, 3) := by decide +kernel
theorem dL_move_13 : decode cL_move 13 = .ok (.astore 4, 2) := by decide +kernel
theorem dL_move_15 : decode cL_move 15 = .ok (.iconst 1, 1) := by decide +kernel
theorem dL_move_16 : decode cL_move 16 = .ok (.ireturn, 1) := by decide +kernel
theorem dL_move_17 : decode cL_move 17 = .ok (.astore 4, 2) := by decide +kernel
theorem dL_move_19 : decode cL_move 19 = .ok (.iconst 2, 1) := by decide +kernel
theorem dL_move_20 : decode cL_move 20 = .ok (.ireturn, 1) := by decide +kernel
theorem dL_move_21 : decode cL_move 21 = .ok (.iconst 0, 1) := by decide +kernel
theorem dL_move_22 : decode cL_move 22 = .ok (.ireturn, 1) := by decide +kernel
theorem dL_pair_0 : decode cL_pair 0 = .ok (.aload_n 3, 1) := by decide +kernel
theorem dL_pair_1 : decode cL_pair 1 = .ok (.iconst 0, 1) := by decide +kernel
theorem dL_pair_2 : decode cL_pair 2 = .ok (.aload_n 0, 1) := by decide +kernel
theorem dL_pair_3 : decode cL_pair 3 = .ok (.iload_n 1, 1) := by decide +kernel
theorem dL_pair_4 : decode cL_pair 4 = .ok (.iload_n 2, 1) := by decide +kernel
theorem dL_pair_5 : decode cL_pair 5 = .ok (.invokevirtual 25, 3) := by decide +kernel
theorem dL_pair_8 : decode cL_pair 8 = .ok (.i2l, 1) := by decide +kernel
theorem dL_pair_9 : decode cL_pair 9 = .ok (.lastore, 1) := by decide +kernel
theorem dL_pair_10 : decode cL_pair 10 = .ok (.goto 11, 3) := by decide +kernel
theorem dL_pair_13 : decode cL_pair 13 = .ok (.astore 4, 2) := by decide +kernel
theorem dL_pair_15 : decode cL_pair 15 = .ok (.iconst 1, 1) := by decide +kernel
theorem dL_pair_16 : decode cL_pair 16 = .ok (.ireturn, 1) := by decide +kernel
theorem dL_pair_17 : decode cL_pair 17 = .ok (.astore 4, 2) := by decide +kernel
theorem dL_pair_19 : decode cL_pair 19 = .ok (.iconst 2, 1) := by decide +kernel
theorem dL_pair_20 : decode cL_pair 20 = .ok (.ireturn, 1) := by decide +kernel
theorem dL_pair_21 : decode cL_pair 21 = .ok (.iconst 0, 1) := by decide +kernel
theorem dL_pair_22 : decode cL_pair 22 = .ok (.ireturn, 1) := by decide +kernel
theorem dL_handle_0 : decode cL_handle 0 = .ok (.aload_n 1, 1) := by decide +kernel
theorem dL_handle_1 : decode cL_handle 1 = .ok (.iconst 0, 1) := by decide +kernel
theorem dL_handle_2 : decode cL_handle 2 = .ok (.aload_n 0, 1) := by decide +kernel
theorem dL_handle_3 : decode cL_handle 3 = .ok (.invokevirtual 28, 3) := by decide +kernel
theorem dL_handle_6 : decode cL_handle 6 = .ok (.i2l, 1) := by decide +kernel
theorem dL_handle_7 : decode cL_handle 7 = .ok (.lastore, 1) := by decide +kernel
theorem dL_handle_8 : decode cL_handle 8 = .ok (.goto 6, 3) := by decide +kernel
theorem dL_handle_11 : decode cL_handle 11 = .ok (.astore_n 2, 1) := by decide +kernel
theorem dL_handle_12 : decode cL_handle 12 = .ok (.iconst 1, 1) := by decide +kernel
theorem dL_handle_13 : decode cL_handle 13 = .ok (.ireturn, 1) := by decide +kernel
theorem dL_handle_14 : decode cL_handle 14 = .ok (.iconst 0, 1) := by decide +kernel
theorem dL_handle_15 : decode cL_handle 15 = .ok (.ireturn, 1) := by decide +kernel
theorem dL_append_0 : decode cL_append 0 = .ok (.aload_n 2, 1) := by decide +kernel
theorem dL_append_1 : decode cL_append 1 = .ok (.iconst 0, 1) := by decide +kernel
theorem dL_append_2 : decode cL_append 2 = .ok (.aload_n 0, 1) := by decide +kernel
theorem dL_append_3 : decode cL_append 3 = .ok (.iload_n 1, 1) := by decide +kernel
theorem dL_append_4 : decode cL_append 4 = .ok (.invokevirtual 31, 3) := by decide +kernel
theorem dL_append_7 : decode cL_append 7 = .ok (.i2l, 1) := by decide +kernel
theorem dL_append_8 : decode cL_append 8 = .ok (.lastore, 1) := by decide +kernel
theorem dL_append_9 : decode cL_append 9 = .ok (.goto 9, 3) := by decide +kernel
theorem dL_append_12 : decode cL_append 12 = .ok (.astore_n 3, 1) := by decide +kernel
theorem dL_append_13 : decode cL_append 13 = .ok (.iconst 1, 1) := by decide +kernel
theorem dL_append_14 : decode cL_append 14 = .ok (.ireturn, 1) := by decide +kernel
theorem dL_append_15 : decode cL_append 15 = .ok (.astore_n 3, 1) := by decide +kernel
theorem dL_append_16 : decode cL_append 16 = .ok (.iconst 2, 1) := by decide +kernel
theorem dL_append_17 : decode cL_append 17 = .ok (.ireturn, 1) := by decide +kernel
theorem dL_append_18 : decode cL_append 18 = .ok (.iconst 0, 1) := by decide +kernel
theorem dL_append_19 : decode cL_append 19 = .ok (.ireturn, 1) := by decide +kernel
theorem dL_lace_0 : decode cL_lace 0 = .ok (.aload_n 1, 1) := by decide +kernel
theorem dL_lace_1 : decode cL_lace 1 = .ok (.iconst 0, 1) := by decide +kernel
theorem dL_lace_2 : decode cL_lace 2 = .ok (.aload_n 0, 1) := by decide +kernel
theorem dL_lace_3 : decode cL_lace 3 = .ok (.invokevirtual 34, 3) := by decide +kernel
theorem dL_lace_6 : decode cL_lace 6 = .ok (.i2l, 1) := by decide +kernel
theorem dL_lace_7 : decode cL_lace 7 = .ok (.lastore, 1) := by decide +kernel
theorem dL_lace_8 : decode cL_lace 8 = .ok (.goto 6, 3) := by decide +kernel
theorem dL_lace_11 : decode cL_lace 11 = .ok (.astore_n 2, 1) := by decide +kernel
theorem dL_lace_12 : decode cL_lace 12 = .ok (.iconst 1, 1) := by decide +kernel
theorem dL_lace_13 : decode cL_lace 13 = .ok (.ireturn, 1) := by decide +kernel
theorem dL_lace_14 : decode cL_lace 14 = .ok (.iconst 0, 1) := by decide +kernel
theorem dL_lace_15 : decode cL_lace 15 = .ok (.ireturn, 1) := by decide +kernel
theorem dL_undo_0 : decode cL_undo 0 = .ok (.aload_n 1, 1) := by decide +kernel
theorem dL_undo_1 : decode cL_undo 1 = .ok (.iconst 0, 1) := by decide +kernel
theorem dL_undo_2 : decode cL_undo 2 = .ok (.aload_n 0, 1) := by decide +kernel
theorem dL_undo_3 : decode cL_undo 3 = .ok (.invokevirtual 37, 3) := by decide +kernel
theorem dL_undo_6 : decode cL_undo 6 = .ok (.i2l, 1) := by decide +kernel
theorem dL_undo_7 : decode cL_undo 7 = .ok (.lastore, 1) := by decide +kernel
theorem dL_undo_8 : decode cL_undo 8 = .ok (.goto 6, 3) := by decide +kernel
theorem dL_undo_11 : decode cL_undo 11 = .ok (.astore_n 2, 1) := by decide +kernel
theorem dL_undo_12 : decode cL_undo 12 = .ok (.iconst 1, 1) := by decide +kernel
theorem dL_undo_13 : decode cL_undo 13 = .ok (.ireturn, 1) := by decide +kernel
theorem dL_undo_14 : decode cL_undo 14 = .ok (.iconst 0, 1) := by decide +kernel
theorem dL_undo_15 : decode cL_undo 15 = .ok (.ireturn, 1) := by decide +kernel
theorem dL_restore_0 : decode cL_restore 0 = .ok (.aload_n 1, 1) := by decide +kernel
theorem dL_restore_1 : decode cL_restore 1 = .ok (.iconst 0, 1) := by decide +kernel
theorem dL_restore_2 : decode cL_restore 2 = .ok (.aload_n 0, 1) := by decide +kernel
theorem dL_restore_3 : decode cL_restore 3 = .ok (.invokevirtual 40, 3) := by decide +kernel
theorem dL_restore_6 : decode cL_restore 6 = .ok (.i2l, 1) := by decide +kernel
theorem dL_restore_7 : decode cL_restore 7 = .ok (.lastore, 1) := by decide +kernel
theorem dL_restore_8 : decode cL_restore 8 = .ok (.goto 6, 3) := by decide +kernel
theorem dL_restore_11 : decode cL_restore 11 = .ok (.astore_n 2, 1) := by decide +kernel
theorem dL_restore_12 : decode cL_restore 12 = .ok (.iconst 1, 1) := by decide +kernel
theorem dL_restore_13 : decode cL_restore 13 = .ok (.ireturn, 1) := by decide +kernel
theorem dL_restore_14 : decode cL_restore 14 = .ok (.iconst 0, 1) := by decide +kernel
theorem dL_restore_15 : decode cL_restore 15 = .ok (.ireturn, 1) := by decide +kernel
theorem dL_crossing_0 : decode cL_crossing 0 = .ok (.aload_n 2, 1) := by decide +kernel
theorem dL_crossing_1 : decode cL_crossing 1 = .ok (.iconst 0, 1) := by decide +kernel
theorem dL_crossing_2 : decode cL_crossing 2 = .ok (.aload_n 0, 1) := by decide +kernel
theorem dL_crossing_3 : decode cL_crossing 3 = .ok (.iload_n 1, 1) := by decide +kernel
theorem dL_crossing_4 : decode cL_crossing 4 = .ok (.invokevirtual 43, 3) := by decide +kernel
theorem dL_crossing_7 : decode cL_crossing 7 = .ok (.i2l, 1) := by decide +kernel
theorem dL_crossing_8 : decode cL_crossing 8 = .ok (.lastore, 1) := by decide +kernel
theorem dL_crossing_9 : decode cL_crossing 9 = .ok (.goto 6, 3) := by decide +kernel
theorem dL_crossing_12 : decode cL_crossing 12 = .ok (.astore_n 3, 1) := by decide +kernel
theorem dL_crossing_13 : decode cL_crossing 13 = .ok (.iconst 1, 1) := by decide +kernel
theorem dL_crossing_14 : decode cL_crossing 14 = .ok (.ireturn, 1) := by decide +kernel
theorem dL_crossing_15 : decode cL_crossing 15 = .ok (.iconst 0, 1) := by decide +kernel
theorem dL_crossing_16 : decode cL_crossing 16 = .ok (.ireturn, 1) := by decide +kernel
theorem dL_lies_0 : decode cL_lies 0 = .ok (.aload_n 3, 1) := by decide +kernel
theorem dL_lies_1 : decode cL_lies 1 = .ok (.iconst 0, 1) := by decide +kernel
theorem dL_lies_2 : decode cL_lies 2 = .ok (.aload_n 0, 1) := by decide +kernel
theorem dL_lies_3 : decode cL_lies 3 = .ok (.iload_n 1, 1) := by decide +kernel
theorem dL_lies_4 : decode cL_lies 4 = .ok (.iload_n 2, 1) := by decide +kernel
theorem dL_lies_5 : decode cL_lies 5 = .ok (.invokevirtual 46, 3) := by decide +kernel
theorem dL_lies_8 : decode cL_lies 8 = .ok (.i2l, 1) := by decide +kernel
theorem dL_lies_9 : decode cL_lies 9 = .ok (.lastore, 1) := by decide +kernel
theorem dL_lies_10 : decode cL_lies 10 = .ok (.goto 11, 3) := by decide +kernel
theorem dL_lies_13 : decode cL_lies 13 = .ok (.astore 4, 2) := by decide +kernel
theorem dL_lies_15 : decode cL_lies 15 = .ok (.iconst 1, 1) := by decide +kernel
theorem dL_lies_16 : decode cL_lies 16 = .ok (.ireturn, 1) := by decide +kernel
theorem dL_lies_17 : decode cL_lies 17 = .ok (.astore 4, 2) := by decide +kernel
theorem dL_lies_19 : decode cL_lies 19 = .ok (.iconst 2, 1) := by decide +kernel
theorem dL_lies_20 : decode cL_lies 20 = .ok (.ireturn, 1) := by decide +kernel
theorem dL_lies_21 : decode cL_lies 21 = .ok (.iconst 0, 1) := by decide +kernel
theorem dL_lies_22 : decode cL_lies 22 = .ok (.ireturn, 1) := by decide +kernel
theorem dL_winding_0 : decode cL_winding 0 = .ok (.aload_n 3, 1) := by decide +kernel
theorem dL_winding_1 : decode cL_winding 1 = .ok (.iconst 0, 1) := by decide +kernel
theorem dL_winding_2 : decode cL_winding 2 = .ok (.aload_n 0, 1) := by decide +kernel
theorem dL_winding_3 : decode cL_winding 3 = .ok (.iload_n 1, 1) := by decide +kernel
theorem dL_winding_4 : decode cL_winding 4 = .ok (.iload_n 2, 1) := by decide +kernel
theorem dL_winding_5 : decode cL_winding 5 = .ok (.invokevirtual 51, 3) := by decide +kernel
theorem dL_winding_8 : decode cL_winding 8 = .ok (.i2l, 1) := by decide +kernel
theorem dL_winding_9 : decode cL_winding 9 = .ok (.lastore, 1) := by decide +kernel
theorem dL_winding_10 : decode cL_winding 10 = .ok (.goto 7, 3) := by decide +kernel
theorem dL_winding_13 : decode cL_winding 13 = .ok (.astore 4, 2) := by decide +kernel
theorem dL_winding_15 : decode cL_winding 15 = .ok (.iconst 1, 1) := by decide +kernel
theorem dL_winding_16 : decode cL_winding 16 = .ok (.ireturn, 1) := by decide +kernel
theorem dL_winding_17 : decode cL_winding 17 = .ok (.iconst 0, 1) := by decide +kernel
theorem dL_winding_18 : decode cL_winding 18 = .ok (.ireturn, 1) := by decide +kernel
theorem dL_measure_0 : decode cL_measure 0 = .ok (.aload_n 3, 1) := by decide +kernel
theorem dL_measure_1 : decode cL_measure 1 = .ok (.iconst 0, 1) := by decide +kernel
theorem dL_measure_2 : decode cL_measure 2 = .ok (.aload_n 0, 1) := by decide +kernel
theorem dL_measure_3 : decode cL_measure 3 = .ok (.iload_n 1, 1) := by decide +kernel
theorem dL_measure_4 : decode cL_measure 4 = .ok (.iload_n 2, 1) := by decide +kernel
theorem dL_measure_5 : decode cL_measure 5 = .ok (.invokevirtual 54, 3) := by decide +kernel
theorem dL_measure_8 : decode cL_measure 8 = .ok (.i2l, 1) := by decide +kernel
theorem dL_measure_9 : decode cL_measure 9 = .ok (.lastore, 1) := by decide +kernel
theorem dL_measure_10 : decode cL_measure 10 = .ok (.goto 7, 3) := by decide +kernel
theorem dL_measure_13 : decode cL_measure 13 = .ok (.astore 4, 2) := by decide +kernel
theorem dL_measure_15 : decode cL_measure 15 = .ok (.iconst 1, 1) := by decide +kernel
theorem dL_measure_16 : decode cL_measure 16 = .ok (.ireturn, 1) := by decide +kernel
theorem dL_measure_17 : decode cL_measure 17 = .ok (.iconst 0, 1) := by decide +kernel
theorem dL_measure_18 : decode cL_measure 18 = .ok (.ireturn, 1) := by decide +kernel
theorem dL_halved_0 : decode cL_halved 0 = .ok (.aload_n 3, 1) := by decide +kernel
theorem dL_halved_1 : decode cL_halved 1 = .ok (.iconst 0, 1) := by decide +kernel
theorem dL_halved_2 : decode cL_halved 2 = .ok (.aload_n 0, 1) := by decide +kernel
theorem dL_halved_3 : decode cL_halved 3 = .ok (.iload_n 1, 1) := by decide +kernel
theorem dL_halved_4 : decode cL_halved 4 = .ok (.iload_n 2, 1) := by decide +kernel
theorem dL_halved_5 : decode cL_halved 5 = .ok (.invokevirtual 57, 3) := by decide +kernel
theorem dL_halved_8 : decode cL_halved 8 = .ok (.i2l, 1) := by decide +kernel
theorem dL_halved_9 : decode cL_halved 9 = .ok (.lastore, 1) := by decide +kernel
theorem dL_halved_10 : decode cL_halved 10 = .ok (.goto 7, 3) := by decide +kernel
theorem dL_halved_13 : decode cL_halved 13 = .ok (.astore 4, 2) := by decide +kernel
theorem dL_halved_15 : decode cL_halved 15 = .ok (.iconst 1, 1) := by decide +kernel
theorem dL_halved_16 : decode cL_halved 16 = .ok (.ireturn, 1) := by decide +kernel
theorem dL_halved_17 : decode cL_halved 17 = .ok (.iconst 0, 1) := by decide +kernel
theorem dL_halved_18 : decode cL_halved 18 = .ok (.ireturn, 1) := by decide +kernel
theorem dL_count_0 : decode cL_count 0 = .ok (.aload_n 2, 1) := by decide +kernel
theorem dL_count_1 : decode cL_count 1 = .ok (.iconst 0, 1) := by decide +kernel
theorem dL_count_2 : decode cL_count 2 = .ok (.aload_n 0, 1) := by decide +kernel
theorem dL_count_3 : decode cL_count 3 = .ok (.iload_n 1, 1) := by decide +kernel
theorem dL_count_4 : decode cL_count 4 = .ok (.invokevirtual 60, 3) := by decide +kernel
theorem dL_count_7 : decode cL_count 7 = .ok (.i2l, 1) := by decide +kernel
theorem dL_count_8 : decode cL_count 8 = .ok (.lastore, 1) := by decide +kernel
theorem dL_count_9 : decode cL_count 9 = .ok (.goto 6, 3) := by decide +kernel
theorem dL_count_12 : decode cL_count 12 = .ok (.astore_n 3, 1) := by decide +kernel
theorem dL_count_13 : decode cL_count 13 = .ok (.iconst 1, 1) := by decide +kernel
theorem dL_count_14 : decode cL_count 14 = .ok (.ireturn, 1) := by decide +kernel
theorem dL_count_15 : decode cL_count 15 = .ok (.iconst 0, 1) := by decide +kernel
theorem dL_count_16 : decode cL_count 16 = .ok (.ireturn, 1) := by decide +kernel
theorem dL_whyNot_0 : decode cL_whyNot 0 = .ok (.aload_n 3, 1) := by decide +kernel
theorem dL_whyNot_1 : decode cL_whyNot 1 = .ok (.iconst 0, 1) := by decide +kernel
theorem dL_whyNot_2 : decode cL_whyNot 2 = .ok (.aload_n 0, 1) := by decide +kernel
theorem dL_whyNot_3 : decode cL_whyNot 3 = .ok (.iload_n 1, 1) := by decide +kernel
theorem dL_whyNot_4 : decode cL_whyNot 4 = .ok (.iload_n 2, 1) := by decide +kernel
theorem dL_whyNot_5 : decode cL_whyNot 5 = .ok (.invokevirtual 63, 3) := by decide +kernel
theorem dL_whyNot_8 : decode cL_whyNot 8 = .ok (.i2l, 1) := by decide +kernel
theorem dL_whyNot_9 : decode cL_whyNot 9 = .ok (.lastore, 1) := by decide +kernel
theorem dL_whyNot_10 : decode cL_whyNot 10 = .ok (.goto 7, 3) := by decide +kernel
theorem dL_whyNot_13 : decode cL_whyNot 13 = .ok (.astore 4, 2) := by decide +kernel
theorem dL_whyNot_15 : decode cL_whyNot 15 = .ok (.iconst 1, 1) := by decide +kernel
theorem dL_whyNot_16 : decode cL_whyNot 16 = .ok (.ireturn, 1) := by decide +kernel
theorem dL_whyNot_17 : decode cL_whyNot 17 = .ok (.iconst 0, 1) := by decide +kernel
theorem dL_whyNot_18 : decode cL_whyNot 18 = .ok (.ireturn, 1) := by decide +kernel
theorem dL_untangled_0 : decode cL_untangled 0 = .ok (.aload_n 2, 1) := by decide +kernel
theorem dL_untangled_1 : decode cL_untangled 1 = .ok (.iconst 0, 1) := by decide +kernel
theorem dL_untangled_2 : decode cL_untangled 2 = .ok (.aload_n 0, 1) := by decide +kernel
theorem dL_untangled_3 : decode cL_untangled 3 = .ok (.iload_n 1, 1) := by decide +kernel
theorem dL_untangled_4 : decode cL_untangled 4 = .ok (.invokevirtual 66, 3) := by decide +kernel
theorem dL_untangled_7 : decode cL_untangled 7 = .ok (.i2l, 1) := by decide +kernel
theorem dL_untangled_8 : decode cL_untangled 8 = .ok (.lastore, 1) := by decide +kernel
theorem dL_untangled_9 : decode cL_untangled 9 = .ok (.goto 6, 3) := by decide +kernel
theorem dL_untangled_12 : decode cL_untangled 12 = .ok (.astore_n 3, 1) := by decide +kernel
theorem dL_untangled_13 : decode cL_untangled 13 = .ok (.iconst 1, 1) := by decide +kernel
theorem dL_untangled_14 : decode cL_untangled 14 = .ok (.ireturn, 1) := by decide +kernel
theorem dL_untangled_15 : decode cL_untangled 15 = .ok (.iconst 0, 1) := by decide +kernel
theorem dL_untangled_16 : decode cL_untangled 16 = .ok (.ireturn, 1) := by decide +kernel
theorem dL_left_0 : decode cL_left 0 = .ok (.aload_n 2, 1) := by decide +kernel
theorem dL_left_1 : decode cL_left 1 = .ok (.iconst 0, 1) := by decide +kernel
theorem dL_left_2 : decode cL_left 2 = .ok (.aload_n 0, 1) := by decide +kernel
theorem dL_left_3 : decode cL_left 3 = .ok (.iload_n 1, 1) := by decide +kernel
theorem dL_left_4 : decode cL_left 4 = .ok (.invokevirtual 69, 3) := by decide +kernel
theorem dL_left_7 : decode cL_left 7 = .ok (.i2l, 1) := by decide +kernel
theorem dL_left_8 : decode cL_left 8 = .ok (.lastore, 1) := by decide +kernel
theorem dL_left_9 : decode cL_left 9 = .ok (.goto 6, 3) := by decide +kernel
theorem dL_left_12 : decode cL_left 12 = .ok (.astore_n 3, 1) := by decide +kernel
theorem dL_left_13 : decode cL_left 13 = .ok (.iconst 1, 1) := by decide +kernel
theorem dL_left_14 : decode cL_left 14 = .ok (.ireturn, 1) := by decide +kernel
theorem dL_left_15 : decode cL_left 15 = .ok (.iconst 0, 1) := by decide +kernel
theorem dL_left_16 : decode cL_left 16 = .ok (.ireturn, 1) := by decide +kernel
theorem dL_same_0 : decode cL_same 0 = .ok (.aload_n 1, 1) := by decide +kernel
theorem dL_same_1 : decode cL_same 1 = .ok (.iconst 0, 1) := by decide +kernel
theorem dL_same_2 : decode cL_same 2 = .ok (.aload_n 0, 1) := by decide +kernel
theorem dL_same_3 : decode cL_same 3 = .ok (.invokevirtual 72, 3) := by decide +kernel
theorem dL_same_6 : decode cL_same 6 = .ok (.i2l, 1) := by decide +kernel
theorem dL_same_7 : decode cL_same 7 = .ok (.lastore, 1) := by decide +kernel
theorem dL_same_8 : decode cL_same 8 = .ok (.goto 6, 3) := by decide +kernel
theorem dL_same_11 : decode cL_same 11 = .ok (.astore_n 2, 1) := by decide +kernel
theorem dL_same_12 : decode cL_same 12 = .ok (.iconst 1, 1) := by decide +kernel
theorem dL_same_13 : decode cL_same 13 = .ok (.ireturn, 1) := by decide +kernel
theorem dL_same_14 : decode cL_same 14 = .ok (.iconst 0, 1) := by decide +kernel
theorem dL_same_15 : decode cL_same 15 = .ok (.ireturn, 1) := by decide +kernel
theorem dL_possible_0 : decode cL_possible 0 = .ok (.aload_n 2, 1) := by decide +kernel
theorem dL_possible_1 : decode cL_possible 1 = .ok (.iconst 0, 1) := by decide +kernel
theorem dL_possible_2 : decode cL_possible 2 = .ok (.aload_n 0, 1) := by decide +kernel
theorem dL_possible_3 : decode cL_possible 3 = .ok (.iload_n 1, 1) := by decide +kernel
theorem dL_possible_4 : decode cL_possible 4 = .ok (.invokevirtual 75, 3) := by decide +kernel
theorem dL_possible_7 : decode cL_possible 7 = .ok (.i2l, 1) := by decide +kernel
theorem dL_possible_8 : decode cL_possible 8 = .ok (.lastore, 1) := by decide +kernel
theorem dL_possible_9 : decode cL_possible 9 = .ok (.goto 6, 3) := by decide +kernel
theorem dL_possible_12 : decode cL_possible 12 = .ok (.astore_n 3, 1) := by decide +kernel
theorem dL_possible_13 : decode cL_possible 13 = .ok (.iconst 1, 1) := by decide +kernel
theorem dL_possible_14 : decode cL_possible 14 = .ok (.ireturn, 1) := by decide +kernel
theorem dL_possible_15 : decode cL_possible 15 = .ok (.iconst 0, 1) := by decide +kernel
theorem dL_possible_16 : decode cL_possible 16 = .ok (.ireturn, 1) := by decide +kernel
theorem dL_law_0 : decode cL_law 0 = .ok (.new 8, 3) := by decide +kernel
theorem dL_law_3 : decode cL_law 3 = .ok (.dup, 1) := by decide +kernel
theorem dL_law_4 : decode cL_law 4 = .ok (.invokespecial 78, 3) := by decide +kernel
theorem dL_law_7 : decode cL_law 7 = .ok (.astore_n 1, 1) := by decide +kernel
theorem dL_law_8 : decode cL_law 8 = .ok (.new 79, 3) := by decide +kernel
theorem dL_law_11 : decode cL_law 11 = .ok (.dup, 1) := by decide +kernel
theorem dL_law_12 : decode cL_law 12 = .ok (.invokespecial 81, 3) := by decide +kernel
theorem dL_law_15 : decode cL_law 15 = .ok (.astore_n 2, 1) := by decide +kernel
theorem dL_law_16 : decode cL_law 16 = .ok (.iconst 1, 1) := by decide +kernel
theorem dL_law_17 : decode cL_law 17 = .ok (.newarray .long, 2) := by decide +kernel
theorem dL_law_19 : decode cL_law 19 = .ok (.astore_n 3, 1) := by decide +kernel
theorem dL_law_20 : decode cL_law 20 = .ok (.iconst 0, 1) := by decide +kernel
theorem dL_law_21 : decode cL_law 21 = .ok (.istore 4, 2) := by decide +kernel
theorem dL_law_23 : decode cL_law 23 = .ok (.iload 4, 2) := by decide +kernel
theorem dL_law_25 : decode cL_law 25 = .ok (.aload_n 0, 1) := by decide +kernel
theorem dL_law_26 : decode cL_law 26 = .ok (.arraylength, 1) := by decide +kernel
theorem dL_law_27 : decode cL_law 27 = .ok (.iconst 3, 1) := by decide +kernel
theorem dL_law_28 : decode cL_law 28 = .ok (.isub, 1) := by decide +kernel
theorem dL_law_29 : decode cL_law 29 = .ok (.if_icmp .gt 1406, 3) := by decide +kernel
theorem dL_law_32 : decode cL_law 32 = .ok (.aload_n 0, 1) := by decide +kernel
theorem dL_law_33 : decode cL_law 33 = .ok (.iload 4, 2) := by decide +kernel
theorem dL_law_35 : decode cL_law 35 = .ok (.iaload, 1) := by decide +kernel
theorem dL_law_36 : decode cL_law 36 = .ok (.bipush 31, 2) := by decide +kernel
theorem dL_law_38 : decode cL_law 38 = .ok (.iand, 1) := by decide +kernel
theorem dL_law_39 : decode cL_law 39 = .ok (.tableswitch 1390 0 27 #[125, 181, 225, 293, 361, 374, 387, 431, 487, 500, 513, 557, 601, 614, 658, 714, 782, 850, 918, 986, 1042, 1110, 1166, 1222, 1266, 1322, 1335, 1376], 125) := by decide +kernel
theorem dL_law_164 : decode cL_law 164 = .ok (.aload_n 1, 1) := by decide +kernel
theorem dL_law_165 : decode cL_law 165 = .ok (.aload_n 0, 1) := by decide +kernel
theorem dL_law_166 : decode cL_law 166 = .ok (.iload 4, 2) := by decide +kernel
theorem dL_law_168 : decode cL_law 168 = .ok (.iconst 1, 1) := by decide +kernel
theorem dL_law_169 : decode cL_law 169 = .ok (.iadd, 1) := by decide +kernel
theorem dL_law_170 : decode cL_law 170 = .ok (.iaload, 1) := by decide +kernel
theorem dL_law_171 : decode cL_law 171 = .ok (.aload_n 3, 1) := by decide +kernel
theorem dL_law_172 : decode cL_law 172 = .ok (.invokestatic 82, 3) := by decide +kernel
theorem dL_law_175 : decode cL_law 175 = .ok (.istore 5, 2) := by decide +kernel
theorem dL_law_177 : decode cL_law 177 = .ok (.aload_n 2, 1) := by decide +kernel
theorem dL_law_178 : decode cL_law 178 = .ok (.aload_n 0, 1) := by decide +kernel
theorem dL_law_179 : decode cL_law 179 = .ok (.iload 4, 2) := by decide +kernel
theorem dL_law_181 : decode cL_law 181 = .ok (.iconst 1, 1) := by decide +kernel
theorem dL_law_182 : decode cL_law 182 = .ok (.iadd, 1) := by decide +kernel
theorem dL_law_183 : decode cL_law 183 = .ok (.iaload, 1) := by decide +kernel
theorem dL_law_184 : decode cL_law 184 = .ok (.invokevirtual 87, 3) := by decide +kernel
theorem dL_law_187 : decode cL_law 187 = .ok (.istore 6, 2) := by decide +kernel
theorem dL_law_189 : decode cL_law 189 = .ok (.aload_n 2, 1) := by decide +kernel
theorem dL_law_190 : decode cL_law 190 = .ok (.invokevirtual 88, 3) := by decide +kernel
theorem dL_law_193 : decode cL_law 193 = .ok (.iload 5, 2) := by decide +kernel
theorem dL_law_195 : decode cL_law 195 = .ok (.if_icmp .eq 5, 3) := by decide +kernel
theorem dL_law_198 : decode cL_law 198 = .ok (.iconst 0, 1) := by decide +kernel
theorem dL_law_199 : decode cL_law 199 = .ok (.ireturn, 1) := by decide +kernel
theorem dL_law_200 : decode cL_law 200 = .ok (.iload 5, 2) := by decide +kernel
theorem dL_law_202 : decode cL_law 202 = .ok (.ifCond .ne 15, 3) := by decide +kernel
theorem dL_law_205 : decode cL_law 205 = .ok (.aload_n 3, 1) := by decide +kernel
theorem dL_law_206 : decode cL_law 206 = .ok (.iconst 0, 1) := by decide +kernel
theorem dL_law_207 : decode cL_law 207 = .ok (.laload, 1) := by decide +kernel
theorem dL_law_208 : decode cL_law 208 = .ok (.iload 6, 2) := by decide +kernel
theorem dL_law_210 : decode cL_law 210 = .ok (.i2l, 1) := by decide +kernel
theorem dL_law_211 : decode cL_law 211 = .ok (.lcmp, 1) := by decide +kernel
theorem dL_law_212 : decode cL_law 212 = .ok (.ifCond .eq 5, 3) := by decide +kernel
theorem dL_law_215 : decode cL_law 215 = .ok (.iconst 0, 1) := by decide +kernel
theorem dL_law_216 : decode cL_law 216 = .ok (.ireturn, 1) := by decide +kernel
theorem dL_law_217 : decode cL_law 217 = .ok (.goto 1212, 3) := by decide +kernel
theorem dL_law_220 : decode cL_law 220 = .ok (.aload_n 1, 1) := by decide +kernel
theorem dL_law_221 : decode cL_law 221 = .ok (.aload_n 3, 1) := by decide +kernel
theorem dL_law_222 : decode cL_law 222 = .ok (.invokestatic 91, 3) := by decide +kernel
theorem dL_law_225 : decode cL_law 225 = .ok (.istore 5, 2) := by decide +kernel
theorem dL_law_227 : decode cL_law 227 = .ok (.aload_n 2, 1) := by decide +kernel
theorem dL_law_228 : decode cL_law 228 = .ok (.invokevirtual 94, 3) := by decide +kernel
theorem dL_law_231 : decode cL_law 231 = .ok (.istore 6, 2) := by decide +kernel
theorem dL_law_233 : decode cL_law 233 = .ok (.aload_n 2, 1) := by decide +kernel
theorem dL_law_234 : decode cL_law 234 = .ok (.invokevirtual 88, 3) := by decide +kernel
theorem dL_law_237 : decode cL_law 237 = .ok (.iload 5, 2) := by decide +kernel
theorem dL_law_239 : decode cL_law 239 = .ok (.if_icmp .eq 5, 3) := by decide +kernel
theorem dL_law_242 : decode cL_law 242 = .ok (.iconst 0, 1) := by decide +kernel
theorem dL_law_243 : decode cL_law 243 = .ok (.ireturn, 1) := by decide +kernel
theorem dL_law_244 : decode cL_law 244 = .ok (.iload 5, 2) := by decide +kernel
theorem dL_law_246 : decode cL_law 246 = .ok (.ifCond .ne 15, 3) := by decide +kernel
theorem dL_law_249 : decode cL_law 249 = .ok (.aload_n 3, 1) := by decide +kernel
theorem dL_law_250 : decode cL_law 250 = .ok (.iconst 0, 1) := by decide +kernel
theorem dL_law_251 : decode cL_law 251 = .ok (.laload, 1) := by decide +kernel
theorem dL_law_252 : decode cL_law 252 = .ok (.iload 6, 2) := by decide +kernel
theorem dL_law_254 : decode cL_law 254 = .ok (.i2l, 1) := by decide +kernel
theorem dL_law_255 : decode cL_law 255 = .ok (.lcmp, 1) := by decide +kernel
theorem dL_law_256 : decode cL_law 256 = .ok (.ifCond .eq 5, 3) := by decide +kernel
theorem dL_law_259 : decode cL_law 259 = .ok (.iconst 0, 1) := by decide +kernel
theorem dL_law_260 : decode cL_law 260 = .ok (.ireturn, 1) := by decide +kernel
theorem dL_law_261 : decode cL_law 261 = .ok (.goto 1168, 3) := by decide +kernel
theorem dL_law_264 : decode cL_law 264 = .ok (.aload_n 1, 1) := by decide +kernel
theorem dL_law_265 : decode cL_law 265 = .ok (.aload_n 0, 1) := by decide +kernel
theorem dL_law_266 : decode cL_law 266 = .ok (.iload 4, 2) := by decide +kernel
theorem dL_law_268 : decode cL_law 268 = .ok (.iconst 1, 1) := by decide +kernel
theorem dL_law_269 : decode cL_law 269 = .ok (.iadd, 1) := by decide +kernel
theorem dL_law_270 : decode cL_law 270 = .ok (.iaload, 1) := by decide +kernel
theorem dL_law_271 : decode cL_law 271 = .ok (.aload_n 0, 1) := by decide +kernel
theorem dL_law_272 : decode cL_law 272 = .ok (.iload 4, 2) := by decide +kernel
theorem dL_law_274 : decode cL_law 274 = .ok (.iconst 2, 1) := by decide +kernel
theorem dL_law_275 : decode cL_law 275 = .ok (.iadd, 1) := by decide +kernel
theorem dL_law_276 : decode cL_law 276 = .ok (.iaload, 1) := by decide +kernel
theorem dL_law_277 : decode cL_law 277 = .ok (.aload_n 3, 1) := by decide +kernel
theorem dL_law_278 : decode cL_law 278 = .ok (.invokestatic 95, 3) := by decide +kernel
theorem dL_law_281 : decode cL_law 281 = .ok (.istore 5, 2) := by decide +kernel
theorem dL_law_283 : decode cL_law 283 = .ok (.aload_n 2, 1) := by decide +kernel
theorem dL_law_284 : decode cL_law 284 = .ok (.aload_n 0, 1) := by decide +kernel
theorem dL_law_285 : decode cL_law 285 = .ok (.iload 4, 2) := by decide +kernel
theorem dL_law_287 : decode cL_law 287 = .ok (.iconst 1, 1) := by decide +kernel
theorem dL_law_288 : decode cL_law 288 = .ok (.iadd, 1) := by decide +kernel
theorem dL_law_289 : decode cL_law 289 = .ok (.iaload, 1) := by decide +kernel
theorem dL_law_290 : decode cL_law 290 = .ok (.aload_n 0, 1) := by decide +kernel
theorem dL_law_291 : decode cL_law 291 = .ok (.iload 4, 2) := by decide +kernel
theorem dL_law_293 : decode cL_law 293 = .ok (.iconst 2, 1) := by decide +kernel
theorem dL_law_294 : decode cL_law 294 = .ok (.iadd, 1) := by decide +kernel
theorem dL_law_295 : decode cL_law 295 = .ok (.iaload, 1) := by decide +kernel
theorem dL_law_296 : decode cL_law 296 = .ok (.invokevirtual 98, 3) := by decide +kernel
theorem dL_law_299 : decode cL_law 299 = .ok (.istore 6, 2) := by decide +kernel
theorem dL_law_301 : decode cL_law 301 = .ok (.aload_n 2, 1) := by decide +kernel
theorem dL_law_302 : decode cL_law 302 = .ok (.invokevirtual 88, 3) := by decide +kernel
theorem dL_law_305 : decode cL_law 305 = .ok (.iload 5, 2) := by decide +kernel
theorem dL_law_307 : decode cL_law 307 = .ok (.if_icmp .eq 5, 3) := by decide +kernel
theorem dL_law_310 : decode cL_law 310 = .ok (.iconst 0, 1) := by decide +kernel
theorem dL_law_311 : decode cL_law 311 = .ok (.ireturn, 1) := by decide +kernel
theorem dL_law_312 : decode cL_law 312 = .ok (.iload 5, 2) := by decide +kernel
theorem dL_law_314 : decode cL_law 314 = .ok (.ifCond .ne 15, 3) := by decide +kernel
theorem dL_law_317 : decode cL_law 317 = .ok (.aload_n 3, 1) := by decide +kernel
theorem dL_law_318 : decode cL_law 318 = .ok (.iconst 0, 1) := by decide +kernel
theorem dL_law_319 : decode cL_law 319 = .ok (.laload, 1) := by decide +kernel
theorem dL_law_320 : decode cL_law 320 = .ok (.iload 6, 2) := by decide +kernel
theorem dL_law_322 : decode cL_law 322 = .ok (.i2l, 1) := by decide +kernel
theorem dL_law_323 : decode cL_law 323 = .ok (.lcmp, 1) := by decide +kernel
theorem dL_law_324 : decode cL_law 324 = .ok (.ifCond .eq 5, 3) := by decide +kernel
theorem dL_law_327 : decode cL_law 327 = .ok (.iconst 0, 1) := by decide +kernel
theorem dL_law_328 : decode cL_law 328 = .ok (.ireturn, 1) := by decide +kernel
theorem dL_law_329 : decode cL_law 329 = .ok (.goto 1100, 3) := by decide +kernel
theorem dL_law_332 : decode cL_law 332 = .ok (.aload_n 1, 1) := by decide +kernel
theorem dL_law_333 : decode cL_law 333 = .ok (.aload_n 0, 1) := by decide +kernel
theorem dL_law_334 : decode cL_law 334 = .ok (.iload 4, 2) := by decide +kernel
theorem dL_law_336 : decode cL_law 336 = .ok (.iconst 1, 1) := by decide +kernel
theorem dL_law_337 : decode cL_law 337 = .ok (.iadd, 1) := by decide +kernel
theorem dL_law_338 : decode cL_law 338 = .ok (.iaload, 1) := by decide +kernel
theorem dL_law_339 : decode cL_law 339 = .ok (.aload_n 0, 1) := by decide +kernel
theorem dL_law_340 : decode cL_law 340 = .ok (.iload 4, 2) := by decide +kernel
theorem dL_law_342 : decode cL_law 342 = .ok (.iconst 2, 1) := by decide +kernel
theorem dL_law_343 : decode cL_law 343 = .ok (.iadd, 1) := by decide +kernel
theorem dL_law_344 : decode cL_law 344 = .ok (.iaload, 1) := by decide +kernel
theorem dL_law_345 : decode cL_law 345 = .ok (.aload_n 3, 1) := by decide +kernel
theorem dL_law_346 : decode cL_law 346 = .ok (.invokestatic 99, 3) := by decide +kernel
theorem dL_law_349 : decode cL_law 349 = .ok (.istore 5, 2) := by decide +kernel
theorem dL_law_351 : decode cL_law 351 = .ok (.aload_n 2, 1) := by decide +kernel
theorem dL_law_352 : decode cL_law 352 = .ok (.aload_n 0, 1) := by decide +kernel
theorem dL_law_353 : decode cL_law 353 = .ok (.iload 4, 2) := by decide +kernel
theorem dL_law_355 : decode cL_law 355 = .ok (.iconst 1, 1) := by decide +kernel
theorem dL_law_356 : decode cL_law 356 = .ok (.iadd, 1) := by decide +kernel
theorem dL_law_357 : decode cL_law 357 = .ok (.iaload, 1) := by decide +kernel
theorem dL_law_358 : decode cL_law 358 = .ok (.aload_n 0, 1) := by decide +kernel
theorem dL_law_359 : decode cL_law 359 = .ok (.iload 4, 2) := by decide +kernel
theorem dL_law_361 : decode cL_law 361 = .ok (.iconst 2, 1) := by decide +kernel
theorem dL_law_362 : decode cL_law 362 = .ok (.iadd, 1) := by decide +kernel
theorem dL_law_363 : decode cL_law 363 = .ok (.iaload, 1) := by decide +kernel
theorem dL_law_364 : decode cL_law 364 = .ok (.invokevirtual 101, 3) := by decide +kernel
theorem dL_law_367 : decode cL_law 367 = .ok (.istore 6, 2) := by decide +kernel
theorem dL_law_369 : decode cL_law 369 = .ok (.aload_n 2, 1) := by decide +kernel
theorem dL_law_370 : decode cL_law 370 = .ok (.invokevirtual 88, 3) := by decide +kernel
theorem dL_law_373 : decode cL_law 373 = .ok (.iload 5, 2) := by decide +kernel
theorem dL_law_375 : decode cL_law 375 = .ok (.if_icmp .eq 5, 3) := by decide +kernel
theorem dL_law_378 : decode cL_law 378 = .ok (.iconst 0, 1) := by decide +kernel
theorem dL_law_379 : decode cL_law 379 = .ok (.ireturn, 1) := by decide +kernel
theorem dL_law_380 : decode cL_law 380 = .ok (.iload 5, 2) := by decide +kernel
theorem dL_law_382 : decode cL_law 382 = .ok (.ifCond .ne 15, 3) := by decide +kernel
theorem dL_law_385 : decode cL_law 385 = .ok (.aload_n 3, 1) := by decide +kernel
theorem dL_law_386 : decode cL_law 386 = .ok (.iconst 0, 1) := by decide +kernel
theorem dL_law_387 : decode cL_law 387 = .ok (.laload, 1) := by decide +kernel
theorem dL_law_388 : decode cL_law 388 = .ok (.iload 6, 2) := by decide +kernel
theorem dL_law_390 : decode cL_law 390 = .ok (.i2l, 1) := by decide +kernel
theorem dL_law_391 : decode cL_law 391 = .ok (.lcmp, 1) := by decide +kernel
theorem dL_law_392 : decode cL_law 392 = .ok (.ifCond .eq 5, 3) := by decide +kernel
theorem dL_law_395 : decode cL_law 395 = .ok (.iconst 0, 1) := by decide +kernel
theorem dL_law_396 : decode cL_law 396 = .ok (.ireturn, 1) := by decide +kernel
theorem dL_law_397 : decode cL_law 397 = .ok (.goto 1032, 3) := by decide +kernel
theorem dL_law_400 : decode cL_law 400 = .ok (.aload_n 1, 1) := by decide +kernel
theorem dL_law_401 : decode cL_law 401 = .ok (.invokevirtual 102, 3) := by decide +kernel
theorem dL_law_404 : decode cL_law 404 = .ok (.aload_n 2, 1) := by decide +kernel
theorem dL_law_405 : decode cL_law 405 = .ok (.invokevirtual 105, 3) := by decide +kernel
theorem dL_law_408 : decode cL_law 408 = .ok (.if_icmp .eq 1021, 3) := by decide +kernel
theorem dL_law_411 : decode cL_law 411 = .ok (.iconst 0, 1) := by decide +kernel
theorem dL_law_412 : decode cL_law 412 = .ok (.ireturn, 1) := by decide +kernel
theorem dL_law_413 : decode cL_law 413 = .ok (.aload_n 1, 1) := by decide +kernel
theorem dL_law_414 : decode cL_law 414 = .ok (.invokevirtual 106, 3) := by decide +kernel
theorem dL_law_417 : decode cL_law 417 = .ok (.aload_n 2, 1) := by decide +kernel
theorem dL_law_418 : decode cL_law 418 = .ok (.invokevirtual 109, 3) := by decide +kernel
theorem dL_law_421 : decode cL_law 421 = .ok (.if_icmp .eq 1008, 3) := by decide +kernel
theorem dL_law_424 : decode cL_law 424 = .ok (.iconst 0, 1) := by decide +kernel
theorem dL_law_425 : decode cL_law 425 = .ok (.ireturn, 1) := by decide +kernel
theorem dL_law_426 : decode cL_law 426 = .ok (.aload_n 1, 1) := by decide +kernel
theorem dL_law_427 : decode cL_law 427 = .ok (.aload_n 3, 1) := by decide +kernel
theorem dL_law_428 : decode cL_law 428 = .ok (.invokestatic 110, 3) := by decide +kernel
theorem dL_law_431 : decode cL_law 431 = .ok (.istore 5, 2) := by decide +kernel
theorem dL_law_433 : decode cL_law 433 = .ok (.aload_n 2, 1) := by decide +kernel
theorem dL_law_434 : decode cL_law 434 = .ok (.invokevirtual 112, 3) := by decide +kernel
theorem dL_law_437 : decode cL_law 437 = .ok (.istore 6, 2) := by decide +kernel
theorem dL_law_439 : decode cL_law 439 = .ok (.aload_n 2, 1) := by decide +kernel
theorem dL_law_440 : decode cL_law 440 = .ok (.invokevirtual 88, 3) := by decide +kernel
theorem dL_law_443 : decode cL_law 443 = .ok (.iload 5, 2) := by decide +kernel
theorem dL_law_445 : decode cL_law 445 = .ok (.if_icmp .eq 5, 3) := by decide +kernel
theorem dL_law_448 : decode cL_law 448 = .ok (.iconst 0, 1) := by decide +kernel
theorem dL_law_449 : decode cL_law 449 = .ok (.ireturn, 1) := by decide +kernel
theorem dL_law_450 : decode cL_law 450 = .ok (.iload 5, 2) := by decide +kernel
theorem dL_law_452 : decode cL_law 452 = .ok (.ifCond .ne 15, 3) := by decide +kernel
theorem dL_law_455 : decode cL_law 455 = .ok (.aload_n 3, 1) := by decide +kernel
theorem dL_law_456 : decode cL_law 456 = .ok (.iconst 0, 1) := by decide +kernel
theorem dL_law_457 : decode cL_law 457 = .ok (.laload, 1) := by decide +kernel
theorem dL_law_458 : decode cL_law 458 = .ok (.iload 6, 2) := by decide +kernel
theorem dL_law_460 : decode cL_law 460 = .ok (.i2l, 1) := by decide +kernel
theorem dL_law_461 : decode cL_law 461 = .ok (.lcmp, 1) := by decide +kernel
theorem dL_law_462 : decode cL_law 462 = .ok (.ifCond .eq 5, 3) := by decide +kernel
theorem dL_law_465 : decode cL_law 465 = .ok (.iconst 0, 1) := by decide +kernel
theorem dL_law_466 : decode cL_law 466 = .ok (.ireturn, 1) := by decide +kernel
theorem dL_law_467 : decode cL_law 467 = .ok (.goto 962, 3) := by decide +kernel
theorem dL_law_470 : decode cL_law 470 = .ok (.aload_n 1, 1) := by decide +kernel
theorem dL_law_471 : decode cL_law 471 = .ok (.aload_n 0, 1) := by decide +kernel
theorem dL_law_472 : decode cL_law 472 = .ok (.iload 4, 2) := by decide +kernel
theorem dL_law_474 : decode cL_law 474 = .ok (.iconst 1, 1) := by decide +kernel
theorem dL_law_475 : decode cL_law 475 = .ok (.iadd, 1) := by decide +kernel
theorem dL_law_476 : decode cL_law 476 = .ok (.iaload, 1) := by decide +kernel
theorem dL_law_477 : decode cL_law 477 = .ok (.aload_n 3, 1) := by decide +kernel
theorem dL_law_478 : decode cL_law 478 = .ok (.invokestatic 113, 3) := by decide +kernel
theorem dL_law_481 : decode cL_law 481 = .ok (.istore 5, 2) := by decide +kernel
theorem dL_law_483 : decode cL_law 483 = .ok (.aload_n 2, 1) := by decide +kernel
theorem dL_law_484 : decode cL_law 484 = .ok (.aload_n 0, 1) := by decide +kernel
theorem dL_law_485 : decode cL_law 485 = .ok (.iload 4, 2) := by decide +kernel
theorem dL_law_487 : decode cL_law 487 = .ok (.iconst 1, 1) := by decide +kernel
theorem dL_law_488 : decode cL_law 488 = .ok (.iadd, 1) := by decide +kernel
theorem dL_law_489 : decode cL_law 489 = .ok (.iaload, 1) := by decide +kernel
theorem dL_law_490 : decode cL_law 490 = .ok (.invokevirtual 115, 3) := by decide +kernel
theorem dL_law_493 : decode cL_law 493 = .ok (.istore 6, 2) := by decide +kernel
theorem dL_law_495 : decode cL_law 495 = .ok (.aload_n 2, 1) := by decide +kernel
theorem dL_law_496 : decode cL_law 496 = .ok (.invokevirtual 88, 3) := by decide +kernel
theorem dL_law_499 : decode cL_law 499 = .ok (.iload 5, 2) := by decide +kernel
theorem dL_law_501 : decode cL_law 501 = .ok (.if_icmp .eq 5, 3) := by decide +kernel
theorem dL_law_504 : decode cL_law 504 = .ok (.iconst 0, 1) := by decide +kernel
theorem dL_law_505 : decode cL_law 505 = .ok (.ireturn, 1) := by decide +kernel
theorem dL_law_506 : decode cL_law 506 = .ok (.iload 5, 2) := by decide +kernel
theorem dL_law_508 : decode cL_law 508 = .ok (.ifCond .ne 15, 3) := by decide +kernel
theorem dL_law_511 : decode cL_law 511 = .ok (.aload_n 3, 1) := by decide +kernel
theorem dL_law_512 : decode cL_law 512 = .ok (.iconst 0, 1) := by decide +kernel
theorem dL_law_513 : decode cL_law 513 = .ok (.laload, 1) := by decide +kernel
theorem dL_law_514 : decode cL_law 514 = .ok (.iload 6, 2) := by decide +kernel
theorem dL_law_516 : decode cL_law 516 = .ok (.i2l, 1) := by decide +kernel
theorem dL_law_517 : decode cL_law 517 = .ok (.lcmp, 1) := by decide +kernel
theorem dL_law_518 : decode cL_law 518 = .ok (.ifCond .eq 5, 3) := by decide +kernel
theorem dL_law_521 : decode cL_law 521 = .ok (.iconst 0, 1) := by decide +kernel
theorem dL_law_522 : decode cL_law 522 = .ok (.ireturn, 1) := by decide +kernel
theorem dL_law_523 : decode cL_law 523 = .ok (.goto 906, 3) := by decide +kernel
theorem dL_law_526 : decode cL_law 526 = .ok (.aload_n 1, 1) := by decide +kernel
theorem dL_law_527 : decode cL_law 527 = .ok (.invokevirtual 116, 3) := by decide +kernel
theorem dL_law_530 : decode cL_law 530 = .ok (.aload_n 2, 1) := by decide +kernel
theorem dL_law_531 : decode cL_law 531 = .ok (.invokevirtual 119, 3) := by decide +kernel
theorem dL_law_534 : decode cL_law 534 = .ok (.if_icmp .eq 895, 3) := by decide +kernel
theorem dL_law_537 : decode cL_law 537 = .ok (.iconst 0, 1) := by decide +kernel
theorem dL_law_538 : decode cL_law 538 = .ok (.ireturn, 1) := by decide +kernel
theorem dL_law_539 : decode cL_law 539 = .ok (.aload_n 1, 1) := by decide +kernel
theorem dL_law_540 : decode cL_law 540 = .ok (.invokevirtual 120, 3) := by decide +kernel
theorem dL_law_543 : decode cL_law 543 = .ok (.aload_n 2, 1) := by decide +kernel
theorem dL_law_544 : decode cL_law 544 = .ok (.invokevirtual 123, 3) := by decide +kernel
theorem dL_law_547 : decode cL_law 547 = .ok (.if_icmp .eq 882, 3) := by decide +kernel
theorem dL_law_550 : decode cL_law 550 = .ok (.iconst 0, 1) := by decide +kernel
theorem dL_law_551 : decode cL_law 551 = .ok (.ireturn, 1) := by decide +kernel
theorem dL_law_552 : decode cL_law 552 = .ok (.aload_n 1, 1) := by decide +kernel
theorem dL_law_553 : decode cL_law 553 = .ok (.aload_n 3, 1) := by decide +kernel
theorem dL_law_554 : decode cL_law 554 = .ok (.invokestatic 124, 3) := by decide +kernel
theorem dL_law_557 : decode cL_law 557 = .ok (.istore 5, 2) := by decide +kernel
theorem dL_law_559 : decode cL_law 559 = .ok (.aload_n 2, 1) := by decide +kernel
theorem dL_law_560 : decode cL_law 560 = .ok (.invokevirtual 126, 3) := by decide +kernel
theorem dL_law_563 : decode cL_law 563 = .ok (.istore 6, 2) := by decide +kernel
theorem dL_law_565 : decode cL_law 565 = .ok (.aload_n 2, 1) := by decide +kernel
theorem dL_law_566 : decode cL_law 566 = .ok (.invokevirtual 88, 3) := by decide +kernel
theorem dL_law_569 : decode cL_law 569 = .ok (.iload 5, 2) := by decide +kernel
theorem dL_law_571 : decode cL_law 571 = .ok (.if_icmp .eq 5, 3) := by decide +kernel
theorem dL_law_574 : decode cL_law 574 = .ok (.iconst 0, 1) := by decide +kernel
theorem dL_law_575 : decode cL_law 575 = .ok (.ireturn, 1) := by decide +kernel
theorem dL_law_576 : decode cL_law 576 = .ok (.iload 5, 2) := by decide +kernel
theorem dL_law_578 : decode cL_law 578 = .ok (.ifCond .ne 15, 3) := by decide +kernel
theorem dL_law_581 : decode cL_law 581 = .ok (.aload_n 3, 1) := by decide +kernel
theorem dL_law_582 : decode cL_law 582 = .ok (.iconst 0, 1) := by decide +kernel
theorem dL_law_583 : decode cL_law 583 = .ok (.laload, 1) := by decide +kernel
theorem dL_law_584 : decode cL_law 584 = .ok (.iload 6, 2) := by decide +kernel
theorem dL_law_586 : decode cL_law 586 = .ok (.i2l, 1) := by decide +kernel
theorem dL_law_587 : decode cL_law 587 = .ok (.lcmp, 1) := by decide +kernel
theorem dL_law_588 : decode cL_law 588 = .ok (.ifCond .eq 5, 3) := by decide +kernel
theorem dL_law_591 : decode cL_law 591 = .ok (.iconst 0, 1) := by decide +kernel
theorem dL_law_592 : decode cL_law 592 = .ok (.ireturn, 1) := by decide +kernel
theorem dL_law_593 : decode cL_law 593 = .ok (.goto 836, 3) := by decide +kernel
theorem dL_law_596 : decode cL_law 596 = .ok (.aload_n 1, 1) := by decide +kernel
theorem dL_law_597 : decode cL_law 597 = .ok (.aload_n 3, 1) := by decide +kernel
theorem dL_law_598 : decode cL_law 598 = .ok (.invokestatic 127, 3) := by decide +kernel
theorem dL_law_601 : decode cL_law 601 = .ok (.istore 5, 2) := by decide +kernel
theorem dL_law_603 : decode cL_law 603 = .ok (.aload_n 2, 1) := by decide +kernel
theorem dL_law_604 : decode cL_law 604 = .ok (.invokevirtual 129, 3) := by decide +kernel
theorem dL_law_607 : decode cL_law 607 = .ok (.istore 6, 2) := by decide +kernel
theorem dL_law_609 : decode cL_law 609 = .ok (.aload_n 2, 1) := by decide +kernel
theorem dL_law_610 : decode cL_law 610 = .ok (.invokevirtual 88, 3) := by decide +kernel
theorem dL_law_613 : decode cL_law 613 = .ok (.iload 5, 2) := by decide +kernel
theorem dL_law_615 : decode cL_law 615 = .ok (.if_icmp .eq 5, 3) := by decide +kernel
theorem dL_law_618 : decode cL_law 618 = .ok (.iconst 0, 1) := by decide +kernel
theorem dL_law_619 : decode cL_law 619 = .ok (.ireturn, 1) := by decide +kernel
theorem dL_law_620 : decode cL_law 620 = .ok (.iload 5, 2) := by decide +kernel
theorem dL_law_622 : decode cL_law 622 = .ok (.ifCond .ne 15, 3) := by decide +kernel
theorem dL_law_625 : decode cL_law 625 = .ok (.aload_n 3, 1) := by decide +kernel
theorem dL_law_626 : decode cL_law 626 = .ok (.iconst 0, 1) := by decide +kernel
theorem dL_law_627 : decode cL_law 627 = .ok (.laload, 1) := by decide +kernel
theorem dL_law_628 : decode cL_law 628 = .ok (.iload 6, 2) := by decide +kernel
theorem dL_law_630 : decode cL_law 630 = .ok (.i2l, 1) := by decide +kernel
theorem dL_law_631 : decode cL_law 631 = .ok (.lcmp, 1) := by decide +kernel
theorem dL_law_632 : decode cL_law 632 = .ok (.ifCond .eq 5, 3) := by decide +kernel
theorem dL_law_635 : decode cL_law 635 = .ok (.iconst 0, 1) := by decide +kernel
theorem dL_law_636 : decode cL_law 636 = .ok (.ireturn, 1) := by decide +kernel
theorem dL_law_637 : decode cL_law 637 = .ok (.goto 792, 3) := by decide +kernel
theorem dL_law_640 : decode cL_law 640 = .ok (.aload_n 1, 1) := by decide +kernel
theorem dL_law_641 : decode cL_law 641 = .ok (.invokevirtual 130, 3) := by decide +kernel
theorem dL_law_644 : decode cL_law 644 = .ok (.aload_n 2, 1) := by decide +kernel
theorem dL_law_645 : decode cL_law 645 = .ok (.invokevirtual 133, 3) := by decide +kernel
theorem dL_law_648 : decode cL_law 648 = .ok (.if_icmp .eq 781, 3) := by decide +kernel
theorem dL_law_651 : decode cL_law 651 = .ok (.iconst 0, 1) := by decide +kernel
theorem dL_law_652 : decode cL_law 652 = .ok (.ireturn, 1) := by decide +kernel
theorem dL_law_653 : decode cL_law 653 = .ok (.aload_n 1, 1) := by decide +kernel
theorem dL_law_654 : decode cL_law 654 = .ok (.aload_n 3, 1) := by decide +kernel
theorem dL_law_655 : decode cL_law 655 = .ok (.invokestatic 134, 3) := by decide +kernel
theorem dL_law_658 : decode cL_law 658 = .ok (.istore 5, 2) := by decide +kernel
theorem dL_law_660 : decode cL_law 660 = .ok (.aload_n 2, 1) := by decide +kernel
theorem dL_law_661 : decode cL_law 661 = .ok (.invokevirtual 136, 3) := by decide +kernel
theorem dL_law_664 : decode cL_law 664 = .ok (.istore 6, 2) := by decide +kernel
theorem dL_law_666 : decode cL_law 666 = .ok (.aload_n 2, 1) := by decide +kernel
theorem dL_law_667 : decode cL_law 667 = .ok (.invokevirtual 88, 3) := by decide +kernel
theorem dL_law_670 : decode cL_law 670 = .ok (.iload 5, 2) := by decide +kernel
theorem dL_law_672 : decode cL_law 672 = .ok (.if_icmp .eq 5, 3) := by decide +kernel
theorem dL_law_675 : decode cL_law 675 = .ok (.iconst 0, 1) := by decide +kernel
theorem dL_law_676 : decode cL_law 676 = .ok (.ireturn, 1) := by decide +kernel
theorem dL_law_677 : decode cL_law 677 = .ok (.iload 5, 2) := by decide +kernel
theorem dL_law_679 : decode cL_law 679 = .ok (.ifCond .ne 15, 3) := by decide +kernel
theorem dL_law_682 : decode cL_law 682 = .ok (.aload_n 3, 1) := by decide +kernel
theorem dL_law_683 : decode cL_law 683 = .ok (.iconst 0, 1) := by decide +kernel
theorem dL_law_684 : decode cL_law 684 = .ok (.laload, 1) := by decide +kernel
theorem dL_law_685 : decode cL_law 685 = .ok (.iload 6, 2) := by decide +kernel
theorem dL_law_687 : decode cL_law 687 = .ok (.i2l, 1) := by decide +kernel
theorem dL_law_688 : decode cL_law 688 = .ok (.lcmp, 1) := by decide +kernel
theorem dL_law_689 : decode cL_law 689 = .ok (.ifCond .eq 5, 3) := by decide +kernel
theorem dL_law_692 : decode cL_law 692 = .ok (.iconst 0, 1) := by decide +kernel
theorem dL_law_693 : decode cL_law 693 = .ok (.ireturn, 1) := by decide +kernel
theorem dL_law_694 : decode cL_law 694 = .ok (.goto 735, 3) := by decide +kernel
theorem dL_law_697 : decode cL_law 697 = .ok (.aload_n 1, 1) := by decide +kernel
theorem dL_law_698 : decode cL_law 698 = .ok (.aload_n 0, 1) := by decide +kernel
theorem dL_law_699 : decode cL_law 699 = .ok (.iload 4, 2) := by decide +kernel
theorem dL_law_701 : decode cL_law 701 = .ok (.iconst 1, 1) := by decide +kernel
theorem dL_law_702 : decode cL_law 702 = .ok (.iadd, 1) := by decide +kernel
theorem dL_law_703 : decode cL_law 703 = .ok (.iaload, 1) := by decide +kernel
theorem dL_law_704 : decode cL_law 704 = .ok (.aload_n 3, 1) := by decide +kernel
theorem dL_law_705 : decode cL_law 705 = .ok (.invokestatic 137, 3) := by decide +kernel
theorem dL_law_708 : decode cL_law 708 = .ok (.istore 5, 2) := by decide +kernel
theorem dL_law_710 : decode cL_law 710 = .ok (.aload_n 2, 1) := by decide +kernel
theorem dL_law_711 : decode cL_law 711 = .ok (.aload_n 0, 1) := by decide +kernel
theorem dL_law_712 : decode cL_law 712 = .ok (.iload 4, 2) := by decide +kernel
theorem dL_law_714 : decode cL_law 714 = .ok (.iconst 1, 1) := by decide +kernel
theorem dL_law_715 : decode cL_law 715 = .ok (.iadd, 1) := by decide +kernel
theorem dL_law_716 : decode cL_law 716 = .ok (.iaload, 1) := by decide +kernel
theorem dL_law_717 : decode cL_law 717 = .ok (.invokevirtual 139, 3) := by decide +kernel
theorem dL_law_720 : decode cL_law 720 = .ok (.istore 6, 2) := by decide +kernel
theorem dL_law_722 : decode cL_law 722 = .ok (.aload_n 2, 1) := by decide +kernel
theorem dL_law_723 : decode cL_law 723 = .ok (.invokevirtual 88, 3) := by decide +kernel
theorem dL_law_726 : decode cL_law 726 = .ok (.iload 5, 2) := by decide +kernel
theorem dL_law_728 : decode cL_law 728 = .ok (.if_icmp .eq 5, 3) := by decide +kernel
theorem dL_law_731 : decode cL_law 731 = .ok (.iconst 0, 1) := by decide +kernel
theorem dL_law_732 : decode cL_law 732 = .ok (.ireturn, 1) := by decide +kernel
theorem dL_law_733 : decode cL_law 733 = .ok (.iload 5, 2) := by decide +kernel
theorem dL_law_735 : decode cL_law 735 = .ok (.ifCond .ne 15, 3) := by decide +kernel
theorem dL_law_738 : decode cL_law 738 = .ok (.aload_n 3, 1) := by decide +kernel
theorem dL_law_739 : decode cL_law 739 = .ok (.iconst 0, 1) := by decide +kernel
theorem dL_law_740 : decode cL_law 740 = .ok (.laload, 1) := by decide +kernel
theorem dL_law_741 : decode cL_law 741 = .ok (.iload 6, 2) := by decide +kernel
theorem dL_law_743 : decode cL_law 743 = .ok (.i2l, 1) := by decide +kernel
theorem dL_law_744 : decode cL_law 744 = .ok (.lcmp, 1) := by decide +kernel
theorem dL_law_745 : decode cL_law 745 = .ok (.ifCond .eq 5, 3) := by decide +kernel
theorem dL_law_748 : decode cL_law 748 = .ok (.iconst 0, 1) := by decide +kernel
theorem dL_law_749 : decode cL_law 749 = .ok (.ireturn, 1) := by decide +kernel
theorem dL_law_750 : decode cL_law 750 = .ok (.goto 679, 3) := by decide +kernel
theorem dL_law_753 : decode cL_law 753 = .ok (.aload_n 1, 1) := by decide +kernel
theorem dL_law_754 : decode cL_law 754 = .ok (.aload_n 0, 1) := by decide +kernel
theorem dL_law_755 : decode cL_law 755 = .ok (.iload 4, 2) := by decide +kernel
theorem dL_law_757 : decode cL_law 757 = .ok (.iconst 1, 1) := by decide +kernel
theorem dL_law_758 : decode cL_law 758 = .ok (.iadd, 1) := by decide +kernel
theorem dL_law_759 : decode cL_law 759 = .ok (.iaload, 1) := by decide +kernel
theorem dL_law_760 : decode cL_law 760 = .ok (.aload_n 0, 1) := by decide +kernel
theorem dL_law_761 : decode cL_law 761 = .ok (.iload 4, 2) := by decide +kernel
theorem dL_law_763 : decode cL_law 763 = .ok (.iconst 2, 1) := by decide +kernel
theorem dL_law_764 : decode cL_law 764 = .ok (.iadd, 1) := by decide +kernel
theorem dL_law_765 : decode cL_law 765 = .ok (.iaload, 1) := by decide +kernel
theorem dL_law_766 : decode cL_law 766 = .ok (.aload_n 3, 1) := by decide +kernel
theorem dL_law_767 : decode cL_law 767 = .ok (.invokestatic 140, 3) := by decide +kernel
theorem dL_law_770 : decode cL_law 770 = .ok (.istore 5, 2) := by decide +kernel
theorem dL_law_772 : decode cL_law 772 = .ok (.aload_n 2, 1) := by decide +kernel
theorem dL_law_773 : decode cL_law 773 = .ok (.aload_n 0, 1) := by decide +kernel
theorem dL_law_774 : decode cL_law 774 = .ok (.iload 4, 2) := by decide +kernel
theorem dL_law_776 : decode cL_law 776 = .ok (.iconst 1, 1) := by decide +kernel
theorem dL_law_777 : decode cL_law 777 = .ok (.iadd, 1) := by decide +kernel
theorem dL_law_778 : decode cL_law 778 = .ok (.iaload, 1) := by decide +kernel
theorem dL_law_779 : decode cL_law 779 = .ok (.aload_n 0, 1) := by decide +kernel
theorem dL_law_780 : decode cL_law 780 = .ok (.iload 4, 2) := by decide +kernel
theorem dL_law_782 : decode cL_law 782 = .ok (.iconst 2, 1) := by decide +kernel
theorem dL_law_783 : decode cL_law 783 = .ok (.iadd, 1) := by decide +kernel
theorem dL_law_784 : decode cL_law 784 = .ok (.iaload, 1) := by decide +kernel
theorem dL_law_785 : decode cL_law 785 = .ok (.invokevirtual 142, 3) := by decide +kernel
theorem dL_law_788 : decode cL_law 788 = .ok (.istore 6, 2) := by decide +kernel
theorem dL_law_790 : decode cL_law 790 = .ok (.aload_n 2, 1) := by decide +kernel
theorem dL_law_791 : decode cL_law 791 = .ok (.invokevirtual 88, 3) := by decide +kernel
theorem dL_law_794 : decode cL_law 794 = .ok (.iload 5, 2) := by decide +kernel
theorem dL_law_796 : decode cL_law 796 = .ok (.if_icmp .eq 5, 3) := by decide +kernel
theorem dL_law_799 : decode cL_law 799 = .ok (.iconst 0, 1) := by decide +kernel
theorem dL_law_800 : decode cL_law 800 = .ok (.ireturn, 1) := by decide +kernel
theorem dL_law_801 : decode cL_law 801 = .ok (.iload 5, 2) := by decide +kernel
theorem dL_law_803 : decode cL_law 803 = .ok (.ifCond .ne 15, 3) := by decide +kernel
theorem dL_law_806 : decode cL_law 806 = .ok (.aload_n 3, 1) := by decide +kernel
theorem dL_law_807 : decode cL_law 807 = .ok (.iconst 0, 1) := by decide +kernel
theorem dL_law_808 : decode cL_law 808 = .ok (.laload, 1) := by decide +kernel
theorem dL_law_809 : decode cL_law 809 = .ok (.iload 6, 2) := by decide +kernel
theorem dL_law_811 : decode cL_law 811 = .ok (.i2l, 1) := by decide +kernel
theorem dL_law_812 : decode cL_law 812 = .ok (.lcmp, 1) := by decide +kernel
theorem dL_law_813 : decode cL_law 813 = .ok (.ifCond .eq 5, 3) := by decide +kernel
theorem dL_law_816 : decode cL_law 816 = .ok (.iconst 0, 1) := by decide +kernel
theorem dL_law_817 : decode cL_law 817 = .ok (.ireturn, 1) := by decide +kernel
theorem dL_law_818 : decode cL_law 818 = .ok (.goto 611, 3) := by decide +kernel
theorem dL_law_821 : decode cL_law 821 = .ok (.aload_n 1, 1) := by decide +kernel
theorem dL_law_822 : decode cL_law 822 = .ok (.aload_n 0, 1) := by decide +kernel
theorem dL_law_823 : decode cL_law 823 = .ok (.iload 4, 2) := by decide +kernel
theorem dL_law_825 : decode cL_law 825 = .ok (.iconst 1, 1) := by decide +kernel
theorem dL_law_826 : decode cL_law 826 = .ok (.iadd, 1) := by decide +kernel
theorem dL_law_827 : decode cL_law 827 = .ok (.iaload, 1) := by decide +kernel
theorem dL_law_828 : decode cL_law 828 = .ok (.aload_n 0, 1) := by decide +kernel
theorem dL_law_829 : decode cL_law 829 = .ok (.iload 4, 2) := by decide +kernel
theorem dL_law_831 : decode cL_law 831 = .ok (.iconst 2, 1) := by decide +kernel
theorem dL_law_832 : decode cL_law 832 = .ok (.iadd, 1) := by decide +kernel
theorem dL_law_833 : decode cL_law 833 = .ok (.iaload, 1) := by decide +kernel
theorem dL_law_834 : decode cL_law 834 = .ok (.aload_n 3, 1) := by decide +kernel
theorem dL_law_835 : decode cL_law 835 = .ok (.invokestatic 143, 3) := by decide +kernel
theorem dL_law_838 : decode cL_law 838 = .ok (.istore 5, 2) := by decide +kernel
theorem dL_law_840 : decode cL_law 840 = .ok (.aload_n 2, 1) := by decide +kernel
theorem dL_law_841 : decode cL_law 841 = .ok (.aload_n 0, 1) := by decide +kernel
theorem dL_law_842 : decode cL_law 842 = .ok (.iload 4, 2) := by decide +kernel
theorem dL_law_844 : decode cL_law 844 = .ok (.iconst 1, 1) := by decide +kernel
theorem dL_law_845 : decode cL_law 845 = .ok (.iadd, 1) := by decide +kernel
theorem dL_law_846 : decode cL_law 846 = .ok (.iaload, 1) := by decide +kernel
theorem dL_law_847 : decode cL_law 847 = .ok (.aload_n 0, 1) := by decide +kernel
theorem dL_law_848 : decode cL_law 848 = .ok (.iload 4, 2) := by decide +kernel
theorem dL_law_850 : decode cL_law 850 = .ok (.iconst 2, 1) := by decide +kernel
theorem dL_law_851 : decode cL_law 851 = .ok (.iadd, 1) := by decide +kernel
theorem dL_law_852 : decode cL_law 852 = .ok (.iaload, 1) := by decide +kernel
theorem dL_law_853 : decode cL_law 853 = .ok (.invokevirtual 145, 3) := by decide +kernel
theorem dL_law_856 : decode cL_law 856 = .ok (.istore 6, 2) := by decide +kernel
theorem dL_law_858 : decode cL_law 858 = .ok (.aload_n 2, 1) := by decide +kernel
theorem dL_law_859 : decode cL_law 859 = .ok (.invokevirtual 88, 3) := by decide +kernel
theorem dL_law_862 : decode cL_law 862 = .ok (.iload 5, 2) := by decide +kernel
theorem dL_law_864 : decode cL_law 864 = .ok (.if_icmp .eq 5, 3) := by decide +kernel
theorem dL_law_867 : decode cL_law 867 = .ok (.iconst 0, 1) := by decide +kernel
theorem dL_law_868 : decode cL_law 868 = .ok (.ireturn, 1) := by decide +kernel
theorem dL_law_869 : decode cL_law 869 = .ok (.iload 5, 2) := by decide +kernel
theorem dL_law_871 : decode cL_law 871 = .ok (.ifCond .ne 15, 3) := by decide +kernel
theorem dL_law_874 : decode cL_law 874 = .ok (.aload_n 3, 1) := by decide +kernel
theorem dL_law_875 : decode cL_law 875 = .ok (.iconst 0, 1) := by decide +kernel
theorem dL_law_876 : decode cL_law 876 = .ok (.laload, 1) := by decide +kernel
theorem dL_law_877 : decode cL_law 877 = .ok (.iload 6, 2) := by decide +kernel
theorem dL_law_879 : decode cL_law 879 = .ok (.i2l, 1) := by decide +kernel
theorem dL_law_880 : decode cL_law 880 = .ok (.lcmp, 1) := by decide +kernel
theorem dL_law_881 : decode cL_law 881 = .ok (.ifCond .eq 5, 3) := by decide +kernel
theorem dL_law_884 : decode cL_law 884 = .ok (.iconst 0, 1) := by decide +kernel
theorem dL_law_885 : decode cL_law 885 = .ok (.ireturn, 1) := by decide +kernel
theorem dL_law_886 : decode cL_law 886 = .ok (.goto 543, 3) := by decide +kernel
theorem dL_law_889 : decode cL_law 889 = .ok (.aload_n 1, 1) := by decide +kernel
theorem dL_law_890 : decode cL_law 890 = .ok (.aload_n 0, 1) := by decide +kernel
theorem dL_law_891 : decode cL_law 891 = .ok (.iload 4, 2) := by decide +kernel
theorem dL_law_893 : decode cL_law 893 = .ok (.iconst 1, 1) := by decide +kernel
theorem dL_law_894 : decode cL_law 894 = .ok (.iadd, 1) := by decide +kernel
theorem dL_law_895 : decode cL_law 895 = .ok (.iaload, 1) := by decide +kernel
theorem dL_law_896 : decode cL_law 896 = .ok (.aload_n 0, 1) := by decide +kernel
theorem dL_law_897 : decode cL_law 897 = .ok (.iload 4, 2) := by decide +kernel
theorem dL_law_899 : decode cL_law 899 = .ok (.iconst 2, 1) := by decide +kernel
theorem dL_law_900 : decode cL_law 900 = .ok (.iadd, 1) := by decide +kernel
theorem dL_law_901 : decode cL_law 901 = .ok (.iaload, 1) := by decide +kernel
theorem dL_law_902 : decode cL_law 902 = .ok (.aload_n 3, 1) := by decide +kernel
theorem dL_law_903 : decode cL_law 903 = .ok (.invokestatic 146, 3) := by decide +kernel
theorem dL_law_906 : decode cL_law 906 = .ok (.istore 5, 2) := by decide +kernel
theorem dL_law_908 : decode cL_law 908 = .ok (.aload_n 2, 1) := by decide +kernel
theorem dL_law_909 : decode cL_law 909 = .ok (.aload_n 0, 1) := by decide +kernel
theorem dL_law_910 : decode cL_law 910 = .ok (.iload 4, 2) := by decide +kernel
theorem dL_law_912 : decode cL_law 912 = .ok (.iconst 1, 1) := by decide +kernel
theorem dL_law_913 : decode cL_law 913 = .ok (.iadd, 1) := by decide +kernel
theorem dL_law_914 : decode cL_law 914 = .ok (.iaload, 1) := by decide +kernel
theorem dL_law_915 : decode cL_law 915 = .ok (.aload_n 0, 1) := by decide +kernel
theorem dL_law_916 : decode cL_law 916 = .ok (.iload 4, 2) := by decide +kernel
theorem dL_law_918 : decode cL_law 918 = .ok (.iconst 2, 1) := by decide +kernel
theorem dL_law_919 : decode cL_law 919 = .ok (.iadd, 1) := by decide +kernel
theorem dL_law_920 : decode cL_law 920 = .ok (.iaload, 1) := by decide +kernel
theorem dL_law_921 : decode cL_law 921 = .ok (.invokevirtual 148, 3) := by decide +kernel
theorem dL_law_924 : decode cL_law 924 = .ok (.istore 6, 2) := by decide +kernel
theorem dL_law_926 : decode cL_law 926 = .ok (.aload_n 2, 1) := by decide +kernel
theorem dL_law_927 : decode cL_law 927 = .ok (.invokevirtual 88, 3) := by decide +kernel
theorem dL_law_930 : decode cL_law 930 = .ok (.iload 5, 2) := by decide +kernel
theorem dL_law_932 : decode cL_law 932 = .ok (.if_icmp .eq 5, 3) := by decide +kernel
theorem dL_law_935 : decode cL_law 935 = .ok (.iconst 0, 1) := by decide +kernel
theorem dL_law_936 : decode cL_law 936 = .ok (.ireturn, 1) := by decide +kernel
theorem dL_law_937 : decode cL_law 937 = .ok (.iload 5, 2) := by decide +kernel
theorem dL_law_939 : decode cL_law 939 = .ok (.ifCond .ne 15, 3) := by decide +kernel
theorem dL_law_942 : decode cL_law 942 = .ok (.aload_n 3, 1) := by decide +kernel
theorem dL_law_943 : decode cL_law 943 = .ok (.iconst 0, 1) := by decide +kernel
theorem dL_law_944 : decode cL_law 944 = .ok (.laload, 1) := by decide +kernel
theorem dL_law_945 : decode cL_law 945 = .ok (.iload 6, 2) := by decide +kernel
theorem dL_law_947 : decode cL_law 947 = .ok (.i2l, 1) := by decide +kernel
theorem dL_law_948 : decode cL_law 948 = .ok (.lcmp, 1) := by decide +kernel
theorem dL_law_949 : decode cL_law 949 = .ok (.ifCond .eq 5, 3) := by decide +kernel
theorem dL_law_952 : decode cL_law 952 = .ok (.iconst 0, 1) := by decide +kernel
theorem dL_law_953 : decode cL_law 953 = .ok (.ireturn, 1) := by decide +kernel
theorem dL_law_954 : decode cL_law 954 = .ok (.goto 475, 3) := by decide +kernel
theorem dL_law_957 : decode cL_law 957 = .ok (.aload_n 1, 1) := by decide +kernel
theorem dL_law_958 : decode cL_law 958 = .ok (.aload_n 0, 1) := by decide +kernel
theorem dL_law_959 : decode cL_law 959 = .ok (.iload 4, 2) := by decide +kernel
theorem dL_law_961 : decode cL_law 961 = .ok (.iconst 1, 1) := by decide +kernel
theorem dL_law_962 : decode cL_law 962 = .ok (.iadd, 1) := by decide +kernel
theorem dL_law_963 : decode cL_law 963 = .ok (.iaload, 1) := by decide +kernel
theorem dL_law_964 : decode cL_law 964 = .ok (.aload_n 0, 1) := by decide +kernel
theorem dL_law_965 : decode cL_law 965 = .ok (.iload 4, 2) := by decide +kernel
theorem dL_law_967 : decode cL_law 967 = .ok (.iconst 2, 1) := by decide +kernel
theorem dL_law_968 : decode cL_law 968 = .ok (.iadd, 1) := by decide +kernel
theorem dL_law_969 : decode cL_law 969 = .ok (.iaload, 1) := by decide +kernel
theorem dL_law_970 : decode cL_law 970 = .ok (.aload_n 3, 1) := by decide +kernel
theorem dL_law_971 : decode cL_law 971 = .ok (.invokestatic 149, 3) := by decide +kernel
theorem dL_law_974 : decode cL_law 974 = .ok (.istore 5, 2) := by decide +kernel
theorem dL_law_976 : decode cL_law 976 = .ok (.aload_n 2, 1) := by decide +kernel
theorem dL_law_977 : decode cL_law 977 = .ok (.aload_n 0, 1) := by decide +kernel
theorem dL_law_978 : decode cL_law 978 = .ok (.iload 4, 2) := by decide +kernel
theorem dL_law_980 : decode cL_law 980 = .ok (.iconst 1, 1) := by decide +kernel
theorem dL_law_981 : decode cL_law 981 = .ok (.iadd, 1) := by decide +kernel
theorem dL_law_982 : decode cL_law 982 = .ok (.iaload, 1) := by decide +kernel
theorem dL_law_983 : decode cL_law 983 = .ok (.aload_n 0, 1) := by decide +kernel
theorem dL_law_984 : decode cL_law 984 = .ok (.iload 4, 2) := by decide +kernel
theorem dL_law_986 : decode cL_law 986 = .ok (.iconst 2, 1) := by decide +kernel
theorem dL_law_987 : decode cL_law 987 = .ok (.iadd, 1) := by decide +kernel
theorem dL_law_988 : decode cL_law 988 = .ok (.iaload, 1) := by decide +kernel
theorem dL_law_989 : decode cL_law 989 = .ok (.invokevirtual 151, 3) := by decide +kernel
theorem dL_law_992 : decode cL_law 992 = .ok (.istore 6, 2) := by decide +kernel
theorem dL_law_994 : decode cL_law 994 = .ok (.aload_n 2, 1) := by decide +kernel
theorem dL_law_995 : decode cL_law 995 = .ok (.invokevirtual 88, 3) := by decide +kernel
theorem dL_law_998 : decode cL_law 998 = .ok (.iload 5, 2) := by decide +kernel
theorem dL_law_1000 : decode cL_law 1000 = .ok (.if_icmp .eq 5, 3) := by decide +kernel
theorem dL_law_1003 : decode cL_law 1003 = .ok (.iconst 0, 1) := by decide +kernel
theorem dL_law_1004 : decode cL_law 1004 = .ok (.ireturn, 1) := by decide +kernel
theorem dL_law_1005 : decode cL_law 1005 = .ok (.iload 5, 2) := by decide +kernel
theorem dL_law_1007 : decode cL_law 1007 = .ok (.ifCond .ne 15, 3) := by decide +kernel
theorem dL_law_1010 : decode cL_law 1010 = .ok (.aload_n 3, 1) := by decide +kernel
theorem dL_law_1011 : decode cL_law 1011 = .ok (.iconst 0, 1) := by decide +kernel
theorem dL_law_1012 : decode cL_law 1012 = .ok (.laload, 1) := by decide +kernel
theorem dL_law_1013 : decode cL_law 1013 = .ok (.iload 6, 2) := by decide +kernel
theorem dL_law_1015 : decode cL_law 1015 = .ok (.i2l, 1) := by decide +kernel
theorem dL_law_1016 : decode cL_law 1016 = .ok (.lcmp, 1) := by decide +kernel
theorem dL_law_1017 : decode cL_law 1017 = .ok (.ifCond .eq 5, 3) := by decide +kernel
theorem dL_law_1020 : decode cL_law 1020 = .ok (.iconst 0, 1) := by decide +kernel
theorem dL_law_1021 : decode cL_law 1021 = .ok (.ireturn, 1) := by decide +kernel
theorem dL_law_1022 : decode cL_law 1022 = .ok (.goto 407, 3) := by decide +kernel
theorem dL_law_1025 : decode cL_law 1025 = .ok (.aload_n 1, 1) := by decide +kernel
theorem dL_law_1026 : decode cL_law 1026 = .ok (.aload_n 0, 1) := by decide +kernel
theorem dL_law_1027 : decode cL_law 1027 = .ok (.iload 4, 2) := by decide +kernel
theorem dL_law_1029 : decode cL_law 1029 = .ok (.iconst 1, 1) := by decide +kernel
theorem dL_law_1030 : decode cL_law 1030 = .ok (.iadd, 1) := by decide +kernel
theorem dL_law_1031 : decode cL_law 1031 = .ok (.iaload, 1) := by decide +kernel
theorem dL_law_1032 : decode cL_law 1032 = .ok (.aload_n 3, 1) := by decide +kernel
theorem dL_law_1033 : decode cL_law 1033 = .ok (.invokestatic 152, 3) := by decide +kernel
theorem dL_law_1036 : decode cL_law 1036 = .ok (.istore 5, 2) := by decide +kernel
theorem dL_law_1038 : decode cL_law 1038 = .ok (.aload_n 2, 1) := by decide +kernel
theorem dL_law_1039 : decode cL_law 1039 = .ok (.aload_n 0, 1) := by decide +kernel
theorem dL_law_1040 : decode cL_law 1040 = .ok (.iload 4, 2) := by decide +kernel
theorem dL_law_1042 : decode cL_law 1042 = .ok (.iconst 1, 1) := by decide +kernel
theorem dL_law_1043 : decode cL_law 1043 = .ok (.iadd, 1) := by decide +kernel
theorem dL_law_1044 : decode cL_law 1044 = .ok (.iaload, 1) := by decide +kernel
theorem dL_law_1045 : decode cL_law 1045 = .ok (.invokevirtual 154, 3) := by decide +kernel
theorem dL_law_1048 : decode cL_law 1048 = .ok (.istore 6, 2) := by decide +kernel
theorem dL_law_1050 : decode cL_law 1050 = .ok (.aload_n 2, 1) := by decide +kernel
theorem dL_law_1051 : decode cL_law 1051 = .ok (.invokevirtual 88, 3) := by decide +kernel
theorem dL_law_1054 : decode cL_law 1054 = .ok (.iload 5, 2) := by decide +kernel
theorem dL_law_1056 : decode cL_law 1056 = .ok (.if_icmp .eq 5, 3) := by decide +kernel
theorem dL_law_1059 : decode cL_law 1059 = .ok (.iconst 0, 1) := by decide +kernel
theorem dL_law_1060 : decode cL_law 1060 = .ok (.ireturn, 1) := by decide +kernel
theorem dL_law_1061 : decode cL_law 1061 = .ok (.iload 5, 2) := by decide +kernel
theorem dL_law_1063 : decode cL_law 1063 = .ok (.ifCond .ne 15, 3) := by decide +kernel
theorem dL_law_1066 : decode cL_law 1066 = .ok (.aload_n 3, 1) := by decide +kernel
theorem dL_law_1067 : decode cL_law 1067 = .ok (.iconst 0, 1) := by decide +kernel
theorem dL_law_1068 : decode cL_law 1068 = .ok (.laload, 1) := by decide +kernel
theorem dL_law_1069 : decode cL_law 1069 = .ok (.iload 6, 2) := by decide +kernel
theorem dL_law_1071 : decode cL_law 1071 = .ok (.i2l, 1) := by decide +kernel
theorem dL_law_1072 : decode cL_law 1072 = .ok (.lcmp, 1) := by decide +kernel
theorem dL_law_1073 : decode cL_law 1073 = .ok (.ifCond .eq 5, 3) := by decide +kernel
theorem dL_law_1076 : decode cL_law 1076 = .ok (.iconst 0, 1) := by decide +kernel
theorem dL_law_1077 : decode cL_law 1077 = .ok (.ireturn, 1) := by decide +kernel
theorem dL_law_1078 : decode cL_law 1078 = .ok (.goto 351, 3) := by decide +kernel
theorem dL_law_1081 : decode cL_law 1081 = .ok (.aload_n 1, 1) := by decide +kernel
theorem dL_law_1082 : decode cL_law 1082 = .ok (.aload_n 0, 1) := by decide +kernel
theorem dL_law_1083 : decode cL_law 1083 = .ok (.iload 4, 2) := by decide +kernel
theorem dL_law_1085 : decode cL_law 1085 = .ok (.iconst 1, 1) := by decide +kernel
theorem dL_law_1086 : decode cL_law 1086 = .ok (.iadd, 1) := by decide +kernel
theorem dL_law_1087 : decode cL_law 1087 = .ok (.iaload, 1) := by decide +kernel
theorem dL_law_1088 : decode cL_law 1088 = .ok (.aload_n 0, 1) := by decide +kernel
theorem dL_law_1089 : decode cL_law 1089 = .ok (.iload 4, 2) := by decide +kernel
theorem dL_law_1091 : decode cL_law 1091 = .ok (.iconst 2, 1) := by decide +kernel
theorem dL_law_1092 : decode cL_law 1092 = .ok (.iadd, 1) := by decide +kernel
theorem dL_law_1093 : decode cL_law 1093 = .ok (.iaload, 1) := by decide +kernel
theorem dL_law_1094 : decode cL_law 1094 = .ok (.aload_n 3, 1) := by decide +kernel
theorem dL_law_1095 : decode cL_law 1095 = .ok (.invokestatic 155, 3) := by decide +kernel
theorem dL_law_1098 : decode cL_law 1098 = .ok (.istore 5, 2) := by decide +kernel
theorem dL_law_1100 : decode cL_law 1100 = .ok (.aload_n 2, 1) := by decide +kernel
theorem dL_law_1101 : decode cL_law 1101 = .ok (.aload_n 0, 1) := by decide +kernel
theorem dL_law_1102 : decode cL_law 1102 = .ok (.iload 4, 2) := by decide +kernel
theorem dL_law_1104 : decode cL_law 1104 = .ok (.iconst 1, 1) := by decide +kernel
theorem dL_law_1105 : decode cL_law 1105 = .ok (.iadd, 1) := by decide +kernel
theorem dL_law_1106 : decode cL_law 1106 = .ok (.iaload, 1) := by decide +kernel
theorem dL_law_1107 : decode cL_law 1107 = .ok (.aload_n 0, 1) := by decide +kernel
theorem dL_law_1108 : decode cL_law 1108 = .ok (.iload 4, 2) := by decide +kernel
theorem dL_law_1110 : decode cL_law 1110 = .ok (.iconst 2, 1) := by decide +kernel
theorem dL_law_1111 : decode cL_law 1111 = .ok (.iadd, 1) := by decide +kernel
theorem dL_law_1112 : decode cL_law 1112 = .ok (.iaload, 1) := by decide +kernel
theorem dL_law_1113 : decode cL_law 1113 = .ok (.invokevirtual 157, 3) := by decide +kernel
theorem dL_law_1116 : decode cL_law 1116 = .ok (.istore 6, 2) := by decide +kernel
theorem dL_law_1118 : decode cL_law 1118 = .ok (.aload_n 2, 1) := by decide +kernel
theorem dL_law_1119 : decode cL_law 1119 = .ok (.invokevirtual 88, 3) := by decide +kernel
theorem dL_law_1122 : decode cL_law 1122 = .ok (.iload 5, 2) := by decide +kernel
theorem dL_law_1124 : decode cL_law 1124 = .ok (.if_icmp .eq 5, 3) := by decide +kernel
theorem dL_law_1127 : decode cL_law 1127 = .ok (.iconst 0, 1) := by decide +kernel
theorem dL_law_1128 : decode cL_law 1128 = .ok (.ireturn, 1) := by decide +kernel
theorem dL_law_1129 : decode cL_law 1129 = .ok (.iload 5, 2) := by decide +kernel
theorem dL_law_1131 : decode cL_law 1131 = .ok (.ifCond .ne 15, 3) := by decide +kernel
theorem dL_law_1134 : decode cL_law 1134 = .ok (.aload_n 3, 1) := by decide +kernel
theorem dL_law_1135 : decode cL_law 1135 = .ok (.iconst 0, 1) := by decide +kernel
theorem dL_law_1136 : decode cL_law 1136 = .ok (.laload, 1) := by decide +kernel
theorem dL_law_1137 : decode cL_law 1137 = .ok (.iload 6, 2) := by decide +kernel
theorem dL_law_1139 : decode cL_law 1139 = .ok (.i2l, 1) := by decide +kernel
theorem dL_law_1140 : decode cL_law 1140 = .ok (.lcmp, 1) := by decide +kernel
theorem dL_law_1141 : decode cL_law 1141 = .ok (.ifCond .eq 5, 3) := by decide +kernel
theorem dL_law_1144 : decode cL_law 1144 = .ok (.iconst 0, 1) := by decide +kernel
theorem dL_law_1145 : decode cL_law 1145 = .ok (.ireturn, 1) := by decide +kernel
theorem dL_law_1146 : decode cL_law 1146 = .ok (.goto 283, 3) := by decide +kernel
theorem dL_law_1149 : decode cL_law 1149 = .ok (.aload_n 1, 1) := by decide +kernel
theorem dL_law_1150 : decode cL_law 1150 = .ok (.aload_n 0, 1) := by decide +kernel
theorem dL_law_1151 : decode cL_law 1151 = .ok (.iload 4, 2) := by decide +kernel
theorem dL_law_1153 : decode cL_law 1153 = .ok (.iconst 1, 1) := by decide +kernel
theorem dL_law_1154 : decode cL_law 1154 = .ok (.iadd, 1) := by decide +kernel
theorem dL_law_1155 : decode cL_law 1155 = .ok (.iaload, 1) := by decide +kernel
theorem dL_law_1156 : decode cL_law 1156 = .ok (.aload_n 3, 1) := by decide +kernel
theorem dL_law_1157 : decode cL_law 1157 = .ok (.invokestatic 158, 3) := by decide +kernel
theorem dL_law_1160 : decode cL_law 1160 = .ok (.istore 5, 2) := by decide +kernel
theorem dL_law_1162 : decode cL_law 1162 = .ok (.aload_n 2, 1) := by decide +kernel
theorem dL_law_1163 : decode cL_law 1163 = .ok (.aload_n 0, 1) := by decide +kernel
theorem dL_law_1164 : decode cL_law 1164 = .ok (.iload 4, 2) := by decide +kernel
theorem dL_law_1166 : decode cL_law 1166 = .ok (.iconst 1, 1) := by decide +kernel
theorem dL_law_1167 : decode cL_law 1167 = .ok (.iadd, 1) := by decide +kernel
theorem dL_law_1168 : decode cL_law 1168 = .ok (.iaload, 1) := by decide +kernel
theorem dL_law_1169 : decode cL_law 1169 = .ok (.invokevirtual 160, 3) := by decide +kernel
theorem dL_law_1172 : decode cL_law 1172 = .ok (.istore 6, 2) := by decide +kernel
theorem dL_law_1174 : decode cL_law 1174 = .ok (.aload_n 2, 1) := by decide +kernel
theorem dL_law_1175 : decode cL_law 1175 = .ok (.invokevirtual 88, 3) := by decide +kernel
theorem dL_law_1178 : decode cL_law 1178 = .ok (.iload 5, 2) := by decide +kernel
theorem dL_law_1180 : decode cL_law 1180 = .ok (.if_icmp .eq 5, 3) := by decide +kernel
theorem dL_law_1183 : decode cL_law 1183 = .ok (.iconst 0, 1) := by decide +kernel
theorem dL_law_1184 : decode cL_law 1184 = .ok (.ireturn, 1) := by decide +kernel
theorem dL_law_1185 : decode cL_law 1185 = .ok (.iload 5, 2) := by decide +kernel
theorem dL_law_1187 : decode cL_law 1187 = .ok (.ifCond .ne 15, 3) := by decide +kernel
theorem dL_law_1190 : decode cL_law 1190 = .ok (.aload_n 3, 1) := by decide +kernel
theorem dL_law_1191 : decode cL_law 1191 = .ok (.iconst 0, 1) := by decide +kernel
theorem dL_law_1192 : decode cL_law 1192 = .ok (.laload, 1) := by decide +kernel
theorem dL_law_1193 : decode cL_law 1193 = .ok (.iload 6, 2) := by decide +kernel
theorem dL_law_1195 : decode cL_law 1195 = .ok (.i2l, 1) := by decide +kernel
theorem dL_law_1196 : decode cL_law 1196 = .ok (.lcmp, 1) := by decide +kernel
theorem dL_law_1197 : decode cL_law 1197 = .ok (.ifCond .eq 5, 3) := by decide +kernel
theorem dL_law_1200 : decode cL_law 1200 = .ok (.iconst 0, 1) := by decide +kernel
theorem dL_law_1201 : decode cL_law 1201 = .ok (.ireturn, 1) := by decide +kernel
theorem dL_law_1202 : decode cL_law 1202 = .ok (.goto 227, 3) := by decide +kernel
theorem dL_law_1205 : decode cL_law 1205 = .ok (.aload_n 1, 1) := by decide +kernel
theorem dL_law_1206 : decode cL_law 1206 = .ok (.aload_n 0, 1) := by decide +kernel
theorem dL_law_1207 : decode cL_law 1207 = .ok (.iload 4, 2) := by decide +kernel
theorem dL_law_1209 : decode cL_law 1209 = .ok (.iconst 1, 1) := by decide +kernel
theorem dL_law_1210 : decode cL_law 1210 = .ok (.iadd, 1) := by decide +kernel
theorem dL_law_1211 : decode cL_law 1211 = .ok (.iaload, 1) := by decide +kernel
theorem dL_law_1212 : decode cL_law 1212 = .ok (.aload_n 3, 1) := by decide +kernel
theorem dL_law_1213 : decode cL_law 1213 = .ok (.invokestatic 161, 3) := by decide +kernel
theorem dL_law_1216 : decode cL_law 1216 = .ok (.istore 5, 2) := by decide +kernel
theorem dL_law_1218 : decode cL_law 1218 = .ok (.aload_n 2, 1) := by decide +kernel
theorem dL_law_1219 : decode cL_law 1219 = .ok (.aload_n 0, 1) := by decide +kernel
theorem dL_law_1220 : decode cL_law 1220 = .ok (.iload 4, 2) := by decide +kernel
theorem dL_law_1222 : decode cL_law 1222 = .ok (.iconst 1, 1) := by decide +kernel
theorem dL_law_1223 : decode cL_law 1223 = .ok (.iadd, 1) := by decide +kernel
theorem dL_law_1224 : decode cL_law 1224 = .ok (.iaload, 1) := by decide +kernel
theorem dL_law_1225 : decode cL_law 1225 = .ok (.invokevirtual 163, 3) := by decide +kernel
theorem dL_law_1228 : decode cL_law 1228 = .ok (.istore 6, 2) := by decide +kernel
theorem dL_law_1230 : decode cL_law 1230 = .ok (.aload_n 2, 1) := by decide +kernel
theorem dL_law_1231 : decode cL_law 1231 = .ok (.invokevirtual 88, 3) := by decide +kernel
theorem dL_law_1234 : decode cL_law 1234 = .ok (.iload 5, 2) := by decide +kernel
theorem dL_law_1236 : decode cL_law 1236 = .ok (.if_icmp .eq 5, 3) := by decide +kernel
theorem dL_law_1239 : decode cL_law 1239 = .ok (.iconst 0, 1) := by decide +kernel
theorem dL_law_1240 : decode cL_law 1240 = .ok (.ireturn, 1) := by decide +kernel
theorem dL_law_1241 : decode cL_law 1241 = .ok (.iload 5, 2) := by decide +kernel
theorem dL_law_1243 : decode cL_law 1243 = .ok (.ifCond .ne 15, 3) := by decide +kernel
theorem dL_law_1246 : decode cL_law 1246 = .ok (.aload_n 3, 1) := by decide +kernel
theorem dL_law_1247 : decode cL_law 1247 = .ok (.iconst 0, 1) := by decide +kernel
theorem dL_law_1248 : decode cL_law 1248 = .ok (.laload, 1) := by decide +kernel
theorem dL_law_1249 : decode cL_law 1249 = .ok (.iload 6, 2) := by decide +kernel
theorem dL_law_1251 : decode cL_law 1251 = .ok (.i2l, 1) := by decide +kernel
theorem dL_law_1252 : decode cL_law 1252 = .ok (.lcmp, 1) := by decide +kernel
theorem dL_law_1253 : decode cL_law 1253 = .ok (.ifCond .eq 5, 3) := by decide +kernel
theorem dL_law_1256 : decode cL_law 1256 = .ok (.iconst 0, 1) := by decide +kernel
theorem dL_law_1257 : decode cL_law 1257 = .ok (.ireturn, 1) := by decide +kernel
theorem dL_law_1258 : decode cL_law 1258 = .ok (.goto 171, 3) := by decide +kernel
theorem dL_law_1261 : decode cL_law 1261 = .ok (.aload_n 1, 1) := by decide +kernel
theorem dL_law_1262 : decode cL_law 1262 = .ok (.aload_n 3, 1) := by decide +kernel
theorem dL_law_1263 : decode cL_law 1263 = .ok (.invokestatic 164, 3) := by decide +kernel
theorem dL_law_1266 : decode cL_law 1266 = .ok (.istore 5, 2) := by decide +kernel
theorem dL_law_1268 : decode cL_law 1268 = .ok (.aload_n 2, 1) := by decide +kernel
theorem dL_law_1269 : decode cL_law 1269 = .ok (.invokevirtual 166, 3) := by decide +kernel
theorem dL_law_1272 : decode cL_law 1272 = .ok (.istore 6, 2) := by decide +kernel
theorem dL_law_1274 : decode cL_law 1274 = .ok (.aload_n 2, 1) := by decide +kernel
theorem dL_law_1275 : decode cL_law 1275 = .ok (.invokevirtual 88, 3) := by decide +kernel
theorem dL_law_1278 : decode cL_law 1278 = .ok (.iload 5, 2) := by decide +kernel
theorem dL_law_1280 : decode cL_law 1280 = .ok (.if_icmp .eq 5, 3) := by decide +kernel
theorem dL_law_1283 : decode cL_law 1283 = .ok (.iconst 0, 1) := by decide +kernel
theorem dL_law_1284 : decode cL_law 1284 = .ok (.ireturn, 1) := by decide +kernel
theorem dL_law_1285 : decode cL_law 1285 = .ok (.iload 5, 2) := by decide +kernel
theorem dL_law_1287 : decode cL_law 1287 = .ok (.ifCond .ne 15, 3) := by decide +kernel
theorem dL_law_1290 : decode cL_law 1290 = .ok (.aload_n 3, 1) := by decide +kernel
theorem dL_law_1291 : decode cL_law 1291 = .ok (.iconst 0, 1) := by decide +kernel
theorem dL_law_1292 : decode cL_law 1292 = .ok (.laload, 1) := by decide +kernel
theorem dL_law_1293 : decode cL_law 1293 = .ok (.iload 6, 2) := by decide +kernel
theorem dL_law_1295 : decode cL_law 1295 = .ok (.i2l, 1) := by decide +kernel
theorem dL_law_1296 : decode cL_law 1296 = .ok (.lcmp, 1) := by decide +kernel
theorem dL_law_1297 : decode cL_law 1297 = .ok (.ifCond .eq 5, 3) := by decide +kernel
theorem dL_law_1300 : decode cL_law 1300 = .ok (.iconst 0, 1) := by decide +kernel
theorem dL_law_1301 : decode cL_law 1301 = .ok (.ireturn, 1) := by decide +kernel
theorem dL_law_1302 : decode cL_law 1302 = .ok (.goto 127, 3) := by decide +kernel
theorem dL_law_1305 : decode cL_law 1305 = .ok (.aload_n 1, 1) := by decide +kernel
theorem dL_law_1306 : decode cL_law 1306 = .ok (.aload_n 0, 1) := by decide +kernel
theorem dL_law_1307 : decode cL_law 1307 = .ok (.iload 4, 2) := by decide +kernel
theorem dL_law_1309 : decode cL_law 1309 = .ok (.iconst 1, 1) := by decide +kernel
theorem dL_law_1310 : decode cL_law 1310 = .ok (.iadd, 1) := by decide +kernel
theorem dL_law_1311 : decode cL_law 1311 = .ok (.iaload, 1) := by decide +kernel
theorem dL_law_1312 : decode cL_law 1312 = .ok (.aload_n 3, 1) := by decide +kernel
theorem dL_law_1313 : decode cL_law 1313 = .ok (.invokestatic 167, 3) := by decide +kernel
theorem dL_law_1316 : decode cL_law 1316 = .ok (.istore 5, 2) := by decide +kernel
theorem dL_law_1318 : decode cL_law 1318 = .ok (.aload_n 2, 1) := by decide +kernel
theorem dL_law_1319 : decode cL_law 1319 = .ok (.aload_n 0, 1) := by decide +kernel
theorem dL_law_1320 : decode cL_law 1320 = .ok (.iload 4, 2) := by decide +kernel
theorem dL_law_1322 : decode cL_law 1322 = .ok (.iconst 1, 1) := by decide +kernel
theorem dL_law_1323 : decode cL_law 1323 = .ok (.iadd, 1) := by decide +kernel
theorem dL_law_1324 : decode cL_law 1324 = .ok (.iaload, 1) := by decide +kernel
theorem dL_law_1325 : decode cL_law 1325 = .ok (.invokevirtual 169, 3) := by decide +kernel
theorem dL_law_1328 : decode cL_law 1328 = .ok (.istore 6, 2) := by decide +kernel
theorem dL_law_1330 : decode cL_law 1330 = .ok (.aload_n 2, 1) := by decide +kernel
theorem dL_law_1331 : decode cL_law 1331 = .ok (.invokevirtual 88, 3) := by decide +kernel
theorem dL_law_1334 : decode cL_law 1334 = .ok (.iload 5, 2) := by decide +kernel
theorem dL_law_1336 : decode cL_law 1336 = .ok (.if_icmp .eq 5, 3) := by decide +kernel
theorem dL_law_1339 : decode cL_law 1339 = .ok (.iconst 0, 1) := by decide +kernel
theorem dL_law_1340 : decode cL_law 1340 = .ok (.ireturn, 1) := by decide +kernel
theorem dL_law_1341 : decode cL_law 1341 = .ok (.iload 5, 2) := by decide +kernel
theorem dL_law_1343 : decode cL_law 1343 = .ok (.ifCond .ne 15, 3) := by decide +kernel
theorem dL_law_1346 : decode cL_law 1346 = .ok (.aload_n 3, 1) := by decide +kernel
theorem dL_law_1347 : decode cL_law 1347 = .ok (.iconst 0, 1) := by decide +kernel
theorem dL_law_1348 : decode cL_law 1348 = .ok (.laload, 1) := by decide +kernel
theorem dL_law_1349 : decode cL_law 1349 = .ok (.iload 6, 2) := by decide +kernel
theorem dL_law_1351 : decode cL_law 1351 = .ok (.i2l, 1) := by decide +kernel
theorem dL_law_1352 : decode cL_law 1352 = .ok (.lcmp, 1) := by decide +kernel
theorem dL_law_1353 : decode cL_law 1353 = .ok (.ifCond .eq 5, 3) := by decide +kernel
theorem dL_law_1356 : decode cL_law 1356 = .ok (.iconst 0, 1) := by decide +kernel
theorem dL_law_1357 : decode cL_law 1357 = .ok (.ireturn, 1) := by decide +kernel
theorem dL_law_1358 : decode cL_law 1358 = .ok (.goto 71, 3) := by decide +kernel
theorem dL_law_1361 : decode cL_law 1361 = .ok (.aload_n 1, 1) := by decide +kernel
theorem dL_law_1362 : decode cL_law 1362 = .ok (.invokevirtual 170, 3) := by decide +kernel
theorem dL_law_1365 : decode cL_law 1365 = .ok (.aload_n 2, 1) := by decide +kernel
theorem dL_law_1366 : decode cL_law 1366 = .ok (.invokevirtual 173, 3) := by decide +kernel
theorem dL_law_1369 : decode cL_law 1369 = .ok (.if_icmp .eq 60, 3) := by decide +kernel
theorem dL_law_1372 : decode cL_law 1372 = .ok (.iconst 0, 1) := by decide +kernel
theorem dL_law_1373 : decode cL_law 1373 = .ok (.ireturn, 1) := by decide +kernel
theorem dL_law_1374 : decode cL_law 1374 = .ok (.aload_n 1, 1) := by decide +kernel
theorem dL_law_1375 : decode cL_law 1375 = .ok (.invokevirtual 174, 3) := by decide +kernel
theorem dL_law_1378 : decode cL_law 1378 = .ok (.dstore 5, 2) := by decide +kernel
theorem dL_law_1380 : decode cL_law 1380 = .ok (.aload_n 2, 1) := by decide +kernel
theorem dL_law_1381 : decode cL_law 1381 = .ok (.invokevirtual 178, 3) := by decide +kernel
theorem dL_law_1384 : decode cL_law 1384 = .ok (.dstore 7, 2) := by decide +kernel
theorem dL_law_1386 : decode cL_law 1386 = .ok (.dload 5, 2) := by decide +kernel
theorem dL_law_1388 : decode cL_law 1388 = .ok (.dload 7, 2) := by decide +kernel
theorem dL_law_1390 : decode cL_law 1390 = .ok (.dcmp .l, 1) := by decide +kernel
theorem dL_law_1391 : decode cL_law 1391 = .ok (.ifCond .eq 21, 3) := by decide +kernel
theorem dL_law_1394 : decode cL_law 1394 = .ok (.dload 5, 2) := by decide +kernel
theorem dL_law_1396 : decode cL_law 1396 = .ok (.dload 5, 2) := by decide +kernel
theorem dL_law_1398 : decode cL_law 1398 = .ok (.dcmp .l, 1) := by decide +kernel
theorem dL_law_1399 : decode cL_law 1399 = .ok (.ifCond .eq 11, 3) := by decide +kernel
theorem dL_law_1402 : decode cL_law 1402 = .ok (.dload 7, 2) := by decide +kernel
theorem dL_law_1404 : decode cL_law 1404 = .ok (.dload 7, 2) := by decide +kernel
theorem dL_law_1406 : decode cL_law 1406 = .ok (.dcmp .l, 1) := by decide +kernel
theorem dL_law_1407 : decode cL_law 1407 = .ok (.ifCond .ne 5, 3) := by decide +kernel
theorem dL_law_1410 : decode cL_law 1410 = .ok (.iconst 0, 1) := by decide +kernel
theorem dL_law_1411 : decode cL_law 1411 = .ok (.ireturn, 1) := by decide +kernel
theorem dL_law_1412 : decode cL_law 1412 = .ok (.goto 17, 3) := by decide +kernel
theorem dL_law_1415 : decode cL_law 1415 = .ok (.aload_n 1, 1) := by decide +kernel
theorem dL_law_1416 : decode cL_law 1416 = .ok (.invokevirtual 179, 3) := by decide +kernel
theorem dL_law_1419 : decode cL_law 1419 = .ok (.aload_n 2, 1) := by decide +kernel
theorem dL_law_1420 : decode cL_law 1420 = .ok (.invokevirtual 183, 3) := by decide +kernel
theorem dL_law_1423 : decode cL_law 1423 = .ok (.lcmp, 1) := by decide +kernel
theorem dL_law_1424 : decode cL_law 1424 = .ok (.ifCond .eq 5, 3) := by decide +kernel
theorem dL_law_1427 : decode cL_law 1427 = .ok (.iconst 0, 1) := by decide +kernel
theorem dL_law_1428 : decode cL_law 1428 = .ok (.ireturn, 1) := by decide +kernel
theorem dL_law_1429 : decode cL_law 1429 = .ok (.iinc 4 3, 3) := by decide +kernel
theorem dL_law_1432 : decode cL_law 1432 = .ok (.goto (-1409), 3) := by decide +kernel
theorem dL_law_1435 : decode cL_law 1435 = .ok (.iconst 1, 1) := by decide +kernel
theorem dL_law_1436 : decode cL_law 1436 = .ok (.ireturn, 1) := by decide +kernel
