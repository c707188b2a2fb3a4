theorem dL_cell_0 : decode cL_cell 0 = .ok (.iload_n 1, 1) := by decide +kernel
theorem dL_cell_1 : decode cL_cell 1 = .ok (.aload_n 0, 1) := by decide +kernel
theorem dL_cell_2 : decode cL_cell 2 = .ok (.arraylength, 1) := by decide +kernel
theorem dL_cell_3 : decode cL_cell 3 = .ok (.if_icmp .ge 9, 3) := by decide +kernel
theorem dL_cell_6 : decode cL_cell 6 = .ok (.aload_n 0, 1) := by decide +kernel
theorem dL_cell_7 : decode cL_cell 7 = .ok (.iload_n 1, 1) := by decide +kernel
theorem dL_cell_8 : decode cL_cell 8 = .ok (.iaload, 1) := by decide +kernel
theorem dL_cell_9 : decode cL_cell 9 = .ok (.goto 13, 3) := by decide +kernel
theorem dL_cell_12 : decode cL_cell 12 = .ok (.ldc 7, 2) := by decide +kernel
theorem dL_cell_14 : decode cL_cell 14 = .ok (.iload_n 1, 1) := by decide +kernel
theorem dL_cell_15 : decode cL_cell 15 = .ok (.bipush 9, 2) := by decide +kernel
theorem dL_cell_17 : decode cL_cell 17 = .ok (.iadd, 1) := by decide +kernel
theorem dL_cell_18 : decode cL_cell 18 = .ok (.imul, 1) := by decide +kernel
theorem dL_cell_19 : decode cL_cell 19 = .ok (.ldc 8, 2) := by decide +kernel
theorem dL_cell_21 : decode cL_cell 21 = .ok (.iadd, 1) := by decide +kernel
theorem dL_cell_22 : decode cL_cell 22 = .ok (.ireturn, 1) := by decide +kernel
theorem dL_low_0 : decode cL_low 0 = .ok (.iload_n 0, 1) := by decide +kernel
theorem dL_low_1 : decode cL_low 1 = .ok (.ldc 9, 2) := by decide +kernel
theorem dL_low_3 : decode cL_low 3 = .ok (.iand, 1) := by decide +kernel
theorem dL_low_4 : decode cL_low 4 = .ok (.iload_n 1, 1) := by decide +kernel
theorem dL_low_5 : decode cL_low 5 = .ok (.irem, 1) := by decide +kernel
theorem dL_low_6 : decode cL_low 6 = .ok (.ireturn, 1) := by decide +kernel
theorem dL_cross_0 : decode cL_cross 0 = .ok (.aload_n 0, 1) := by decide +kernel
theorem dL_cross_1 : decode cL_cross 1 = .ok (.iload_n 1, 1) := by decide +kernel
theorem dL_cross_2 : decode cL_cross 2 = .ok (.invokevirtual 10, 3) := by decide +kernel
theorem dL_cross_5 : decode cL_cross 5 = .ok (.ireturn, 1) := by decide +kernel
theorem dL_cross_6 : decode cL_cross 6 = .ok (.astore_n 2, 1) := by decide +kernel
theorem dL_cross_7 : decode cL_cross 7 = .ok (.bipush (-102), 2) := by decide +kernel
theorem dL_cross_9 : decode cL_cross 9 = .ok (.ireturn, 1) := by decide +kernel
theorem dL_cross_10 : decode cL_cross 10 = .ok (.astore_n 2, 1) := by decide +kernel
theorem dL_cross_11 : decode cL_cross 11 = .ok (.bipush (-103), 2) := by decide +kernel
theorem dL_cross_13 : decode cL_cross 13 = .ok (.ireturn, 1) := by decide +kernel
theorem dL_open_0 : decode cL_open 0 = .ok (.aload_n 0, 1) := by decide +kernel
theorem dL_open_1 : decode cL_open 1 = .ok (.invokevirtual 20, 3) := by decide +kernel
theorem dL_open_4 : decode cL_open 4 = .ok (.ireturn, 1) := by decide +kernel
theorem dL_open_5 : decode cL_open 5 = .ok (.astore_n 1, 1) := by decide +kernel
theorem dL_open_6 : decode cL_open 6 = .ok (.bipush (-103), 2) := by decide +kernel
theorem dL_open_8 : decode cL_open 8 = .ok (.ireturn, 1) := by decide +kernel
theorem dL_move_0 : decode cL_move 0 = .ok (.aload_n 0, 1) := by decide +kernel
theorem dL_move_1 : decode cL_move 1 = .ok (.iload_n 1, 1) := by decide +kernel
theorem dL_move_2 : decode cL_move 2 = .ok (.iload_n 2, 1) := by decide +kernel
theorem dL_move_3 : decode cL_move 3 = .ok (.invokevirtual 24, 3) := by decide +kernel
theorem dL_move_6 : decode cL_move 6 = .ok (.ireturn, 1) := by decide +kernel
theorem dL_move_7 : decode cL_move 7 = .ok (.astore_n 3, 1) := by decide +kernel
theorem dL_move_8 : decode cL_move 8 = .ok (.bipush (-102), 2) := by decide +kernel
theorem dL_move_10 : decode cL_move 10 = .ok (.ireturn, 1) := by decide +kernel
theorem dL_move_11 : decode cL_move 11 = .ok (.astore_n 3, 1) := by decide +kernel
theorem dL_move_12 : decode cL_move 12 = .ok (.bipush (-103), 2) := by decide +kernel
theorem dL_move_14 : decode cL_move 14 = .ok (.ireturn, 1) := by decide +kernel
theorem dL_pair_0 : decode cL_pair 0 = .ok (.aload_n 0, 1) := by decide +kernel
theorem dL_pair_1 : decode cL_pair 1 = .ok (.iload_n 1, 1) := by decide +kernel
theorem dL_pair_2 : decode cL_pair 2 = .ok (.iload_n 2, 1) := by decide +kernel
theorem dL_pair_3 : decode cL_pair 3 = .ok (.invokevirtual 28, 3) := by decide +kernel
theorem dL_pair_6 : decode cL_pair 6 = .ok (.ireturn, 1) := by decide +kernel
theorem dL_pair_7 : decode cL_pair 7 = .ok (.astore_n 3, 1) := by decide +kernel
theorem dL_pair_8 : decode cL_pair 8 = .ok (.bipush (-102), 2) := by decide +kernel
theorem dL_pair_10 : decode cL_pair 10 = .ok (.ireturn, 1) := by decide +kernel
theorem dL_pair_11 : decode cL_pair 11 = .ok (.astore_n 3, 1) := by decide +kernel
theorem dL_pair_12 : decode cL_pair 12 = .ok (.bipush (-103), 2) := by decide +kernel
theorem dL_pair_14 : decode cL_pair 14 = .ok (.ireturn, 1) := by decide +kernel
theorem dL_handle_0 : decode cL_handle 0 = .ok (.aload_n 0, 1) := by decide +kernel
theorem dL_handle_1 : decode cL_handle 1 = .ok (.invokevirtual 31, 3) := by decide +kernel
theorem dL_handle_4 : decode cL_handle 4 = .ok (.ireturn, 1) := by decide +kernel
theorem dL_handle_5 : decode cL_handle 5 = .ok (.astore_n 1, 1) := by decide +kernel
theorem dL_handle_6 : decode cL_handle 6 = .ok (.bipush (-103), 2) := by decide +kernel
theorem dL_handle_8 : decode cL_handle 8 = .ok (.ireturn, 1) := by decide +kernel
theorem dL_undo_0 : decode cL_undo 0 = .ok (.aload_n 0, 1) := by decide +kernel
theorem dL_undo_1 : decode cL_undo 1 = .ok (.invokevirtual 34, 3) := by decide +kernel
theorem dL_undo_4 : decode cL_undo 4 = .ok (.ireturn, 1) := by decide +kernel
theorem dL_undo_5 : decode cL_undo 5 = .ok (.astore_n 1, 1) := by decide +kernel
theorem dL_undo_6 : decode cL_undo 6 = .ok (.bipush (-103), 2) := by decide +kernel
theorem dL_undo_8 : decode cL_undo 8 = .ok (.ireturn, 1) := by decide +kernel
theorem dL_crossing_0 : decode cL_crossing 0 = .ok (.aload_n 0, 1) := by decide +kernel
theorem dL_crossing_1 : decode cL_crossing 1 = .ok (.iload_n 1, 1) := by decide +kernel
theorem dL_crossing_2 : decode cL_crossing 2 = .ok (.invokevirtual 37, 3) := by decide +kernel
theorem dL_crossing_5 : decode cL_crossing 5 = .ok (.ireturn, 1) := by decide +kernel
theorem dL_crossing_6 : decode cL_crossing 6 = .ok (.astore_n 2, 1) := by decide +kernel
theorem dL_crossing_7 : decode cL_crossing 7 = .ok (.bipush (-102), 2) := by decide +kernel
theorem dL_crossing_9 : decode cL_crossing 9 = .ok (.ireturn, 1) := by decide +kernel
theorem dL_lies_0 : decode cL_lies 0 = .ok (.aload_n 0, 1) := by decide +kernel
theorem dL_lies_1 : decode cL_lies 1 = .ok (.iload_n 1, 1) := by decide +kernel
theorem dL_lies_2 : decode cL_lies 2 = .ok (.iload_n 2, 1) := by decide +kernel
theorem dL_lies_3 : decode cL_lies 3 = .ok (.invokevirtual 40, 3) := by decide +kernel
theorem dL_lies_6 : decode cL_lies 6 = .ok (.ireturn, 1) := by decide +kernel
theorem dL_lies_7 : decode cL_lies 7 = .ok (.astore_n 3, 1) := by decide +kernel
theorem dL_lies_8 : decode cL_lies 8 = .ok (.bipush (-101), 2) := by decide +kernel
theorem dL_lies_10 : decode cL_lies 10 = .ok (.ireturn, 1) := by decide +kernel
theorem dL_lies_11 : decode cL_lies 11 = .ok (.astore_n 3, 1) := by decide +kernel
theorem dL_lies_12 : decode cL_lies 12 = .ok (.bipush (-102), 2) := by decide +kernel
theorem dL_lies_14 : decode cL_lies 14 = .ok (.ireturn, 1) := by decide +kernel
theorem dL_winding_0 : decode cL_winding 0 = .ok (.aload_n 0, 1) := by decide +kernel
theorem dL_winding_1 : decode cL_winding 1 = .ok (.iload_n 1, 1) := by decide +kernel
theorem dL_winding_2 : decode cL_winding 2 = .ok (.iload_n 2, 1) := by decide +kernel
theorem dL_winding_3 : decode cL_winding 3 = .ok (.invokevirtual 45, 3) := by decide +kernel
theorem dL_winding_6 : decode cL_winding 6 = .ok (.ireturn, 1) := by decide +kernel
theorem dL_winding_7 : decode cL_winding 7 = .ok (.astore_n 3, 1) := by decide +kernel
theorem dL_winding_8 : decode cL_winding 8 = .ok (.bipush (-101), 2) := by decide +kernel
theorem dL_winding_10 : decode cL_winding 10 = .ok (.ireturn, 1) := by decide +kernel
theorem dL_measure_0 : decode cL_measure 0 = .ok (.aload_n 0, 1) := by decide +kernel
theorem dL_measure_1 : decode cL_measure 1 = .ok (.iload_n 1, 1) := by decide +kernel
theorem dL_measure_2 : decode cL_measure 2 = .ok (.iload_n 2, 1) := by decide +kernel
theorem dL_measure_3 : decode cL_measure 3 = .ok (.invokevirtual 48, 3) := by decide +kernel
theorem dL_measure_6 : decode cL_measure 6 = .ok (.ireturn, 1) := by decide +kernel
theorem dL_measure_7 : decode cL_measure 7 = .ok (.astore_n 3, 1) := by decide +kernel
theorem dL_measure_8 : decode cL_measure 8 = .ok (.bipush (-101), 2) := by decide +kernel
theorem dL_measure_10 : decode cL_measure 10 = .ok (.ireturn, 1) := by decide +kernel
theorem dL_halved_0 : decode cL_halved 0 = .ok (.aload_n 0, 1) := by decide +kernel
theorem dL_halved_1 : decode cL_halved 1 = .ok (.iload_n 1, 1) := by decide +kernel
theorem dL_halved_2 : decode cL_halved 2 = .ok (.iload_n 2, 1) := by decide +kernel
theorem dL_halved_3 : decode cL_halved 3 = .ok (.invokevirtual 51, 3) := by decide +kernel
theorem dL_halved_6 : decode cL_halved 6 = .ok (.ireturn, 1) := by decide +kernel
theorem dL_halved_7 : decode cL_halved 7 = .ok (.astore_n 3, 1) := by decide +kernel
theorem dL_halved_8 : decode cL_halved 8 = .ok (.bipush (-101), 2) := by decide +kernel
theorem dL_halved_10 : decode cL_halved 10 = .ok (.ireturn, 1) := by decide +kernel
theorem dL_count_0 : decode cL_count 0 = .ok (.aload_n 0, 1) := by decide +kernel
theorem dL_count_1 : decode cL_count 1 = .ok (.iload_n 1, 1) := by decide +kernel
theorem dL_count_2 : decode cL_count 2 = .ok (.invokevirtual 54, 3) := by decide +kernel
theorem dL_count_5 : decode cL_count 5 = .ok (.ireturn, 1) := by decide +kernel
theorem dL_count_6 : decode cL_count 6 = .ok (.astore_n 2, 1) := by decide +kernel
theorem dL_count_7 : decode cL_count 7 = .ok (.bipush (-102), 2) := by decide +kernel
theorem dL_count_9 : decode cL_count 9 = .ok (.ireturn, 1) := by decide +kernel
theorem dL_whyNot_0 : decode cL_whyNot 0 = .ok (.aload_n 0, 1) := by decide +kernel
theorem dL_whyNot_1 : decode cL_whyNot 1 = .ok (.iload_n 1, 1) := by decide +kernel
theorem dL_whyNot_2 : decode cL_whyNot 2 = .ok (.iload_n 2, 1) := by decide +kernel
theorem dL_whyNot_3 : decode cL_whyNot 3 = .ok (.invokevirtual 57, 3) := by decide +kernel
theorem dL_whyNot_6 : decode cL_whyNot 6 = .ok (.ireturn, 1) := by decide +kernel
theorem dL_whyNot_7 : decode cL_whyNot 7 = .ok (.astore_n 3, 1) := by decide +kernel
theorem dL_whyNot_8 : decode cL_whyNot 8 = .ok (.bipush (-102), 2) := by decide +kernel
theorem dL_whyNot_10 : decode cL_whyNot 10 = .ok (.ireturn, 1) := by decide +kernel
theorem dL_possible_0 : decode cL_possible 0 = .ok (.aload_n 0, 1) := by decide +kernel
theorem dL_possible_1 : decode cL_possible 1 = .ok (.iload_n 1, 1) := by decide +kernel
theorem dL_possible_2 : decode cL_possible 2 = .ok (.invokevirtual 60, 3) := by decide +kernel
theorem dL_possible_5 : decode cL_possible 5 = .ok (.ireturn, 1) := by decide +kernel
theorem dL_possible_6 : decode cL_possible 6 = .ok (.astore_n 2, 1) := by decide +kernel
theorem dL_possible_7 : decode cL_possible 7 = .ok (.bipush (-102), 2) := by decide +kernel
theorem dL_possible_9 : decode cL_possible 9 = .ok (.ireturn, 1) := by decide +kernel
theorem dL_rank_0 : decode cL_rank 0 = .ok (.iload_n 0, 1) := by decide +kernel
theorem dL_rank_1 : decode cL_rank 1 = .ok (.ifCond .ge 8, 3) := by decide +kernel
theorem dL_rank_4 : decode cL_rank 4 = .ok (.iload_n 0, 1) := by decide +kernel
theorem dL_rank_5 : decode cL_rank 5 = .ok (.ineg, 1) := by decide +kernel
theorem dL_rank_6 : decode cL_rank 6 = .ok (.goto 4, 3) := by decide +kernel
theorem dL_rank_9 : decode cL_rank 9 = .ok (.iload_n 0, 1) := by decide +kernel
theorem dL_rank_10 : decode cL_rank 10 = .ok (.ireturn, 1) := by decide +kernel
theorem dL_why_0 : decode cL_why 0 = .ok (.iload_n 0, 1) := by decide +kernel
theorem dL_why_1 : decode cL_why 1 = .ok (.iconst 2, 1) := by decide +kernel
theorem dL_why_2 : decode cL_why 2 = .ok (.if_icmp .ne 7, 3) := by decide +kernel
theorem dL_why_5 : decode cL_why 5 = .ok (.iconst 3, 1) := by decide +kernel
theorem dL_why_6 : decode cL_why 6 = .ok (.goto 4, 3) := by decide +kernel
theorem dL_why_9 : decode cL_why 9 = .ok (.iconst 2, 1) := by decide +kernel
theorem dL_why_10 : decode cL_why 10 = .ok (.istore 4, 2) := by decide +kernel
theorem dL_why_12 : decode cL_why 12 = .ok (.iload_n 1, 1) := by decide +kernel
theorem dL_why_13 : decode cL_why 13 = .ok (.iload_n 2, 1) := by decide +kernel
theorem dL_why_14 : decode cL_why 14 = .ok (.if_icmp .gt 11, 3) := by decide +kernel
theorem dL_why_17 : decode cL_why 17 = .ok (.iload_n 1, 1) := by decide +kernel
theorem dL_why_18 : decode cL_why 18 = .ok (.iload 4, 2) := by decide +kernel
theorem dL_why_20 : decode cL_why 20 = .ok (.iadd, 1) := by decide +kernel
theorem dL_why_21 : decode cL_why 21 = .ok (.iload_n 2, 1) := by decide +kernel
theorem dL_why_22 : decode cL_why 22 = .ok (.if_icmp .le 5, 3) := by decide +kernel
theorem dL_why_25 : decode cL_why 25 = .ok (.iconst 1, 1) := by decide +kernel
theorem dL_why_26 : decode cL_why 26 = .ok (.ireturn, 1) := by decide +kernel
theorem dL_why_27 : decode cL_why 27 = .ok (.aload_n 3, 1) := by decide +kernel
theorem dL_why_28 : decode cL_why 28 = .ok (.iload_n 1, 1) := by decide +kernel
theorem dL_why_29 : decode cL_why 29 = .ok (.iaload, 1) := by decide +kernel
theorem dL_why_30 : decode cL_why 30 = .ok (.istore 5, 2) := by decide +kernel
theorem dL_why_32 : decode cL_why 32 = .ok (.aload_n 3, 1) := by decide +kernel
theorem dL_why_33 : decode cL_why 33 = .ok (.iload_n 1, 1) := by decide +kernel
theorem dL_why_34 : decode cL_why 34 = .ok (.iconst 1, 1) := by decide +kernel
theorem dL_why_35 : decode cL_why 35 = .ok (.iadd, 1) := by decide +kernel
theorem dL_why_36 : decode cL_why 36 = .ok (.iaload, 1) := by decide +kernel
theorem dL_why_37 : decode cL_why 37 = .ok (.istore 6, 2) := by decide +kernel
theorem dL_why_39 : decode cL_why 39 = .ok (.iload_n 0, 1) := by decide +kernel
theorem dL_why_40 : decode cL_why 40 = .ok (.ifCond .ne 28, 3) := by decide +kernel
theorem dL_why_43 : decode cL_why 43 = .ok (.iload 5, 2) := by decide +kernel
theorem dL_why_45 : decode cL_why 45 = .ok (.iload 6, 2) := by decide +kernel
theorem dL_why_47 : decode cL_why 47 = .ok (.iadd, 1) := by decide +kernel
theorem dL_why_48 : decode cL_why 48 = .ok (.ifCond .ne 7, 3) := by decide +kernel
theorem dL_why_51 : decode cL_why 51 = .ok (.iconst 0, 1) := by decide +kernel
theorem dL_why_52 : decode cL_why 52 = .ok (.goto 15, 3) := by decide +kernel
theorem dL_why_55 : decode cL_why 55 = .ok (.iload 5, 2) := by decide +kernel
theorem dL_why_57 : decode cL_why 57 = .ok (.iload 6, 2) := by decide +kernel
theorem dL_why_59 : decode cL_why 59 = .ok (.if_icmp .ne 7, 3) := by decide +kernel
theorem dL_why_62 : decode cL_why 62 = .ok (.iconst 3, 1) := by decide +kernel
theorem dL_why_63 : decode cL_why 63 = .ok (.goto 4, 3) := by decide +kernel
theorem dL_why_66 : decode cL_why 66 = .ok (.iconst 2, 1) := by decide +kernel
theorem dL_why_67 : decode cL_why 67 = .ok (.ireturn, 1) := by decide +kernel
theorem dL_why_68 : decode cL_why 68 = .ok (.iload_n 0, 1) := by decide +kernel
theorem dL_why_69 : decode cL_why 69 = .ok (.iconst 1, 1) := by decide +kernel
theorem dL_why_70 : decode cL_why 70 = .ok (.if_icmp .ne 44, 3) := by decide +kernel
theorem dL_why_73 : decode cL_why 73 = .ok (.iload 5, 2) := by decide +kernel
theorem dL_why_75 : decode cL_why 75 = .ok (.invokestatic 63, 3) := by decide +kernel
theorem dL_why_78 : decode cL_why 78 = .ok (.iconst 2, 1) := by decide +kernel
theorem dL_why_79 : decode cL_why 79 = .ok (.irem, 1) := by decide +kernel
theorem dL_why_80 : decode cL_why 80 = .ok (.iconst 1, 1) := by decide +kernel
theorem dL_why_81 : decode cL_why 81 = .ok (.if_icmp .ne 31, 3) := by decide +kernel
theorem dL_why_84 : decode cL_why 84 = .ok (.iload 6, 2) := by decide +kernel
theorem dL_why_86 : decode cL_why 86 = .ok (.invokestatic 63, 3) := by decide +kernel
theorem dL_why_89 : decode cL_why 89 = .ok (.iconst 2, 1) := by decide +kernel
theorem dL_why_90 : decode cL_why 90 = .ok (.irem, 1) := by decide +kernel
theorem dL_why_91 : decode cL_why 91 = .ok (.iconst 1, 1) := by decide +kernel
theorem dL_why_92 : decode cL_why 92 = .ok (.if_icmp .ne 20, 3) := by decide +kernel
theorem dL_why_95 : decode cL_why 95 = .ok (.iload 5, 2) := by decide +kernel
theorem dL_why_97 : decode cL_why 97 = .ok (.invokestatic 63, 3) := by decide +kernel
theorem dL_why_100 : decode cL_why 100 = .ok (.iload 6, 2) := by decide +kernel
theorem dL_why_102 : decode cL_why 102 = .ok (.invokestatic 63, 3) := by decide +kernel
theorem dL_why_105 : decode cL_why 105 = .ok (.if_icmp .eq 7, 3) := by decide +kernel
theorem dL_why_108 : decode cL_why 108 = .ok (.iconst 0, 1) := by decide +kernel
theorem dL_why_109 : decode cL_why 109 = .ok (.goto 4, 3) := by decide +kernel
theorem dL_why_112 : decode cL_why 112 = .ok (.iconst 2, 1) := by decide +kernel
theorem dL_why_113 : decode cL_why 113 = .ok (.ireturn, 1) := by decide +kernel
theorem dL_why_114 : decode cL_why 114 = .ok (.aload_n 3, 1) := by decide +kernel
theorem dL_why_115 : decode cL_why 115 = .ok (.iload_n 1, 1) := by decide +kernel
theorem dL_why_116 : decode cL_why 116 = .ok (.iconst 2, 1) := by decide +kernel
theorem dL_why_117 : decode cL_why 117 = .ok (.iadd, 1) := by decide +kernel
theorem dL_why_118 : decode cL_why 118 = .ok (.iaload, 1) := by decide +kernel
theorem dL_why_119 : decode cL_why 119 = .ok (.istore 7, 2) := by decide +kernel
theorem dL_why_121 : decode cL_why 121 = .ok (.iload 5, 2) := by decide +kernel
theorem dL_why_123 : decode cL_why 123 = .ok (.invokestatic 63, 3) := by decide +kernel
theorem dL_why_126 : decode cL_why 126 = .ok (.iload 7, 2) := by decide +kernel
theorem dL_why_128 : decode cL_why 128 = .ok (.invokestatic 63, 3) := by decide +kernel
theorem dL_why_131 : decode cL_why 131 = .ok (.if_icmp .ne 34, 3) := by decide +kernel
theorem dL_why_134 : decode cL_why 134 = .ok (.iload 5, 2) := by decide +kernel
theorem dL_why_136 : decode cL_why 136 = .ok (.invokestatic 63, 3) := by decide +kernel
theorem dL_why_139 : decode cL_why 139 = .ok (.iload 6, 2) := by decide +kernel
theorem dL_why_141 : decode cL_why 141 = .ok (.invokestatic 63, 3) := by decide +kernel
theorem dL_why_144 : decode cL_why 144 = .ok (.isub, 1) := by decide +kernel
theorem dL_why_145 : decode cL_why 145 = .ok (.iload 5, 2) := by decide +kernel
theorem dL_why_147 : decode cL_why 147 = .ok (.invokestatic 63, 3) := by decide +kernel
theorem dL_why_150 : decode cL_why 150 = .ok (.iload 6, 2) := by decide +kernel
theorem dL_why_152 : decode cL_why 152 = .ok (.invokestatic 63, 3) := by decide +kernel
theorem dL_why_155 : decode cL_why 155 = .ok (.isub, 1) := by decide +kernel
theorem dL_why_156 : decode cL_why 156 = .ok (.imul, 1) := by decide +kernel
theorem dL_why_157 : decode cL_why 157 = .ok (.iconst 1, 1) := by decide +kernel
theorem dL_why_158 : decode cL_why 158 = .ok (.if_icmp .ne 7, 3) := by decide +kernel
theorem dL_why_161 : decode cL_why 161 = .ok (.iconst 1, 1) := by decide +kernel
theorem dL_why_162 : decode cL_why 162 = .ok (.goto 4, 3) := by decide +kernel
theorem dL_why_165 : decode cL_why 165 = .ok (.iconst 0, 1) := by decide +kernel
theorem dL_why_166 : decode cL_why 166 = .ok (.istore 8, 2) := by decide +kernel
theorem dL_why_168 : decode cL_why 168 = .ok (.iload 8, 2) := by decide +kernel
theorem dL_why_170 : decode cL_why 170 = .ok (.ifCond .ne 7, 3) := by decide +kernel
theorem dL_why_173 : decode cL_why 173 = .ok (.iconst 2, 1) := by decide +kernel
theorem dL_why_174 : decode cL_why 174 = .ok (.goto 23, 3) := by decide +kernel
theorem dL_why_177 : decode cL_why 177 = .ok (.iload 5, 2) := by decide +kernel
theorem dL_why_179 : decode cL_why 179 = .ok (.iload 7, 2) := by decide +kernel
theorem dL_why_181 : decode cL_why 181 = .ok (.if_icmp .ne 15, 3) := by decide +kernel
theorem dL_why_184 : decode cL_why 184 = .ok (.iload 5, 2) := by decide +kernel
theorem dL_why_186 : decode cL_why 186 = .ok (.iload 6, 2) := by decide +kernel
theorem dL_why_188 : decode cL_why 188 = .ok (.imul, 1) := by decide +kernel
theorem dL_why_189 : decode cL_why 189 = .ok (.ifCond .ge 7, 3) := by decide +kernel
theorem dL_why_192 : decode cL_why 192 = .ok (.iconst 3, 1) := by decide +kernel
theorem dL_why_193 : decode cL_why 193 = .ok (.goto 4, 3) := by decide +kernel
theorem dL_why_196 : decode cL_why 196 = .ok (.iconst 0, 1) := by decide +kernel
theorem dL_why_197 : decode cL_why 197 = .ok (.ireturn, 1) := by decide +kernel
theorem dL_cuts_0 : decode cL_cuts 0 = .ok (.iload_n 0, 1) := by decide +kernel
theorem dL_cuts_1 : decode cL_cuts 1 = .ok (.istore_n 3, 1) := by decide +kernel
theorem dL_cuts_2 : decode cL_cuts 2 = .ok (.iload_n 3, 1) := by decide +kernel
theorem dL_cuts_3 : decode cL_cuts 3 = .ok (.iconst 2, 1) := by decide +kernel
theorem dL_cuts_4 : decode cL_cuts 4 = .ok (.iadd, 1) := by decide +kernel
theorem dL_cuts_5 : decode cL_cuts 5 = .ok (.iload_n 1, 1) := by decide +kernel
theorem dL_cuts_6 : decode cL_cuts 6 = .ok (.if_icmp .ge 17, 3) := by decide +kernel
theorem dL_cuts_9 : decode cL_cuts 9 = .ok (.aload_n 2, 1) := by decide +kernel
theorem dL_cuts_10 : decode cL_cuts 10 = .ok (.iload_n 3, 1) := by decide +kernel
theorem dL_cuts_11 : decode cL_cuts 11 = .ok (.aload_n 2, 1) := by decide +kernel
theorem dL_cuts_12 : decode cL_cuts 12 = .ok (.iload_n 3, 1) := by decide +kernel
theorem dL_cuts_13 : decode cL_cuts 13 = .ok (.iconst 2, 1) := by decide +kernel
theorem dL_cuts_14 : decode cL_cuts 14 = .ok (.iadd, 1) := by decide +kernel
theorem dL_cuts_15 : decode cL_cuts 15 = .ok (.iaload, 1) := by decide +kernel
theorem dL_cuts_16 : decode cL_cuts 16 = .ok (.iastore, 1) := by decide +kernel
theorem dL_cuts_17 : decode cL_cuts 17 = .ok (.iinc 3 1, 3) := by decide +kernel
theorem dL_cuts_20 : decode cL_cuts 20 = .ok (.goto (-18), 3) := by decide +kernel
theorem dL_cuts_23 : decode cL_cuts 23 = .ok (.aload_n 2, 1) := by decide +kernel
theorem dL_cuts_24 : decode cL_cuts 24 = .ok (.iload_n 1, 1) := by decide +kernel
theorem dL_cuts_25 : decode cL_cuts 25 = .ok (.iconst 1, 1) := by decide +kernel
theorem dL_cuts_26 : decode cL_cuts 26 = .ok (.isub, 1) := by decide +kernel
theorem dL_cuts_27 : decode cL_cuts 27 = .ok (.iconst 0, 1) := by decide +kernel
theorem dL_cuts_28 : decode cL_cuts 28 = .ok (.iastore, 1) := by decide +kernel
theorem dL_cuts_29 : decode cL_cuts 29 = .ok (.aload_n 2, 1) := by decide +kernel
theorem dL_cuts_30 : decode cL_cuts 30 = .ok (.iload_n 1, 1) := by decide +kernel
theorem dL_cuts_31 : decode cL_cuts 31 = .ok (.iconst 2, 1) := by decide +kernel
theorem dL_cuts_32 : decode cL_cuts 32 = .ok (.isub, 1) := by decide +kernel
theorem dL_cuts_33 : decode cL_cuts 33 = .ok (.iconst 0, 1) := by decide +kernel
theorem dL_cuts_34 : decode cL_cuts 34 = .ok (.iastore, 1) := by decide +kernel
theorem dL_cuts_35 : decode cL_cuts 35 = .ok (.iload_n 1, 1) := by decide +kernel
theorem dL_cuts_36 : decode cL_cuts 36 = .ok (.iconst 2, 1) := by decide +kernel
theorem dL_cuts_37 : decode cL_cuts 37 = .ok (.isub, 1) := by decide +kernel
theorem dL_cuts_38 : decode cL_cuts 38 = .ok (.ireturn, 1) := by decide +kernel
theorem dL_makes_0 : decode cL_makes 0 = .ok (.aload_n 3, 1) := by decide +kernel
theorem dL_makes_1 : decode cL_makes 1 = .ok (.iload_n 1, 1) := by decide +kernel
theorem dL_makes_2 : decode cL_makes 2 = .ok (.iaload, 1) := by decide +kernel
theorem dL_makes_3 : decode cL_makes 3 = .ok (.istore 4, 2) := by decide +kernel
theorem dL_makes_5 : decode cL_makes 5 = .ok (.aload_n 3, 1) := by decide +kernel
theorem dL_makes_6 : decode cL_makes 6 = .ok (.iload_n 1, 1) := by decide +kernel
theorem dL_makes_7 : decode cL_makes 7 = .ok (.iconst 1, 1) := by decide +kernel
theorem dL_makes_8 : decode cL_makes 8 = .ok (.iadd, 1) := by decide +kernel
theorem dL_makes_9 : decode cL_makes 9 = .ok (.iaload, 1) := by decide +kernel
theorem dL_makes_10 : decode cL_makes 10 = .ok (.istore 5, 2) := by decide +kernel
theorem dL_makes_12 : decode cL_makes 12 = .ok (.iload_n 0, 1) := by decide +kernel
theorem dL_makes_13 : decode cL_makes 13 = .ok (.ifCond .ne 10, 3) := by decide +kernel
theorem dL_makes_16 : decode cL_makes 16 = .ok (.iload_n 1, 1) := by decide +kernel
theorem dL_makes_17 : decode cL_makes 17 = .ok (.iload_n 2, 1) := by decide +kernel
theorem dL_makes_18 : decode cL_makes 18 = .ok (.aload_n 3, 1) := by decide +kernel
theorem dL_makes_19 : decode cL_makes 19 = .ok (.invokestatic 68, 3) := by decide +kernel
theorem dL_makes_22 : decode cL_makes 22 = .ok (.ireturn, 1) := by decide +kernel
theorem dL_makes_23 : decode cL_makes 23 = .ok (.iload_n 0, 1) := by decide +kernel
theorem dL_makes_24 : decode cL_makes 24 = .ok (.iconst 1, 1) := by decide +kernel
theorem dL_makes_25 : decode cL_makes 25 = .ok (.if_icmp .ne 17, 3) := by decide +kernel
theorem dL_makes_28 : decode cL_makes 28 = .ok (.aload_n 3, 1) := by decide +kernel
theorem dL_makes_29 : decode cL_makes 29 = .ok (.iload_n 1, 1) := by decide +kernel
theorem dL_makes_30 : decode cL_makes 30 = .ok (.iload 5, 2) := by decide +kernel
theorem dL_makes_32 : decode cL_makes 32 = .ok (.iastore, 1) := by decide +kernel
theorem dL_makes_33 : decode cL_makes 33 = .ok (.aload_n 3, 1) := by decide +kernel
theorem dL_makes_34 : decode cL_makes 34 = .ok (.iload_n 1, 1) := by decide +kernel
theorem dL_makes_35 : decode cL_makes 35 = .ok (.iconst 1, 1) := by decide +kernel
theorem dL_makes_36 : decode cL_makes 36 = .ok (.iadd, 1) := by decide +kernel
theorem dL_makes_37 : decode cL_makes 37 = .ok (.iload 4, 2) := by decide +kernel
theorem dL_makes_39 : decode cL_makes 39 = .ok (.iastore, 1) := by decide +kernel
theorem dL_makes_40 : decode cL_makes 40 = .ok (.iload_n 2, 1) := by decide +kernel
theorem dL_makes_41 : decode cL_makes 41 = .ok (.ireturn, 1) := by decide +kernel
theorem dL_makes_42 : decode cL_makes 42 = .ok (.aload_n 3, 1) := by decide +kernel
theorem dL_makes_43 : decode cL_makes 43 = .ok (.iload_n 1, 1) := by decide +kernel
theorem dL_makes_44 : decode cL_makes 44 = .ok (.iconst 2, 1) := by decide +kernel
theorem dL_makes_45 : decode cL_makes 45 = .ok (.iadd, 1) := by decide +kernel
theorem dL_makes_46 : decode cL_makes 46 = .ok (.iaload, 1) := by decide +kernel
theorem dL_makes_47 : decode cL_makes 47 = .ok (.istore 6, 2) := by decide +kernel
theorem dL_makes_49 : decode cL_makes 49 = .ok (.aload_n 3, 1) := by decide +kernel
theorem dL_makes_50 : decode cL_makes 50 = .ok (.iload_n 1, 1) := by decide +kernel
theorem dL_makes_51 : decode cL_makes 51 = .ok (.iload 6, 2) := by decide +kernel
theorem dL_makes_53 : decode cL_makes 53 = .ok (.ifCond .le 11, 3) := by decide +kernel
theorem dL_makes_56 : decode cL_makes 56 = .ok (.iload 5, 2) := by decide +kernel
theorem dL_makes_58 : decode cL_makes 58 = .ok (.invokestatic 63, 3) := by decide +kernel
theorem dL_makes_61 : decode cL_makes 61 = .ok (.goto 9, 3) := by decide +kernel
theorem dL_makes_64 : decode cL_makes 64 = .ok (.iload 5, 2) := by decide +kernel
theorem dL_makes_66 : decode cL_makes 66 = .ok (.invokestatic 63, 3) := by decide +kernel
theorem dL_makes_69 : decode cL_makes 69 = .ok (.ineg, 1) := by decide +kernel
theorem dL_makes_70 : decode cL_makes 70 = .ok (.iastore, 1) := by decide +kernel
theorem dL_makes_71 : decode cL_makes 71 = .ok (.aload_n 3, 1) := by decide +kernel
theorem dL_makes_72 : decode cL_makes 72 = .ok (.iload_n 1, 1) := by decide +kernel
theorem dL_makes_73 : decode cL_makes 73 = .ok (.iconst 1, 1) := by decide +kernel
theorem dL_makes_74 : decode cL_makes 74 = .ok (.iadd, 1) := by decide +kernel
theorem dL_makes_75 : decode cL_makes 75 = .ok (.iload 5, 2) := by decide +kernel
theorem dL_makes_77 : decode cL_makes 77 = .ok (.ifCond .le 11, 3) := by decide +kernel
theorem dL_makes_80 : decode cL_makes 80 = .ok (.iload 4, 2) := by decide +kernel
theorem dL_makes_82 : decode cL_makes 82 = .ok (.invokestatic 63, 3) := by decide +kernel
theorem dL_makes_85 : decode cL_makes 85 = .ok (.goto 9, 3) := by decide +kernel
theorem dL_makes_88 : decode cL_makes 88 = .ok (.iload 4, 2) := by decide +kernel
theorem dL_makes_90 : decode cL_makes 90 = .ok (.invokestatic 63, 3) := by decide +kernel
theorem dL_makes_93 : decode cL_makes 93 = .ok (.ineg, 1) := by decide +kernel
theorem dL_makes_94 : decode cL_makes 94 = .ok (.iastore, 1) := by decide +kernel
theorem dL_makes_95 : decode cL_makes 95 = .ok (.aload_n 3, 1) := by decide +kernel
theorem dL_makes_96 : decode cL_makes 96 = .ok (.iload_n 1, 1) := by decide +kernel
theorem dL_makes_97 : decode cL_makes 97 = .ok (.iconst 2, 1) := by decide +kernel
theorem dL_makes_98 : decode cL_makes 98 = .ok (.iadd, 1) := by decide +kernel
theorem dL_makes_99 : decode cL_makes 99 = .ok (.iload 4, 2) := by decide +kernel
theorem dL_makes_101 : decode cL_makes 101 = .ok (.ifCond .le 11, 3) := by decide +kernel
theorem dL_makes_104 : decode cL_makes 104 = .ok (.iload 5, 2) := by decide +kernel
theorem dL_makes_106 : decode cL_makes 106 = .ok (.invokestatic 63, 3) := by decide +kernel
theorem dL_makes_109 : decode cL_makes 109 = .ok (.goto 9, 3) := by decide +kernel
theorem dL_makes_112 : decode cL_makes 112 = .ok (.iload 5, 2) := by decide +kernel
theorem dL_makes_114 : decode cL_makes 114 = .ok (.invokestatic 63, 3) := by decide +kernel
theorem dL_makes_117 : decode cL_makes 117 = .ok (.ineg, 1) := by decide +kernel
theorem dL_makes_118 : decode cL_makes 118 = .ok (.iastore, 1) := by decide +kernel
theorem dL_makes_119 : decode cL_makes 119 = .ok (.iload_n 2, 1) := by decide +kernel
theorem dL_makes_120 : decode cL_makes 120 = .ok (.ireturn, 1) := by decide +kernel
theorem dL_pulls_0 : decode cL_pulls 0 = .ok (.iconst 0, 1) := by decide +kernel
theorem dL_pulls_1 : decode cL_pulls 1 = .ok (.istore_n 2, 1) := by decide +kernel
theorem dL_pulls_2 : decode cL_pulls 2 = .ok (.iconst 0, 1) := by decide +kernel
theorem dL_pulls_3 : decode cL_pulls 3 = .ok (.istore_n 3, 1) := by decide +kernel
theorem dL_pulls_4 : decode cL_pulls 4 = .ok (.iload_n 3, 1) := by decide +kernel
theorem dL_pulls_5 : decode cL_pulls 5 = .ok (.iload_n 0, 1) := by decide +kernel
theorem dL_pulls_6 : decode cL_pulls 6 = .ok (.if_icmp .ge 62, 3) := by decide +kernel
theorem dL_pulls_9 : decode cL_pulls 9 = .ok (.iload_n 2, 1) := by decide +kernel
theorem dL_pulls_10 : decode cL_pulls 10 = .ok (.ifCond .le 19, 3) := by decide +kernel
theorem dL_pulls_13 : decode cL_pulls 13 = .ok (.aload_n 1, 1) := by decide +kernel
theorem dL_pulls_14 : decode cL_pulls 14 = .ok (.iload_n 2, 1) := by decide +kernel
theorem dL_pulls_15 : decode cL_pulls 15 = .ok (.iconst 1, 1) := by decide +kernel
theorem dL_pulls_16 : decode cL_pulls 16 = .ok (.isub, 1) := by decide +kernel
theorem dL_pulls_17 : decode cL_pulls 17 = .ok (.iaload, 1) := by decide +kernel
theorem dL_pulls_18 : decode cL_pulls 18 = .ok (.aload_n 1, 1) := by decide +kernel
theorem dL_pulls_19 : decode cL_pulls 19 = .ok (.iload_n 3, 1) := by decide +kernel
theorem dL_pulls_20 : decode cL_pulls 20 = .ok (.iaload, 1) := by decide +kernel
theorem dL_pulls_21 : decode cL_pulls 21 = .ok (.iadd, 1) := by decide +kernel
theorem dL_pulls_22 : decode cL_pulls 22 = .ok (.ifCond .ne 7, 3) := by decide +kernel
theorem dL_pulls_25 : decode cL_pulls 25 = .ok (.iconst 1, 1) := by decide +kernel
theorem dL_pulls_26 : decode cL_pulls 26 = .ok (.goto 4, 3) := by decide +kernel
theorem dL_pulls_29 : decode cL_pulls 29 = .ok (.iconst 0, 1) := by decide +kernel
theorem dL_pulls_30 : decode cL_pulls 30 = .ok (.istore 4, 2) := by decide +kernel
theorem dL_pulls_32 : decode cL_pulls 32 = .ok (.aload_n 1, 1) := by decide +kernel
theorem dL_pulls_33 : decode cL_pulls 33 = .ok (.iload_n 3, 1) := by decide +kernel
theorem dL_pulls_34 : decode cL_pulls 34 = .ok (.iaload, 1) := by decide +kernel
theorem dL_pulls_35 : decode cL_pulls 35 = .ok (.istore 5, 2) := by decide +kernel
theorem dL_pulls_37 : decode cL_pulls 37 = .ok (.iload_n 2, 1) := by decide +kernel
theorem dL_pulls_38 : decode cL_pulls 38 = .ok (.iload 4, 2) := by decide +kernel
theorem dL_pulls_40 : decode cL_pulls 40 = .ok (.ifCond .eq 7, 3) := by decide +kernel
theorem dL_pulls_43 : decode cL_pulls 43 = .ok (.iconst (-1), 1) := by decide +kernel
theorem dL_pulls_44 : decode cL_pulls 44 = .ok (.goto 4, 3) := by decide +kernel
theorem dL_pulls_47 : decode cL_pulls 47 = .ok (.iconst 1, 1) := by decide +kernel
theorem dL_pulls_48 : decode cL_pulls 48 = .ok (.iadd, 1) := by decide +kernel
theorem dL_pulls_49 : decode cL_pulls 49 = .ok (.istore_n 2, 1) := by decide +kernel
theorem dL_pulls_50 : decode cL_pulls 50 = .ok (.iload 4, 2) := by decide +kernel
theorem dL_pulls_52 : decode cL_pulls 52 = .ok (.ifCond .ne 10, 3) := by decide +kernel
theorem dL_pulls_55 : decode cL_pulls 55 = .ok (.aload_n 1, 1) := by decide +kernel
theorem dL_pulls_56 : decode cL_pulls 56 = .ok (.iload_n 2, 1) := by decide +kernel
theorem dL_pulls_57 : decode cL_pulls 57 = .ok (.iconst 1, 1) := by decide +kernel
theorem dL_pulls_58 : decode cL_pulls 58 = .ok (.isub, 1) := by decide +kernel
theorem dL_pulls_59 : decode cL_pulls 59 = .ok (.iload 5, 2) := by decide +kernel
theorem dL_pulls_61 : decode cL_pulls 61 = .ok (.iastore, 1) := by decide +kernel
theorem dL_pulls_62 : decode cL_pulls 62 = .ok (.iinc 3 1, 3) := by decide +kernel
theorem dL_pulls_65 : decode cL_pulls 65 = .ok (.goto (-61), 3) := by decide +kernel
theorem dL_pulls_68 : decode cL_pulls 68 = .ok (.iload_n 2, 1) := by decide +kernel
theorem dL_pulls_69 : decode cL_pulls 69 = .ok (.istore_n 3, 1) := by decide +kernel
theorem dL_pulls_70 : decode cL_pulls 70 = .ok (.iload_n 3, 1) := by decide +kernel
theorem dL_pulls_71 : decode cL_pulls 71 = .ok (.iload_n 0, 1) := by decide +kernel
theorem dL_pulls_72 : decode cL_pulls 72 = .ok (.if_icmp .ge 13, 3) := by decide +kernel
theorem dL_pulls_75 : decode cL_pulls 75 = .ok (.aload_n 1, 1) := by decide +kernel
theorem dL_pulls_76 : decode cL_pulls 76 = .ok (.iload_n 3, 1) := by decide +kernel
theorem dL_pulls_77 : decode cL_pulls 77 = .ok (.iconst 0, 1) := by decide +kernel
theorem dL_pulls_78 : decode cL_pulls 78 = .ok (.iastore, 1) := by decide +kernel
theorem dL_pulls_79 : decode cL_pulls 79 = .ok (.iinc 3 1, 3) := by decide +kernel
theorem dL_pulls_82 : decode cL_pulls 82 = .ok (.goto (-12), 3) := by decide +kernel
theorem dL_pulls_85 : decode cL_pulls 85 = .ok (.iload_n 2, 1) := by decide +kernel
theorem dL_pulls_86 : decode cL_pulls 86 = .ok (.ireturn, 1) := by decide +kernel
theorem dL_first_0 : decode cL_first 0 = .ok (.iconst 0, 1) := by decide +kernel
theorem dL_first_1 : decode cL_first 1 = .ok (.istore_n 2, 1) := by decide +kernel
theorem dL_first_2 : decode cL_first 2 = .ok (.iload_n 2, 1) := by decide +kernel
theorem dL_first_3 : decode cL_first 3 = .ok (.iload_n 0, 1) := by decide +kernel
theorem dL_first_4 : decode cL_first 4 = .ok (.if_icmp .ge 114, 3) := by decide +kernel
theorem dL_first_7 : decode cL_first 7 = .ok (.iconst 0, 1) := by decide +kernel
theorem dL_first_8 : decode cL_first 8 = .ok (.istore_n 3, 1) := by decide +kernel
theorem dL_first_9 : decode cL_first 9 = .ok (.iload_n 3, 1) := by decide +kernel
theorem dL_first_10 : decode cL_first 10 = .ok (.iload_n 2, 1) := by decide +kernel
theorem dL_first_11 : decode cL_first 11 = .ok (.if_icmp .ge 101, 3) := by decide +kernel
theorem dL_first_14 : decode cL_first 14 = .ok (.aload_n 1, 1) := by decide +kernel
theorem dL_first_15 : decode cL_first 15 = .ok (.iload_n 3, 1) := by decide +kernel
theorem dL_first_16 : decode cL_first 16 = .ok (.iaload, 1) := by decide +kernel
theorem dL_first_17 : decode cL_first 17 = .ok (.aload_n 1, 1) := by decide +kernel
theorem dL_first_18 : decode cL_first 18 = .ok (.iload_n 2, 1) := by decide +kernel
theorem dL_first_19 : decode cL_first 19 = .ok (.iaload, 1) := by decide +kernel
theorem dL_first_20 : decode cL_first 20 = .ok (.iadd, 1) := by decide +kernel
theorem dL_first_21 : decode cL_first 21 = .ok (.ifCond .ne 7, 3) := by decide +kernel
theorem dL_first_24 : decode cL_first 24 = .ok (.iconst 1, 1) := by decide +kernel
theorem dL_first_25 : decode cL_first 25 = .ok (.goto 4, 3) := by decide +kernel
theorem dL_first_28 : decode cL_first 28 = .ok (.iconst 0, 1) := by decide +kernel
theorem dL_first_29 : decode cL_first 29 = .ok (.istore 4, 2) := by decide +kernel
theorem dL_first_31 : decode cL_first 31 = .ok (.iload_n 3, 1) := by decide +kernel
theorem dL_first_32 : decode cL_first 32 = .ok (.iconst 1, 1) := by decide +kernel
theorem dL_first_33 : decode cL_first 33 = .ok (.iadd, 1) := by decide +kernel
theorem dL_first_34 : decode cL_first 34 = .ok (.istore 5, 2) := by decide +kernel
theorem dL_first_36 : decode cL_first 36 = .ok (.iload 5, 2) := by decide +kernel
theorem dL_first_38 : decode cL_first 38 = .ok (.iload_n 2, 1) := by decide +kernel
theorem dL_first_39 : decode cL_first 39 = .ok (.if_icmp .ge 55, 3) := by decide +kernel
theorem dL_first_42 : decode cL_first 42 = .ok (.iload 4, 2) := by decide +kernel
theorem dL_first_44 : decode cL_first 44 = .ok (.ifCond .eq 41, 3) := by decide +kernel
theorem dL_first_47 : decode cL_first 47 = .ok (.aload_n 1, 1) := by decide +kernel
theorem dL_first_48 : decode cL_first 48 = .ok (.iload 5, 2) := by decide +kernel
theorem dL_first_50 : decode cL_first 50 = .ok (.iaload, 1) := by decide +kernel
theorem dL_first_51 : decode cL_first 51 = .ok (.invokestatic 63, 3) := by decide +kernel
theorem dL_first_54 : decode cL_first 54 = .ok (.aload_n 1, 1) := by decide +kernel
theorem dL_first_55 : decode cL_first 55 = .ok (.iload_n 3, 1) := by decide +kernel
theorem dL_first_56 : decode cL_first 56 = .ok (.iaload, 1) := by decide +kernel
theorem dL_first_57 : decode cL_first 57 = .ok (.invokestatic 63, 3) := by decide +kernel
theorem dL_first_60 : decode cL_first 60 = .ok (.if_icmp .eq 25, 3) := by decide +kernel
theorem dL_first_63 : decode cL_first 63 = .ok (.aload_n 1, 1) := by decide +kernel
theorem dL_first_64 : decode cL_first 64 = .ok (.iload 5, 2) := by decide +kernel
theorem dL_first_66 : decode cL_first 66 = .ok (.iaload, 1) := by decide +kernel
theorem dL_first_67 : decode cL_first 67 = .ok (.invokestatic 63, 3) := by decide +kernel
theorem dL_first_70 : decode cL_first 70 = .ok (.iconst 1, 1) := by decide +kernel
theorem dL_first_71 : decode cL_first 71 = .ok (.iadd, 1) := by decide +kernel
theorem dL_first_72 : decode cL_first 72 = .ok (.aload_n 1, 1) := by decide +kernel
theorem dL_first_73 : decode cL_first 73 = .ok (.iload_n 3, 1) := by decide +kernel
theorem dL_first_74 : decode cL_first 74 = .ok (.iaload, 1) := by decide +kernel
theorem dL_first_75 : decode cL_first 75 = .ok (.invokestatic 63, 3) := by decide +kernel
theorem dL_first_78 : decode cL_first 78 = .ok (.if_icmp .eq 7, 3) := by decide +kernel
theorem dL_first_81 : decode cL_first 81 = .ok (.iconst 1, 1) := by decide +kernel
theorem dL_first_82 : decode cL_first 82 = .ok (.goto 4, 3) := by decide +kernel
theorem dL_first_85 : decode cL_first 85 = .ok (.iconst 0, 1) := by decide +kernel
theorem dL_first_86 : decode cL_first 86 = .ok (.istore 4, 2) := by decide +kernel
theorem dL_first_88 : decode cL_first 88 = .ok (.iinc 5 1, 3) := by decide +kernel
theorem dL_first_91 : decode cL_first 91 = .ok (.goto (-55), 3) := by decide +kernel
theorem dL_first_94 : decode cL_first 94 = .ok (.iload 4, 2) := by decide +kernel
theorem dL_first_96 : decode cL_first 96 = .ok (.ifCond .eq 10, 3) := by decide +kernel
theorem dL_first_99 : decode cL_first 99 = .ok (.bipush 64, 2) := by decide +kernel
theorem dL_first_101 : decode cL_first 101 = .ok (.iload_n 3, 1) := by decide +kernel
theorem dL_first_102 : decode cL_first 102 = .ok (.imul, 1) := by decide +kernel
theorem dL_first_103 : decode cL_first 103 = .ok (.iload_n 2, 1) := by decide +kernel
theorem dL_first_104 : decode cL_first 104 = .ok (.iadd, 1) := by decide +kernel
theorem dL_first_105 : decode cL_first 105 = .ok (.ireturn, 1) := by decide +kernel
theorem dL_first_106 : decode cL_first 106 = .ok (.iinc 3 1, 3) := by decide +kernel
theorem dL_first_109 : decode cL_first 109 = .ok (.goto (-100), 3) := by decide +kernel
theorem dL_first_112 : decode cL_first 112 = .ok (.iinc 2 1, 3) := by decide +kernel
theorem dL_first_115 : decode cL_first 115 = .ok (.goto (-113), 3) := by decide +kernel
theorem dL_first_118 : decode cL_first 118 = .ok (.iconst (-1), 1) := by decide +kernel
theorem dL_first_119 : decode cL_first 119 = .ok (.ireturn, 1) := by decide +kernel
theorem dL_undoes_0 : decode cL_undoes 0 = .ok (.iload_n 0, 1) := by decide +kernel
theorem dL_undoes_1 : decode cL_undoes 1 = .ok (.aload_n 1, 1) := by decide +kernel
theorem dL_undoes_2 : decode cL_undoes 2 = .ok (.invokestatic 72, 3) := by decide +kernel
theorem dL_undoes_5 : decode cL_undoes 5 = .ok (.istore_n 2, 1) := by decide +kernel
theorem dL_undoes_6 : decode cL_undoes 6 = .ok (.iload_n 2, 1) := by decide +kernel
theorem dL_undoes_7 : decode cL_undoes 7 = .ok (.ifCond .ge 6, 3) := by decide +kernel
theorem dL_undoes_10 : decode cL_undoes 10 = .ok (.bipush (-103), 2) := by decide +kernel
theorem dL_undoes_12 : decode cL_undoes 12 = .ok (.ireturn, 1) := by decide +kernel
theorem dL_undoes_13 : decode cL_undoes 13 = .ok (.iload_n 2, 1) := by decide +kernel
theorem dL_undoes_14 : decode cL_undoes 14 = .ok (.bipush 64, 2) := by decide +kernel
theorem dL_undoes_16 : decode cL_undoes 16 = .ok (.idiv, 1) := by decide +kernel
theorem dL_undoes_17 : decode cL_undoes 17 = .ok (.istore_n 3, 1) := by decide +kernel
theorem dL_undoes_18 : decode cL_undoes 18 = .ok (.iload_n 2, 1) := by decide +kernel
theorem dL_undoes_19 : decode cL_undoes 19 = .ok (.bipush 64, 2) := by decide +kernel
theorem dL_undoes_21 : decode cL_undoes 21 = .ok (.irem, 1) := by decide +kernel
theorem dL_undoes_22 : decode cL_undoes 22 = .ok (.istore 4, 2) := by decide +kernel
theorem dL_undoes_24 : decode cL_undoes 24 = .ok (.aload_n 1, 1) := by decide +kernel
theorem dL_undoes_25 : decode cL_undoes 25 = .ok (.iload_n 3, 1) := by decide +kernel
theorem dL_undoes_26 : decode cL_undoes 26 = .ok (.iaload, 1) := by decide +kernel
theorem dL_undoes_27 : decode cL_undoes 27 = .ok (.invokestatic 63, 3) := by decide +kernel
theorem dL_undoes_30 : decode cL_undoes 30 = .ok (.istore 5, 2) := by decide +kernel
theorem dL_undoes_32 : decode cL_undoes 32 = .ok (.aload_n 1, 1) := by decide +kernel
theorem dL_undoes_33 : decode cL_undoes 33 = .ok (.iload_n 3, 1) := by decide +kernel
theorem dL_undoes_34 : decode cL_undoes 34 = .ok (.iaload, 1) := by decide +kernel
theorem dL_undoes_35 : decode cL_undoes 35 = .ok (.iload 5, 2) := by decide +kernel
theorem dL_undoes_37 : decode cL_undoes 37 = .ok (.idiv, 1) := by decide +kernel
theorem dL_undoes_38 : decode cL_undoes 38 = .ok (.istore 6, 2) := by decide +kernel
theorem dL_undoes_40 : decode cL_undoes 40 = .ok (.bipush 64, 2) := by decide +kernel
theorem dL_undoes_42 : decode cL_undoes 42 = .ok (.newarray .int, 2) := by decide +kernel
theorem dL_undoes_44 : decode cL_undoes 44 = .ok (.astore 7, 2) := by decide +kernel
theorem dL_undoes_46 : decode cL_undoes 46 = .ok (.iconst 0, 1) := by decide +kernel
theorem dL_undoes_47 : decode cL_undoes 47 = .ok (.istore 8, 2) := by decide +kernel
theorem dL_undoes_49 : decode cL_undoes 49 = .ok (.iconst 0, 1) := by decide +kernel
theorem dL_undoes_50 : decode cL_undoes 50 = .ok (.istore 9, 2) := by decide +kernel
theorem dL_undoes_52 : decode cL_undoes 52 = .ok (.iload_n 3, 1) := by decide +kernel
theorem dL_undoes_53 : decode cL_undoes 53 = .ok (.iconst 1, 1) := by decide +kernel
theorem dL_undoes_54 : decode cL_undoes 54 = .ok (.iadd, 1) := by decide +kernel
theorem dL_undoes_55 : decode cL_undoes 55 = .ok (.istore 10, 2) := by decide +kernel
theorem dL_undoes_57 : decode cL_undoes 57 = .ok (.iload 10, 2) := by decide +kernel
theorem dL_undoes_59 : decode cL_undoes 59 = .ok (.iload 4, 2) := by decide +kernel
theorem dL_undoes_61 : decode cL_undoes 61 = .ok (.if_icmp .ge 33, 3) := by decide +kernel
theorem dL_undoes_64 : decode cL_undoes 64 = .ok (.iload 9, 2) := by decide +kernel
theorem dL_undoes_66 : decode cL_undoes 66 = .ok (.aload_n 1, 1) := by decide +kernel
theorem dL_undoes_67 : decode cL_undoes 67 = .ok (.iload 10, 2) := by decide +kernel
theorem dL_undoes_69 : decode cL_undoes 69 = .ok (.iaload, 1) := by decide +kernel
theorem dL_undoes_70 : decode cL_undoes 70 = .ok (.invokestatic 63, 3) := by decide +kernel
theorem dL_undoes_73 : decode cL_undoes 73 = .ok (.iload 5, 2) := by decide +kernel
theorem dL_undoes_75 : decode cL_undoes 75 = .ok (.iconst 1, 1) := by decide +kernel
theorem dL_undoes_76 : decode cL_undoes 76 = .ok (.iadd, 1) := by decide +kernel
theorem dL_undoes_77 : decode cL_undoes 77 = .ok (.if_icmp .ne 7, 3) := by decide +kernel
theorem dL_undoes_80 : decode cL_undoes 80 = .ok (.iconst 2, 1) := by decide +kernel
theorem dL_undoes_81 : decode cL_undoes 81 = .ok (.goto 4, 3) := by decide +kernel
theorem dL_undoes_84 : decode cL_undoes 84 = .ok (.iconst 0, 1) := by decide +kernel
theorem dL_undoes_85 : decode cL_undoes 85 = .ok (.iadd, 1) := by decide +kernel
theorem dL_undoes_86 : decode cL_undoes 86 = .ok (.istore 9, 2) := by decide +kernel
theorem dL_undoes_88 : decode cL_undoes 88 = .ok (.iinc 10 1, 3) := by decide +kernel
theorem dL_undoes_91 : decode cL_undoes 91 = .ok (.goto (-34), 3) := by decide +kernel
theorem dL_undoes_94 : decode cL_undoes 94 = .ok (.iload_n 0, 1) := by decide +kernel
theorem dL_undoes_95 : decode cL_undoes 95 = .ok (.iconst 2, 1) := by decide +kernel
theorem dL_undoes_96 : decode cL_undoes 96 = .ok (.isub, 1) := by decide +kernel
theorem dL_undoes_97 : decode cL_undoes 97 = .ok (.iload 9, 2) := by decide +kernel
theorem dL_undoes_99 : decode cL_undoes 99 = .ok (.iadd, 1) := by decide +kernel
theorem dL_undoes_100 : decode cL_undoes 100 = .ok (.bipush 30, 2) := by decide +kernel
theorem dL_undoes_102 : decode cL_undoes 102 = .ok (.if_icmp .le 6, 3) := by decide +kernel
theorem dL_undoes_105 : decode cL_undoes 105 = .ok (.bipush (-103), 2) := by decide +kernel
theorem dL_undoes_107 : decode cL_undoes 107 = .ok (.ireturn, 1) := by decide +kernel
theorem dL_undoes_108 : decode cL_undoes 108 = .ok (.iconst 0, 1) := by decide +kernel
theorem dL_undoes_109 : decode cL_undoes 109 = .ok (.istore 10, 2) := by decide +kernel
theorem dL_undoes_111 : decode cL_undoes 111 = .ok (.iload 10, 2) := by decide +kernel
theorem dL_undoes_113 : decode cL_undoes 113 = .ok (.iload_n 0, 1) := by decide +kernel
theorem dL_undoes_114 : decode cL_undoes 114 = .ok (.if_icmp .ge 113, 3) := by decide +kernel
theorem dL_undoes_117 : decode cL_undoes 117 = .ok (.iload 10, 2) := by decide +kernel
theorem dL_undoes_119 : decode cL_undoes 119 = .ok (.iload_n 3, 1) := by decide +kernel
theorem dL_undoes_120 : decode cL_undoes 120 = .ok (.if_icmp .le 76, 3) := by decide +kernel
theorem dL_undoes_123 : decode cL_undoes 123 = .ok (.iload 10, 2) := by decide +kernel
theorem dL_undoes_125 : decode cL_undoes 125 = .ok (.iload 4, 2) := by decide +kernel
theorem dL_undoes_127 : decode cL_undoes 127 = .ok (.if_icmp .ge 69, 3) := by decide +kernel
theorem dL_undoes_130 : decode cL_undoes 130 = .ok (.aload_n 1, 1) := by decide +kernel
theorem dL_undoes_131 : decode cL_undoes 131 = .ok (.iload 10, 2) := by decide +kernel
theorem dL_undoes_133 : decode cL_undoes 133 = .ok (.iaload, 1) := by decide +kernel
theorem dL_undoes_134 : decode cL_undoes 134 = .ok (.invokestatic 63, 3) := by decide +kernel
theorem dL_undoes_137 : decode cL_undoes 137 = .ok (.iload 5, 2) := by decide +kernel
theorem dL_undoes_139 : decode cL_undoes 139 = .ok (.iconst 1, 1) := by decide +kernel
theorem dL_undoes_140 : decode cL_undoes 140 = .ok (.iadd, 1) := by decide +kernel
theorem dL_undoes_141 : decode cL_undoes 141 = .ok (.if_icmp .ne 55, 3) := by decide +kernel
theorem dL_undoes_144 : decode cL_undoes 144 = .ok (.aload 7, 2) := by decide +kernel
theorem dL_undoes_146 : decode cL_undoes 146 = .ok (.iload 8, 2) := by decide +kernel
theorem dL_undoes_148 : decode cL_undoes 148 = .ok (.iload 6, 2) := by decide +kernel
theorem dL_undoes_150 : decode cL_undoes 150 = .ok (.ineg, 1) := by decide +kernel
theorem dL_undoes_151 : decode cL_undoes 151 = .ok (.iload 5, 2) := by decide +kernel
theorem dL_undoes_153 : decode cL_undoes 153 = .ok (.iconst 1, 1) := by decide +kernel
theorem dL_undoes_154 : decode cL_undoes 154 = .ok (.iadd, 1) := by decide +kernel
theorem dL_undoes_155 : decode cL_undoes 155 = .ok (.imul, 1) := by decide +kernel
theorem dL_undoes_156 : decode cL_undoes 156 = .ok (.iastore, 1) := by decide +kernel
theorem dL_undoes_157 : decode cL_undoes 157 = .ok (.aload 7, 2) := by decide +kernel
theorem dL_undoes_159 : decode cL_undoes 159 = .ok (.iload 8, 2) := by decide +kernel
theorem dL_undoes_161 : decode cL_undoes 161 = .ok (.iconst 1, 1) := by decide +kernel
theorem dL_undoes_162 : decode cL_undoes 162 = .ok (.iadd, 1) := by decide +kernel
theorem dL_undoes_163 : decode cL_undoes 163 = .ok (.aload_n 1, 1) := by decide +kernel
theorem dL_undoes_164 : decode cL_undoes 164 = .ok (.iload 10, 2) := by decide +kernel
theorem dL_undoes_166 : decode cL_undoes 166 = .ok (.iaload, 1) := by decide +kernel
theorem dL_undoes_167 : decode cL_undoes 167 = .ok (.iload 5, 2) := by decide +kernel
theorem dL_undoes_169 : decode cL_undoes 169 = .ok (.iconst 1, 1) := by decide +kernel
theorem dL_undoes_170 : decode cL_undoes 170 = .ok (.iadd, 1) := by decide +kernel
theorem dL_undoes_171 : decode cL_undoes 171 = .ok (.idiv, 1) := by decide +kernel
theorem dL_undoes_172 : decode cL_undoes 172 = .ok (.iload 5, 2) := by decide +kernel
theorem dL_undoes_174 : decode cL_undoes 174 = .ok (.imul, 1) := by decide +kernel
theorem dL_undoes_175 : decode cL_undoes 175 = .ok (.iastore, 1) := by decide +kernel
theorem dL_undoes_176 : decode cL_undoes 176 = .ok (.aload 7, 2) := by decide +kernel
theorem dL_undoes_178 : decode cL_undoes 178 = .ok (.iload 8, 2) := by decide +kernel
theorem dL_undoes_180 : decode cL_undoes 180 = .ok (.iconst 2, 1) := by decide +kernel
theorem dL_undoes_181 : decode cL_undoes 181 = .ok (.iadd, 1) := by decide +kernel
theorem dL_undoes_182 : decode cL_undoes 182 = .ok (.iload 6, 2) := by decide +kernel
theorem dL_undoes_184 : decode cL_undoes 184 = .ok (.iload 5, 2) := by decide +kernel
theorem dL_undoes_186 : decode cL_undoes 186 = .ok (.iconst 1, 1) := by decide +kernel
theorem dL_undoes_187 : decode cL_undoes 187 = .ok (.iadd, 1) := by decide +kernel
theorem dL_undoes_188 : decode cL_undoes 188 = .ok (.imul, 1) := by decide +kernel
theorem dL_undoes_189 : decode cL_undoes 189 = .ok (.iastore, 1) := by decide +kernel
theorem dL_undoes_190 : decode cL_undoes 190 = .ok (.iinc 8 3, 3) := by decide +kernel
theorem dL_undoes_193 : decode cL_undoes 193 = .ok (.goto 28, 3) := by decide +kernel
theorem dL_undoes_196 : decode cL_undoes 196 = .ok (.iload 10, 2) := by decide +kernel
theorem dL_undoes_198 : decode cL_undoes 198 = .ok (.iload_n 3, 1) := by decide +kernel
theorem dL_undoes_199 : decode cL_undoes 199 = .ok (.if_icmp .eq 22, 3) := by decide +kernel
theorem dL_undoes_202 : decode cL_undoes 202 = .ok (.iload 10, 2) := by decide +kernel
theorem dL_undoes_204 : decode cL_undoes 204 = .ok (.iload 4, 2) := by decide +kernel
theorem dL_undoes_206 : decode cL_undoes 206 = .ok (.if_icmp .eq 15, 3) := by decide +kernel
theorem dL_undoes_209 : decode cL_undoes 209 = .ok (.aload 7, 2) := by decide +kernel
theorem dL_undoes_211 : decode cL_undoes 211 = .ok (.iload 8, 2) := by decide +kernel
theorem dL_undoes_213 : decode cL_undoes 213 = .ok (.aload_n 1, 1) := by decide +kernel
theorem dL_undoes_214 : decode cL_undoes 214 = .ok (.iload 10, 2) := by decide +kernel
theorem dL_undoes_216 : decode cL_undoes 216 = .ok (.iaload, 1) := by decide +kernel
theorem dL_undoes_217 : decode cL_undoes 217 = .ok (.iastore, 1) := by decide +kernel
theorem dL_undoes_218 : decode cL_undoes 218 = .ok (.iinc 8 1, 3) := by decide +kernel
theorem dL_undoes_221 : decode cL_undoes 221 = .ok (.iinc 10 1, 3) := by decide +kernel
theorem dL_undoes_224 : decode cL_undoes 224 = .ok (.goto (-113), 3) := by decide +kernel
theorem dL_undoes_227 : decode cL_undoes 227 = .ok (.iconst 0, 1) := by decide +kernel
theorem dL_undoes_228 : decode cL_undoes 228 = .ok (.istore 10, 2) := by decide +kernel
theorem dL_undoes_230 : decode cL_undoes 230 = .ok (.iload 10, 2) := by decide +kernel
theorem dL_undoes_232 : decode cL_undoes 232 = .ok (.bipush 32, 2) := by decide +kernel
theorem dL_undoes_234 : decode cL_undoes 234 = .ok (.if_icmp .ge 29, 3) := by decide +kernel
theorem dL_undoes_237 : decode cL_undoes 237 = .ok (.aload_n 1, 1) := by decide +kernel
theorem dL_undoes_238 : decode cL_undoes 238 = .ok (.iload 10, 2) := by decide +kernel
theorem dL_undoes_240 : decode cL_undoes 240 = .ok (.iload 10, 2) := by decide +kernel
theorem dL_undoes_242 : decode cL_undoes 242 = .ok (.iload 8, 2) := by decide +kernel
theorem dL_undoes_244 : decode cL_undoes 244 = .ok (.if_icmp .ge 11, 3) := by decide +kernel
theorem dL_undoes_247 : decode cL_undoes 247 = .ok (.aload 7, 2) := by decide +kernel
theorem dL_undoes_249 : decode cL_undoes 249 = .ok (.iload 10, 2) := by decide +kernel
theorem dL_undoes_251 : decode cL_undoes 251 = .ok (.iaload, 1) := by decide +kernel
theorem dL_undoes_252 : decode cL_undoes 252 = .ok (.goto 4, 3) := by decide +kernel
theorem dL_undoes_255 : decode cL_undoes 255 = .ok (.iconst 0, 1) := by decide +kernel
theorem dL_undoes_256 : decode cL_undoes 256 = .ok (.iastore, 1) := by decide +kernel
theorem dL_undoes_257 : decode cL_undoes 257 = .ok (.iinc 10 1, 3) := by decide +kernel
theorem dL_undoes_260 : decode cL_undoes 260 = .ok (.goto (-30), 3) := by decide +kernel
theorem dL_undoes_263 : decode cL_undoes 263 = .ok (.iload 8, 2) := by decide +kernel
theorem dL_undoes_265 : decode cL_undoes 265 = .ok (.ireturn, 1) := by decide +kernel
theorem dL_told_0 : decode cL_told 0 = .ok (.ldc2_w 76, 3) := by decide +kernel
theorem dL_told_3 : decode cL_told 3 = .ok (.lstore_n 1, 1) := by decide +kernel
theorem dL_told_4 : decode cL_told 4 = .ok (.iconst 0, 1) := by decide +kernel
theorem dL_told_5 : decode cL_told 5 = .ok (.istore_n 3, 1) := by decide +kernel
theorem dL_told_6 : decode cL_told 6 = .ok (.iload_n 3, 1) := by decide +kernel
theorem dL_told_7 : decode cL_told 7 = .ok (.bipush 31, 2) := by decide +kernel
theorem dL_told_9 : decode cL_told 9 = .ok (.if_icmp .ge 22, 3) := by decide +kernel
theorem dL_told_12 : decode cL_told 12 = .ok (.ldc2_w 78, 3) := by decide +kernel
theorem dL_told_15 : decode cL_told 15 = .ok (.lload_n 1, 1) := by decide +kernel
theorem dL_told_16 : decode cL_told 16 = .ok (.lmul, 1) := by decide +kernel
theorem dL_told_17 : decode cL_told 17 = .ok (.aload_n 0, 1) := by decide +kernel
theorem dL_told_18 : decode cL_told 18 = .ok (.iload_n 3, 1) := by decide +kernel
theorem dL_told_19 : decode cL_told 19 = .ok (.invokestatic 80, 3) := by decide +kernel
theorem dL_told_22 : decode cL_told 22 = .ok (.i2l, 1) := by decide +kernel
theorem dL_told_23 : decode cL_told 23 = .ok (.ladd, 1) := by decide +kernel
theorem dL_told_24 : decode cL_told 24 = .ok (.lstore_n 1, 1) := by decide +kernel
theorem dL_told_25 : decode cL_told 25 = .ok (.iinc 3 1, 3) := by decide +kernel
theorem dL_told_28 : decode cL_told 28 = .ok (.goto (-22), 3) := by decide +kernel
theorem dL_told_31 : decode cL_told 31 = .ok (.ldc2_w 78, 3) := by decide +kernel
theorem dL_told_34 : decode cL_told 34 = .ok (.lload_n 1, 1) := by decide +kernel
theorem dL_told_35 : decode cL_told 35 = .ok (.lmul, 1) := by decide +kernel
theorem dL_told_36 : decode cL_told 36 = .ok (.aload_n 0, 1) := by decide +kernel
theorem dL_told_37 : decode cL_told 37 = .ok (.iconst 2, 1) := by decide +kernel
theorem dL_told_38 : decode cL_told 38 = .ok (.invokestatic 83, 3) := by decide +kernel
theorem dL_told_41 : decode cL_told 41 = .ok (.i2l, 1) := by decide +kernel
theorem dL_told_42 : decode cL_told 42 = .ok (.ladd, 1) := by decide +kernel
theorem dL_told_43 : decode cL_told 43 = .ok (.lreturn, 1) := by decide +kernel
theorem dL_call_0 : decode cL_call 0 = .ok (.iload_n 1, 1) := by decide +kernel
theorem dL_call_1 : decode cL_call 1 = .ok (.tableswitch 74 0 5 #[39, 45, 50, 57, 64, 69], 39) := by decide +kernel
theorem dL_call_40 : decode cL_call 40 = .ok (.aload_n 0, 1) := by decide +kernel
theorem dL_call_41 : decode cL_call 41 = .ok (.iload_n 2, 1) := by decide +kernel
theorem dL_call_42 : decode cL_call 42 = .ok (.invokestatic 85, 3) := by decide +kernel
theorem dL_call_45 : decode cL_call 45 = .ok (.ireturn, 1) := by decide +kernel
theorem dL_call_46 : decode cL_call 46 = .ok (.aload_n 0, 1) := by decide +kernel
theorem dL_call_47 : decode cL_call 47 = .ok (.invokestatic 87, 3) := by decide +kernel
theorem dL_call_50 : decode cL_call 50 = .ok (.ireturn, 1) := by decide +kernel
theorem dL_call_51 : decode cL_call 51 = .ok (.aload_n 0, 1) := by decide +kernel
theorem dL_call_52 : decode cL_call 52 = .ok (.iload_n 2, 1) := by decide +kernel
theorem dL_call_53 : decode cL_call 53 = .ok (.iload_n 3, 1) := by decide +kernel
theorem dL_call_54 : decode cL_call 54 = .ok (.invokestatic 90, 3) := by decide +kernel
theorem dL_call_57 : decode cL_call 57 = .ok (.ireturn, 1) := by decide +kernel
theorem dL_call_58 : decode cL_call 58 = .ok (.aload_n 0, 1) := by decide +kernel
theorem dL_call_59 : decode cL_call 59 = .ok (.iload_n 3, 1) := by decide +kernel
theorem dL_call_60 : decode cL_call 60 = .ok (.iload_n 2, 1) := by decide +kernel
theorem dL_call_61 : decode cL_call 61 = .ok (.invokestatic 93, 3) := by decide +kernel
theorem dL_call_64 : decode cL_call 64 = .ok (.ireturn, 1) := by decide +kernel
theorem dL_call_65 : decode cL_call 65 = .ok (.aload_n 0, 1) := by decide +kernel
theorem dL_call_66 : decode cL_call 66 = .ok (.invokevirtual 95, 3) := by decide +kernel
theorem dL_call_69 : decode cL_call 69 = .ok (.ireturn, 1) := by decide +kernel
theorem dL_call_70 : decode cL_call 70 = .ok (.aload_n 0, 1) := by decide +kernel
theorem dL_call_71 : decode cL_call 71 = .ok (.invokevirtual 98, 3) := by decide +kernel
theorem dL_call_74 : decode cL_call 74 = .ok (.ireturn, 1) := by decide +kernel
theorem dL_call_75 : decode cL_call 75 = .ok (.aload_n 0, 1) := by decide +kernel
theorem dL_call_76 : decode cL_call 76 = .ok (.invokestatic 101, 3) := by decide +kernel
theorem dL_call_79 : decode cL_call 79 = .ok (.ireturn, 1) := by decide +kernel
theorem dL_due_0 : decode cL_due 0 = .ok (.aload_n 3, 1) := by decide +kernel
theorem dL_due_1 : decode cL_due 1 = .ok (.iconst 0, 1) := by decide +kernel
theorem dL_due_2 : decode cL_due 2 = .ok (.iaload, 1) := by decide +kernel
theorem dL_due_3 : decode cL_due 3 = .ok (.istore 5, 2) := by decide +kernel
theorem dL_due_5 : decode cL_due 5 = .ok (.iload_n 0, 1) := by decide +kernel
theorem dL_due_6 : decode cL_due 6 = .ok (.tableswitch 329 0 5 #[38, 65, 103, 141, 205, 222], 38) := by decide +kernel
theorem dL_due_44 : decode cL_due 44 = .ok (.iload 5, 2) := by decide +kernel
theorem dL_due_46 : decode cL_due 46 = .ok (.bipush 30, 2) := by decide +kernel
theorem dL_due_48 : decode cL_due 48 = .ok (.if_icmp .ne 6, 3) := by decide +kernel
theorem dL_due_51 : decode cL_due 51 = .ok (.bipush (-103), 2) := by decide +kernel
theorem dL_due_53 : decode cL_due 53 = .ok (.ireturn, 1) := by decide +kernel
theorem dL_due_54 : decode cL_due 54 = .ok (.aload 4, 2) := by decide +kernel
theorem dL_due_56 : decode cL_due 56 = .ok (.iload 5, 2) := by decide +kernel
theorem dL_due_58 : decode cL_due 58 = .ok (.iload_n 1, 1) := by decide +kernel
theorem dL_due_59 : decode cL_due 59 = .ok (.iastore, 1) := by decide +kernel
theorem dL_due_60 : decode cL_due 60 = .ok (.aload_n 3, 1) := by decide +kernel
theorem dL_due_61 : decode cL_due 61 = .ok (.iconst 0, 1) := by decide +kernel
theorem dL_due_62 : decode cL_due 62 = .ok (.dup2, 1) := by decide +kernel
theorem dL_due_63 : decode cL_due 63 = .ok (.iaload, 1) := by decide +kernel
theorem dL_due_64 : decode cL_due 64 = .ok (.iconst 1, 1) := by decide +kernel
theorem dL_due_65 : decode cL_due 65 = .ok (.iadd, 1) := by decide +kernel
theorem dL_due_66 : decode cL_due 66 = .ok (.iastore, 1) := by decide +kernel
theorem dL_due_67 : decode cL_due 67 = .ok (.aload_n 3, 1) := by decide +kernel
theorem dL_due_68 : decode cL_due 68 = .ok (.iconst 0, 1) := by decide +kernel
theorem dL_due_69 : decode cL_due 69 = .ok (.iaload, 1) := by decide +kernel
theorem dL_due_70 : decode cL_due 70 = .ok (.ireturn, 1) := by decide +kernel
theorem dL_due_71 : decode cL_due 71 = .ok (.iload 5, 2) := by decide +kernel
theorem dL_due_73 : decode cL_due 73 = .ok (.ifCond .ne 6, 3) := by decide +kernel
theorem dL_due_76 : decode cL_due 76 = .ok (.bipush (-103), 2) := by decide +kernel
theorem dL_due_78 : decode cL_due 78 = .ok (.ireturn, 1) := by decide +kernel
theorem dL_due_79 : decode cL_due 79 = .ok (.aload_n 3, 1) := by decide +kernel
theorem dL_due_80 : decode cL_due 80 = .ok (.iconst 0, 1) := by decide +kernel
theorem dL_due_81 : decode cL_due 81 = .ok (.dup2, 1) := by decide +kernel
theorem dL_due_82 : decode cL_due 82 = .ok (.iaload, 1) := by decide +kernel
theorem dL_due_83 : decode cL_due 83 = .ok (.iconst 1, 1) := by decide +kernel
theorem dL_due_84 : decode cL_due 84 = .ok (.isub, 1) := by decide +kernel
theorem dL_due_85 : decode cL_due 85 = .ok (.iastore, 1) := by decide +kernel
theorem dL_due_86 : decode cL_due 86 = .ok (.aload 4, 2) := by decide +kernel
theorem dL_due_88 : decode cL_due 88 = .ok (.iload 5, 2) := by decide +kernel
theorem dL_due_90 : decode cL_due 90 = .ok (.iconst 1, 1) := by decide +kernel
theorem dL_due_91 : decode cL_due 91 = .ok (.isub, 1) := by decide +kernel
theorem dL_due_92 : decode cL_due 92 = .ok (.iaload, 1) := by decide +kernel
theorem dL_due_93 : decode cL_due 93 = .ok (.istore 6, 2) := by decide +kernel
theorem dL_due_95 : decode cL_due 95 = .ok (.aload 4, 2) := by decide +kernel
theorem dL_due_97 : decode cL_due 97 = .ok (.iload 5, 2) := by decide +kernel
theorem dL_due_99 : decode cL_due 99 = .ok (.iconst 1, 1) := by decide +kernel
theorem dL_due_100 : decode cL_due 100 = .ok (.isub, 1) := by decide +kernel
theorem dL_due_101 : decode cL_due 101 = .ok (.iconst 0, 1) := by decide +kernel
theorem dL_due_102 : decode cL_due 102 = .ok (.iastore, 1) := by decide +kernel
theorem dL_due_103 : decode cL_due 103 = .ok (.iload 6, 2) := by decide +kernel
theorem dL_due_105 : decode cL_due 105 = .ok (.bipush 10, 2) := by decide +kernel
theorem dL_due_107 : decode cL_due 107 = .ok (.iadd, 1) := by decide +kernel
theorem dL_due_108 : decode cL_due 108 = .ok (.ireturn, 1) := by decide +kernel
theorem dL_due_109 : decode cL_due 109 = .ok (.iload_n 1, 1) := by decide +kernel
theorem dL_due_110 : decode cL_due 110 = .ok (.iload_n 2, 1) := by decide +kernel
theorem dL_due_111 : decode cL_due 111 = .ok (.iload 5, 2) := by decide +kernel
theorem dL_due_113 : decode cL_due 113 = .ok (.aload 4, 2) := by decide +kernel
theorem dL_due_115 : decode cL_due 115 = .ok (.invokestatic 103, 3) := by decide +kernel
theorem dL_due_118 : decode cL_due 118 = .ok (.ifCond .eq 6, 3) := by decide +kernel
theorem dL_due_121 : decode cL_due 121 = .ok (.bipush (-103), 2) := by decide +kernel
theorem dL_due_123 : decode cL_due 123 = .ok (.ireturn, 1) := by decide +kernel
theorem dL_due_124 : decode cL_due 124 = .ok (.aload_n 3, 1) := by decide +kernel
theorem dL_due_125 : decode cL_due 125 = .ok (.iconst 0, 1) := by decide +kernel
theorem dL_due_126 : decode cL_due 126 = .ok (.iload_n 1, 1) := by decide +kernel
theorem dL_due_127 : decode cL_due 127 = .ok (.iload_n 2, 1) := by decide +kernel
theorem dL_due_128 : decode cL_due 128 = .ok (.iload 5, 2) := by decide +kernel
theorem dL_due_130 : decode cL_due 130 = .ok (.aload 4, 2) := by decide +kernel
theorem dL_due_132 : decode cL_due 132 = .ok (.invokestatic 107, 3) := by decide +kernel
theorem dL_due_135 : decode cL_due 135 = .ok (.iastore, 1) := by decide +kernel
theorem dL_due_136 : decode cL_due 136 = .ok (.aload_n 3, 1) := by decide +kernel
theorem dL_due_137 : decode cL_due 137 = .ok (.iconst 1, 1) := by decide +kernel
theorem dL_due_138 : decode cL_due 138 = .ok (.dup2, 1) := by decide +kernel
theorem dL_due_139 : decode cL_due 139 = .ok (.iaload, 1) := by decide +kernel
theorem dL_due_140 : decode cL_due 140 = .ok (.iconst 1, 1) := by decide +kernel
theorem dL_due_141 : decode cL_due 141 = .ok (.iadd, 1) := by decide +kernel
theorem dL_due_142 : decode cL_due 142 = .ok (.iastore, 1) := by decide +kernel
theorem dL_due_143 : decode cL_due 143 = .ok (.aload_n 3, 1) := by decide +kernel
theorem dL_due_144 : decode cL_due 144 = .ok (.iconst 0, 1) := by decide +kernel
theorem dL_due_145 : decode cL_due 145 = .ok (.iaload, 1) := by decide +kernel
theorem dL_due_146 : decode cL_due 146 = .ok (.ireturn, 1) := by decide +kernel
theorem dL_due_147 : decode cL_due 147 = .ok (.iload 5, 2) := by decide +kernel
theorem dL_due_149 : decode cL_due 149 = .ok (.bipush 28, 2) := by decide +kernel
theorem dL_due_151 : decode cL_due 151 = .ok (.if_icmp .le 6, 3) := by decide +kernel
theorem dL_due_154 : decode cL_due 154 = .ok (.bipush (-103), 2) := by decide +kernel
theorem dL_due_156 : decode cL_due 156 = .ok (.ireturn, 1) := by decide +kernel
theorem dL_due_157 : decode cL_due 157 = .ok (.iload 5, 2) := by decide +kernel
theorem dL_due_159 : decode cL_due 159 = .ok (.iconst 1, 1) := by decide +kernel
theorem dL_due_160 : decode cL_due 160 = .ok (.isub, 1) := by decide +kernel
theorem dL_due_161 : decode cL_due 161 = .ok (.istore 7, 2) := by decide +kernel
theorem dL_due_163 : decode cL_due 163 = .ok (.iload 7, 2) := by decide +kernel
theorem dL_due_165 : decode cL_due 165 = .ok (.iload_n 2, 1) := by decide +kernel
theorem dL_due_166 : decode cL_due 166 = .ok (.if_icmp .lt 21, 3) := by decide +kernel
theorem dL_due_169 : decode cL_due 169 = .ok (.aload 4, 2) := by decide +kernel
theorem dL_due_171 : decode cL_due 171 = .ok (.iload 7, 2) := by decide +kernel
theorem dL_due_173 : decode cL_due 173 = .ok (.iconst 2, 1) := by decide +kernel
theorem dL_due_174 : decode cL_due 174 = .ok (.iadd, 1) := by decide +kernel
theorem dL_due_175 : decode cL_due 175 = .ok (.aload 4, 2) := by decide +kernel
theorem dL_due_177 : decode cL_due 177 = .ok (.iload 7, 2) := by decide +kernel
theorem dL_due_179 : decode cL_due 179 = .ok (.iaload, 1) := by decide +kernel
theorem dL_due_180 : decode cL_due 180 = .ok (.iastore, 1) := by decide +kernel
theorem dL_due_181 : decode cL_due 181 = .ok (.iinc 7 (-1), 3) := by decide +kernel
theorem dL_due_184 : decode cL_due 184 = .ok (.goto (-21), 3) := by decide +kernel
theorem dL_due_187 : decode cL_due 187 = .ok (.aload 4, 2) := by decide +kernel
theorem dL_due_189 : decode cL_due 189 = .ok (.iload_n 2, 1) := by decide +kernel
theorem dL_due_190 : decode cL_due 190 = .ok (.iload_n 1, 1) := by decide +kernel
theorem dL_due_191 : decode cL_due 191 = .ok (.iastore, 1) := by decide +kernel
theorem dL_due_192 : decode cL_due 192 = .ok (.aload 4, 2) := by decide +kernel
theorem dL_due_194 : decode cL_due 194 = .ok (.iload_n 2, 1) := by decide +kernel
theorem dL_due_195 : decode cL_due 195 = .ok (.iconst 1, 1) := by decide +kernel
theorem dL_due_196 : decode cL_due 196 = .ok (.iadd, 1) := by decide +kernel
theorem dL_due_197 : decode cL_due 197 = .ok (.iload_n 1, 1) := by decide +kernel
theorem dL_due_198 : decode cL_due 198 = .ok (.ineg, 1) := by decide +kernel
theorem dL_due_199 : decode cL_due 199 = .ok (.iastore, 1) := by decide +kernel
theorem dL_due_200 : decode cL_due 200 = .ok (.aload_n 3, 1) := by decide +kernel
theorem dL_due_201 : decode cL_due 201 = .ok (.iconst 0, 1) := by decide +kernel
theorem dL_due_202 : decode cL_due 202 = .ok (.dup2, 1) := by decide +kernel
theorem dL_due_203 : decode cL_due 203 = .ok (.iaload, 1) := by decide +kernel
theorem dL_due_204 : decode cL_due 204 = .ok (.iconst 2, 1) := by decide +kernel
theorem dL_due_205 : decode cL_due 205 = .ok (.iadd, 1) := by decide +kernel
theorem dL_due_206 : decode cL_due 206 = .ok (.iastore, 1) := by decide +kernel
theorem dL_due_207 : decode cL_due 207 = .ok (.aload_n 3, 1) := by decide +kernel
theorem dL_due_208 : decode cL_due 208 = .ok (.iconst 0, 1) := by decide +kernel
theorem dL_due_209 : decode cL_due 209 = .ok (.iaload, 1) := by decide +kernel
theorem dL_due_210 : decode cL_due 210 = .ok (.ireturn, 1) := by decide +kernel
theorem dL_due_211 : decode cL_due 211 = .ok (.aload_n 3, 1) := by decide +kernel
theorem dL_due_212 : decode cL_due 212 = .ok (.iconst 0, 1) := by decide +kernel
theorem dL_due_213 : decode cL_due 213 = .ok (.iload 5, 2) := by decide +kernel
theorem dL_due_215 : decode cL_due 215 = .ok (.aload 4, 2) := by decide +kernel
theorem dL_due_217 : decode cL_due 217 = .ok (.invokestatic 110, 3) := by decide +kernel
theorem dL_due_220 : decode cL_due 220 = .ok (.iastore, 1) := by decide +kernel
theorem dL_due_221 : decode cL_due 221 = .ok (.iload 5, 2) := by decide +kernel
theorem dL_due_223 : decode cL_due 223 = .ok (.aload_n 3, 1) := by decide +kernel
theorem dL_due_224 : decode cL_due 224 = .ok (.iconst 0, 1) := by decide +kernel
theorem dL_due_225 : decode cL_due 225 = .ok (.iaload, 1) := by decide +kernel
theorem dL_due_226 : decode cL_due 226 = .ok (.isub, 1) := by decide +kernel
theorem dL_due_227 : decode cL_due 227 = .ok (.ireturn, 1) := by decide +kernel
theorem dL_due_228 : decode cL_due 228 = .ok (.bipush 100, 2) := by decide +kernel
theorem dL_due_230 : decode cL_due 230 = .ok (.istore 7, 2) := by decide +kernel
theorem dL_due_232 : decode cL_due 232 = .ok (.iconst 0, 1) := by decide +kernel
theorem dL_due_233 : decode cL_due 233 = .ok (.istore 8, 2) := by decide +kernel
theorem dL_due_235 : decode cL_due 235 = .ok (.iload 8, 2) := by decide +kernel
theorem dL_due_237 : decode cL_due 237 = .ok (.iload 5, 2) := by decide +kernel
theorem dL_due_239 : decode cL_due 239 = .ok (.iconst 1, 1) := by decide +kernel
theorem dL_due_240 : decode cL_due 240 = .ok (.isub, 1) := by decide +kernel
theorem dL_due_241 : decode cL_due 241 = .ok (.iload 8, 2) := by decide +kernel
theorem dL_due_243 : decode cL_due 243 = .ok (.isub, 1) := by decide +kernel
theorem dL_due_244 : decode cL_due 244 = .ok (.if_icmp .ge 43, 3) := by decide +kernel
theorem dL_due_247 : decode cL_due 247 = .ok (.aload 4, 2) := by decide +kernel
theorem dL_due_249 : decode cL_due 249 = .ok (.iload 8, 2) := by decide +kernel
theorem dL_due_251 : decode cL_due 251 = .ok (.iaload, 1) := by decide +kernel
theorem dL_due_252 : decode cL_due 252 = .ok (.istore 9, 2) := by decide +kernel
theorem dL_due_254 : decode cL_due 254 = .ok (.aload 4, 2) := by decide +kernel
theorem dL_due_256 : decode cL_due 256 = .ok (.iload 8, 2) := by decide +kernel
theorem dL_due_258 : decode cL_due 258 = .ok (.aload 4, 2) := by decide +kernel
theorem dL_due_260 : decode cL_due 260 = .ok (.iload 5, 2) := by decide +kernel
theorem dL_due_262 : decode cL_due 262 = .ok (.iconst 1, 1) := by decide +kernel
theorem dL_due_263 : decode cL_due 263 = .ok (.isub, 1) := by decide +kernel
theorem dL_due_264 : decode cL_due 264 = .ok (.iload 8, 2) := by decide +kernel
theorem dL_due_266 : decode cL_due 266 = .ok (.isub, 1) := by decide +kernel
theorem dL_due_267 : decode cL_due 267 = .ok (.iaload, 1) := by decide +kernel
theorem dL_due_268 : decode cL_due 268 = .ok (.iastore, 1) := by decide +kernel
theorem dL_due_269 : decode cL_due 269 = .ok (.aload 4, 2) := by decide +kernel
theorem dL_due_271 : decode cL_due 271 = .ok (.iload 5, 2) := by decide +kernel
theorem dL_due_273 : decode cL_due 273 = .ok (.iconst 1, 1) := by decide +kernel
theorem dL_due_274 : decode cL_due 274 = .ok (.isub, 1) := by decide +kernel
theorem dL_due_275 : decode cL_due 275 = .ok (.iload 8, 2) := by decide +kernel
theorem dL_due_277 : decode cL_due 277 = .ok (.isub, 1) := by decide +kernel
theorem dL_due_278 : decode cL_due 278 = .ok (.iload 9, 2) := by decide +kernel
theorem dL_due_280 : decode cL_due 280 = .ok (.iastore, 1) := by decide +kernel
theorem dL_due_281 : decode cL_due 281 = .ok (.iinc 8 1, 3) := by decide +kernel
theorem dL_due_284 : decode cL_due 284 = .ok (.goto (-49), 3) := by decide +kernel
theorem dL_due_287 : decode cL_due 287 = .ok (.iconst 0, 1) := by decide +kernel
theorem dL_due_288 : decode cL_due 288 = .ok (.istore 8, 2) := by decide +kernel
theorem dL_due_290 : decode cL_due 290 = .ok (.iload 8, 2) := by decide +kernel
theorem dL_due_292 : decode cL_due 292 = .ok (.iload 5, 2) := by decide +kernel
theorem dL_due_294 : decode cL_due 294 = .ok (.if_icmp .ge 38, 3) := by decide +kernel
theorem dL_due_297 : decode cL_due 297 = .ok (.aload 4, 2) := by decide +kernel
theorem dL_due_299 : decode cL_due 299 = .ok (.iload 8, 2) := by decide +kernel
theorem dL_due_301 : decode cL_due 301 = .ok (.aload 4, 2) := by decide +kernel
theorem dL_due_303 : decode cL_due 303 = .ok (.iload 8, 2) := by decide +kernel
theorem dL_due_305 : decode cL_due 305 = .ok (.iaload, 1) := by decide +kernel
theorem dL_due_306 : decode cL_due 306 = .ok (.ineg, 1) := by decide +kernel
theorem dL_due_307 : decode cL_due 307 = .ok (.iastore, 1) := by decide +kernel
theorem dL_due_308 : decode cL_due 308 = .ok (.iload 7, 2) := by decide +kernel
theorem dL_due_310 : decode cL_due 310 = .ok (.aload 4, 2) := by decide +kernel
theorem dL_due_312 : decode cL_due 312 = .ok (.iload 8, 2) := by decide +kernel
theorem dL_due_314 : decode cL_due 314 = .ok (.iaload, 1) := by decide +kernel
theorem dL_due_315 : decode cL_due 315 = .ok (.ifCond .le 7, 3) := by decide +kernel
theorem dL_due_318 : decode cL_due 318 = .ok (.iconst 1, 1) := by decide +kernel
theorem dL_due_319 : decode cL_due 319 = .ok (.goto 4, 3) := by decide +kernel
theorem dL_due_322 : decode cL_due 322 = .ok (.iconst (-1), 1) := by decide +kernel
theorem dL_due_323 : decode cL_due 323 = .ok (.iadd, 1) := by decide +kernel
theorem dL_due_324 : decode cL_due 324 = .ok (.istore 7, 2) := by decide +kernel
theorem dL_due_326 : decode cL_due 326 = .ok (.iinc 8 1, 3) := by decide +kernel
theorem dL_due_329 : decode cL_due 329 = .ok (.goto (-39), 3) := by decide +kernel
theorem dL_due_332 : decode cL_due 332 = .ok (.iload 7, 2) := by decide +kernel
theorem dL_due_334 : decode cL_due 334 = .ok (.ireturn, 1) := by decide +kernel
theorem dL_due_335 : decode cL_due 335 = .ok (.iload 5, 2) := by decide +kernel
theorem dL_due_337 : decode cL_due 337 = .ok (.aload 4, 2) := by decide +kernel
theorem dL_due_339 : decode cL_due 339 = .ok (.invokestatic 113, 3) := by decide +kernel
theorem dL_due_342 : decode cL_due 342 = .ok (.istore 8, 2) := by decide +kernel
theorem dL_due_344 : decode cL_due 344 = .ok (.aload_n 3, 1) := by decide +kernel
theorem dL_due_345 : decode cL_due 345 = .ok (.iconst 0, 1) := by decide +kernel
theorem dL_due_346 : decode cL_due 346 = .ok (.iload 8, 2) := by decide +kernel
theorem dL_due_348 : decode cL_due 348 = .ok (.ifCond .ge 8, 3) := by decide +kernel
theorem dL_due_351 : decode cL_due 351 = .ok (.iload 5, 2) := by decide +kernel
theorem dL_due_353 : decode cL_due 353 = .ok (.goto 5, 3) := by decide +kernel
theorem dL_due_356 : decode cL_due 356 = .ok (.iload 8, 2) := by decide +kernel
theorem dL_due_358 : decode cL_due 358 = .ok (.iastore, 1) := by decide +kernel
theorem dL_due_359 : decode cL_due 359 = .ok (.aload_n 3, 1) := by decide +kernel
theorem dL_due_360 : decode cL_due 360 = .ok (.iconst 1, 1) := by decide +kernel
theorem dL_due_361 : decode cL_due 361 = .ok (.dup2, 1) := by decide +kernel
theorem dL_due_362 : decode cL_due 362 = .ok (.iaload, 1) := by decide +kernel
theorem dL_due_363 : decode cL_due 363 = .ok (.iload 8, 2) := by decide +kernel
theorem dL_due_365 : decode cL_due 365 = .ok (.ifCond .ge 7, 3) := by decide +kernel
theorem dL_due_368 : decode cL_due 368 = .ok (.iconst 0, 1) := by decide +kernel
theorem dL_due_369 : decode cL_due 369 = .ok (.goto 4, 3) := by decide +kernel
theorem dL_due_372 : decode cL_due 372 = .ok (.iconst 1, 1) := by decide +kernel
theorem dL_due_373 : decode cL_due 373 = .ok (.iadd, 1) := by decide +kernel
theorem dL_due_374 : decode cL_due 374 = .ok (.iastore, 1) := by decide +kernel
theorem dL_due_375 : decode cL_due 375 = .ok (.iload 8, 2) := by decide +kernel
theorem dL_due_377 : decode cL_due 377 = .ok (.ireturn, 1) := by decide +kernel
theorem dL_areLaces_0 : decode cL_areLaces 0 = .ok (.iconst 4, 1) := by decide +kernel
theorem dL_areLaces_1 : decode cL_areLaces 1 = .ok (.newarray .int, 2) := by decide +kernel
theorem dL_areLaces_3 : decode cL_areLaces 3 = .ok (.astore 4, 2) := by decide +kernel
theorem dL_areLaces_5 : decode cL_areLaces 5 = .ok (.iconst 0, 1) := by decide +kernel
theorem dL_areLaces_6 : decode cL_areLaces 6 = .ok (.istore 5, 2) := by decide +kernel
theorem dL_areLaces_8 : decode cL_areLaces 8 = .ok (.iload 5, 2) := by decide +kernel
theorem dL_areLaces_10 : decode cL_areLaces 10 = .ok (.iconst 4, 1) := by decide +kernel
theorem dL_areLaces_11 : decode cL_areLaces 11 = .ok (.if_icmp .ge 16, 3) := by decide +kernel
theorem dL_areLaces_14 : decode cL_areLaces 14 = .ok (.aload 4, 2) := by decide +kernel
theorem dL_areLaces_16 : decode cL_areLaces 16 = .ok (.iload 5, 2) := by decide +kernel
theorem dL_areLaces_18 : decode cL_areLaces 18 = .ok (.iload 5, 2) := by decide +kernel
theorem dL_areLaces_20 : decode cL_areLaces 20 = .ok (.iastore, 1) := by decide +kernel
theorem dL_areLaces_21 : decode cL_areLaces 21 = .ok (.iinc 5 1, 3) := by decide +kernel
theorem dL_areLaces_24 : decode cL_areLaces 24 = .ok (.goto (-16), 3) := by decide +kernel
theorem dL_areLaces_27 : decode cL_areLaces 27 = .ok (.bipush 16, 2) := by decide +kernel
theorem dL_areLaces_29 : decode cL_areLaces 29 = .ok (.newarray .int, 2) := by decide +kernel
theorem dL_areLaces_31 : decode cL_areLaces 31 = .ok (.astore 5, 2) := by decide +kernel
theorem dL_areLaces_33 : decode cL_areLaces 33 = .ok (.iload_n 1, 1) := by decide +kernel
theorem dL_areLaces_34 : decode cL_areLaces 34 = .ok (.iload_n 2, 1) := by decide +kernel
theorem dL_areLaces_35 : decode cL_areLaces 35 = .ok (.iconst 1, 1) := by decide +kernel
theorem dL_areLaces_36 : decode cL_areLaces 36 = .ok (.iadd, 1) := by decide +kernel
theorem dL_areLaces_37 : decode cL_areLaces 37 = .ok (.invokestatic 116, 3) := by decide +kernel
theorem dL_areLaces_40 : decode cL_areLaces 40 = .ok (.istore 6, 2) := by decide +kernel
theorem dL_areLaces_42 : decode cL_areLaces 42 = .ok (.iconst 0, 1) := by decide +kernel
theorem dL_areLaces_43 : decode cL_areLaces 43 = .ok (.istore 7, 2) := by decide +kernel
theorem dL_areLaces_45 : decode cL_areLaces 45 = .ok (.iload 7, 2) := by decide +kernel
theorem dL_areLaces_47 : decode cL_areLaces 47 = .ok (.iload_n 2, 1) := by decide +kernel
theorem dL_areLaces_48 : decode cL_areLaces 48 = .ok (.if_icmp .ge 163, 3) := by decide +kernel
theorem dL_areLaces_51 : decode cL_areLaces 51 = .ok (.iconst 0, 1) := by decide +kernel
theorem dL_areLaces_52 : decode cL_areLaces 52 = .ok (.istore 8, 2) := by decide +kernel
theorem dL_areLaces_54 : decode cL_areLaces 54 = .ok (.iload 8, 2) := by decide +kernel
theorem dL_areLaces_56 : decode cL_areLaces 56 = .ok (.iconst 4, 1) := by decide +kernel
theorem dL_areLaces_57 : decode cL_areLaces 57 = .ok (.if_icmp .ge 34, 3) := by decide +kernel
theorem dL_areLaces_60 : decode cL_areLaces 60 = .ok (.iload 7, 2) := by decide +kernel
theorem dL_areLaces_62 : decode cL_areLaces 62 = .ok (.iload 6, 2) := by decide +kernel
theorem dL_areLaces_64 : decode cL_areLaces 64 = .ok (.if_icmp .ne 27, 3) := by decide +kernel
theorem dL_areLaces_67 : decode cL_areLaces 67 = .ok (.aload_n 0, 1) := by decide +kernel
theorem dL_areLaces_68 : decode cL_areLaces 68 = .ok (.iload 6, 2) := by decide +kernel
theorem dL_areLaces_70 : decode cL_areLaces 70 = .ok (.aload 4, 2) := by decide +kernel
theorem dL_areLaces_72 : decode cL_areLaces 72 = .ok (.iload 8, 2) := by decide +kernel
theorem dL_areLaces_74 : decode cL_areLaces 74 = .ok (.iaload, 1) := by decide +kernel
theorem dL_areLaces_75 : decode cL_areLaces 75 = .ok (.invokestatic 119, 3) := by decide +kernel
theorem dL_areLaces_78 : decode cL_areLaces 78 = .ok (.iload 8, 2) := by decide +kernel
theorem dL_areLaces_80 : decode cL_areLaces 80 = .ok (.if_icmp .eq 5, 3) := by decide +kernel
theorem dL_areLaces_83 : decode cL_areLaces 83 = .ok (.iconst 0, 1) := by decide +kernel
theorem dL_areLaces_84 : decode cL_areLaces 84 = .ok (.ireturn, 1) := by decide +kernel
theorem dL_areLaces_85 : decode cL_areLaces 85 = .ok (.iinc 8 1, 3) := by decide +kernel
theorem dL_areLaces_88 : decode cL_areLaces 88 = .ok (.goto (-34), 3) := by decide +kernel
theorem dL_areLaces_91 : decode cL_areLaces 91 = .ok (.iconst 0, 1) := by decide +kernel
theorem dL_areLaces_92 : decode cL_areLaces 92 = .ok (.istore 8, 2) := by decide +kernel
theorem dL_areLaces_94 : decode cL_areLaces 94 = .ok (.iconst 0, 1) := by decide +kernel
theorem dL_areLaces_95 : decode cL_areLaces 95 = .ok (.istore 9, 2) := by decide +kernel
theorem dL_areLaces_97 : decode cL_areLaces 97 = .ok (.iconst 0, 1) := by decide +kernel
theorem dL_areLaces_98 : decode cL_areLaces 98 = .ok (.istore 10, 2) := by decide +kernel
theorem dL_areLaces_100 : decode cL_areLaces 100 = .ok (.iload 10, 2) := by decide +kernel
theorem dL_areLaces_102 : decode cL_areLaces 102 = .ok (.iconst 4, 1) := by decide +kernel
theorem dL_areLaces_103 : decode cL_areLaces 103 = .ok (.if_icmp .ge 59, 3) := by decide +kernel
theorem dL_areLaces_106 : decode cL_areLaces 106 = .ok (.aload 4, 2) := by decide +kernel
theorem dL_areLaces_108 : decode cL_areLaces 108 = .ok (.iload 10, 2) := by decide +kernel
theorem dL_areLaces_110 : decode cL_areLaces 110 = .ok (.iaload, 1) := by decide +kernel
theorem dL_areLaces_111 : decode cL_areLaces 111 = .ok (.aload_n 3, 1) := by decide +kernel
theorem dL_areLaces_112 : decode cL_areLaces 112 = .ok (.iload 7, 2) := by decide +kernel
theorem dL_areLaces_114 : decode cL_areLaces 114 = .ok (.iaload, 1) := by decide +kernel
theorem dL_areLaces_115 : decode cL_areLaces 115 = .ok (.invokestatic 63, 3) := by decide +kernel
theorem dL_areLaces_118 : decode cL_areLaces 118 = .ok (.iconst 1, 1) := by decide +kernel
theorem dL_areLaces_119 : decode cL_areLaces 119 = .ok (.isub, 1) := by decide +kernel
theorem dL_areLaces_120 : decode cL_areLaces 120 = .ok (.if_icmp .ne 8, 3) := by decide +kernel
theorem dL_areLaces_123 : decode cL_areLaces 123 = .ok (.iload 10, 2) := by decide +kernel
theorem dL_areLaces_125 : decode cL_areLaces 125 = .ok (.goto 5, 3) := by decide +kernel
theorem dL_areLaces_128 : decode cL_areLaces 128 = .ok (.iload 8, 2) := by decide +kernel
theorem dL_areLaces_130 : decode cL_areLaces 130 = .ok (.istore 8, 2) := by decide +kernel
theorem dL_areLaces_132 : decode cL_areLaces 132 = .ok (.aload 4, 2) := by decide +kernel
theorem dL_areLaces_134 : decode cL_areLaces 134 = .ok (.iload 10, 2) := by decide +kernel
theorem dL_areLaces_136 : decode cL_areLaces 136 = .ok (.iaload, 1) := by decide +kernel
theorem dL_areLaces_137 : decode cL_areLaces 137 = .ok (.aload_n 3, 1) := by decide +kernel
theorem dL_areLaces_138 : decode cL_areLaces 138 = .ok (.iload 7, 2) := by decide +kernel
theorem dL_areLaces_140 : decode cL_areLaces 140 = .ok (.iaload, 1) := by decide +kernel
theorem dL_areLaces_141 : decode cL_areLaces 141 = .ok (.invokestatic 63, 3) := by decide +kernel
theorem dL_areLaces_144 : decode cL_areLaces 144 = .ok (.if_icmp .ne 8, 3) := by decide +kernel
theorem dL_areLaces_147 : decode cL_areLaces 147 = .ok (.iload 10, 2) := by decide +kernel
theorem dL_areLaces_149 : decode cL_areLaces 149 = .ok (.goto 5, 3) := by decide +kernel
theorem dL_areLaces_152 : decode cL_areLaces 152 = .ok (.iload 9, 2) := by decide +kernel
theorem dL_areLaces_154 : decode cL_areLaces 154 = .ok (.istore 9, 2) := by decide +kernel
theorem dL_areLaces_156 : decode cL_areLaces 156 = .ok (.iinc 10 1, 3) := by decide +kernel
theorem dL_areLaces_159 : decode cL_areLaces 159 = .ok (.goto (-59), 3) := by decide +kernel
theorem dL_areLaces_162 : decode cL_areLaces 162 = .ok (.aload 4, 2) := by decide +kernel
theorem dL_areLaces_164 : decode cL_areLaces 164 = .ok (.iload 8, 2) := by decide +kernel
theorem dL_areLaces_166 : decode cL_areLaces 166 = .ok (.dup2, 1) := by decide +kernel
theorem dL_areLaces_167 : decode cL_areLaces 167 = .ok (.iaload, 1) := by decide +kernel
theorem dL_areLaces_168 : decode cL_areLaces 168 = .ok (.iconst 1, 1) := by decide +kernel
theorem dL_areLaces_169 : decode cL_areLaces 169 = .ok (.iadd, 1) := by decide +kernel
theorem dL_areLaces_170 : decode cL_areLaces 170 = .ok (.iastore, 1) := by decide +kernel
theorem dL_areLaces_171 : decode cL_areLaces 171 = .ok (.aload 4, 2) := by decide +kernel
theorem dL_areLaces_173 : decode cL_areLaces 173 = .ok (.iload 9, 2) := by decide +kernel
theorem dL_areLaces_175 : decode cL_areLaces 175 = .ok (.dup2, 1) := by decide +kernel
theorem dL_areLaces_176 : decode cL_areLaces 176 = .ok (.iaload, 1) := by decide +kernel
theorem dL_areLaces_177 : decode cL_areLaces 177 = .ok (.iconst 1, 1) := by decide +kernel
theorem dL_areLaces_178 : decode cL_areLaces 178 = .ok (.isub, 1) := by decide +kernel
theorem dL_areLaces_179 : decode cL_areLaces 179 = .ok (.iastore, 1) := by decide +kernel
theorem dL_areLaces_180 : decode cL_areLaces 180 = .ok (.aload 5, 2) := by decide +kernel
theorem dL_areLaces_182 : decode cL_areLaces 182 = .ok (.iconst 4, 1) := by decide +kernel
theorem dL_areLaces_183 : decode cL_areLaces 183 = .ok (.iload 8, 2) := by decide +kernel
theorem dL_areLaces_185 : decode cL_areLaces 185 = .ok (.imul, 1) := by decide +kernel
theorem dL_areLaces_186 : decode cL_areLaces 186 = .ok (.iload 9, 2) := by decide +kernel
theorem dL_areLaces_188 : decode cL_areLaces 188 = .ok (.iadd, 1) := by decide +kernel
theorem dL_areLaces_189 : decode cL_areLaces 189 = .ok (.dup2, 1) := by decide +kernel
theorem dL_areLaces_190 : decode cL_areLaces 190 = .ok (.iaload, 1) := by decide +kernel
theorem dL_areLaces_191 : decode cL_areLaces 191 = .ok (.aload_n 3, 1) := by decide +kernel
theorem dL_areLaces_192 : decode cL_areLaces 192 = .ok (.iload 7, 2) := by decide +kernel
theorem dL_areLaces_194 : decode cL_areLaces 194 = .ok (.iaload, 1) := by decide +kernel
theorem dL_areLaces_195 : decode cL_areLaces 195 = .ok (.ifCond .le 7, 3) := by decide +kernel
theorem dL_areLaces_198 : decode cL_areLaces 198 = .ok (.iconst 1, 1) := by decide +kernel
theorem dL_areLaces_199 : decode cL_areLaces 199 = .ok (.goto 4, 3) := by decide +kernel
theorem dL_areLaces_202 : decode cL_areLaces 202 = .ok (.iconst (-1), 1) := by decide +kernel
theorem dL_areLaces_203 : decode cL_areLaces 203 = .ok (.iadd, 1) := by decide +kernel
theorem dL_areLaces_204 : decode cL_areLaces 204 = .ok (.iastore, 1) := by decide +kernel
theorem dL_areLaces_205 : decode cL_areLaces 205 = .ok (.iinc 7 1, 3) := by decide +kernel
theorem dL_areLaces_208 : decode cL_areLaces 208 = .ok (.goto (-163), 3) := by decide +kernel
theorem dL_areLaces_211 : decode cL_areLaces 211 = .ok (.iconst 1, 1) := by decide +kernel
theorem dL_areLaces_212 : decode cL_areLaces 212 = .ok (.istore 7, 2) := by decide +kernel
theorem dL_areLaces_214 : decode cL_areLaces 214 = .ok (.iconst 0, 1) := by decide +kernel
theorem dL_areLaces_215 : decode cL_areLaces 215 = .ok (.istore 8, 2) := by decide +kernel
theorem dL_areLaces_217 : decode cL_areLaces 217 = .ok (.iload 8, 2) := by decide +kernel
theorem dL_areLaces_219 : decode cL_areLaces 219 = .ok (.iconst 4, 1) := by decide +kernel
theorem dL_areLaces_220 : decode cL_areLaces 220 = .ok (.if_icmp .ge 109, 3) := by decide +kernel
theorem dL_areLaces_223 : decode cL_areLaces 223 = .ok (.iload 7, 2) := by decide +kernel
theorem dL_areLaces_225 : decode cL_areLaces 225 = .ok (.ifCond .eq 22, 3) := by decide +kernel
theorem dL_areLaces_228 : decode cL_areLaces 228 = .ok (.aload_n 0, 1) := by decide +kernel
theorem dL_areLaces_229 : decode cL_areLaces 229 = .ok (.iload_n 2, 1) := by decide +kernel
theorem dL_areLaces_230 : decode cL_areLaces 230 = .ok (.aload 4, 2) := by decide +kernel
theorem dL_areLaces_232 : decode cL_areLaces 232 = .ok (.iload 8, 2) := by decide +kernel
theorem dL_areLaces_234 : decode cL_areLaces 234 = .ok (.iaload, 1) := by decide +kernel
theorem dL_areLaces_235 : decode cL_areLaces 235 = .ok (.invokestatic 119, 3) := by decide +kernel
theorem dL_areLaces_238 : decode cL_areLaces 238 = .ok (.iload 8, 2) := by decide +kernel
theorem dL_areLaces_240 : decode cL_areLaces 240 = .ok (.if_icmp .ne 7, 3) := by decide +kernel
theorem dL_areLaces_243 : decode cL_areLaces 243 = .ok (.iconst 1, 1) := by decide +kernel
theorem dL_areLaces_244 : decode cL_areLaces 244 = .ok (.goto 4, 3) := by decide +kernel
theorem dL_areLaces_247 : decode cL_areLaces 247 = .ok (.iconst 0, 1) := by decide +kernel
theorem dL_areLaces_248 : decode cL_areLaces 248 = .ok (.istore 7, 2) := by decide +kernel
theorem dL_areLaces_250 : decode cL_areLaces 250 = .ok (.iconst 0, 1) := by decide +kernel
theorem dL_areLaces_251 : decode cL_areLaces 251 = .ok (.istore 9, 2) := by decide +kernel
theorem dL_areLaces_253 : decode cL_areLaces 253 = .ok (.iload 9, 2) := by decide +kernel
theorem dL_areLaces_255 : decode cL_areLaces 255 = .ok (.iconst 4, 1) := by decide +kernel
theorem dL_areLaces_256 : decode cL_areLaces 256 = .ok (.if_icmp .ge 67, 3) := by decide +kernel
theorem dL_areLaces_259 : decode cL_areLaces 259 = .ok (.iload 7, 2) := by decide +kernel
theorem dL_areLaces_261 : decode cL_areLaces 261 = .ok (.ifCond .eq 53, 3) := by decide +kernel
theorem dL_areLaces_264 : decode cL_areLaces 264 = .ok (.aload_n 0, 1) := by decide +kernel
theorem dL_areLaces_265 : decode cL_areLaces 265 = .ok (.iload 8, 2) := by decide +kernel
theorem dL_areLaces_267 : decode cL_areLaces 267 = .ok (.iload 9, 2) := by decide +kernel
theorem dL_areLaces_269 : decode cL_areLaces 269 = .ok (.invokestatic 121, 3) := by decide +kernel
theorem dL_areLaces_272 : decode cL_areLaces 272 = .ok (.bipush 100, 2) := by decide +kernel
theorem dL_areLaces_274 : decode cL_areLaces 274 = .ok (.iload 8, 2) := by decide +kernel
theorem dL_areLaces_276 : decode cL_areLaces 276 = .ok (.iload 9, 2) := by decide +kernel
theorem dL_areLaces_278 : decode cL_areLaces 278 = .ok (.if_icmp .ne 7, 3) := by decide +kernel
theorem dL_areLaces_281 : decode cL_areLaces 281 = .ok (.iconst 0, 1) := by decide +kernel
theorem dL_areLaces_282 : decode cL_areLaces 282 = .ok (.goto 24, 3) := by decide +kernel
theorem dL_areLaces_285 : decode cL_areLaces 285 = .ok (.aload 5, 2) := by decide +kernel
theorem dL_areLaces_287 : decode cL_areLaces 287 = .ok (.iconst 4, 1) := by decide +kernel
theorem dL_areLaces_288 : decode cL_areLaces 288 = .ok (.iload 8, 2) := by decide +kernel
theorem dL_areLaces_290 : decode cL_areLaces 290 = .ok (.imul, 1) := by decide +kernel
theorem dL_areLaces_291 : decode cL_areLaces 291 = .ok (.iload 9, 2) := by decide +kernel
theorem dL_areLaces_293 : decode cL_areLaces 293 = .ok (.iadd, 1) := by decide +kernel
theorem dL_areLaces_294 : decode cL_areLaces 294 = .ok (.iaload, 1) := by decide +kernel
theorem dL_areLaces_295 : decode cL_areLaces 295 = .ok (.aload 5, 2) := by decide +kernel
theorem dL_areLaces_297 : decode cL_areLaces 297 = .ok (.iconst 4, 1) := by decide +kernel
theorem dL_areLaces_298 : decode cL_areLaces 298 = .ok (.iload 9, 2) := by decide +kernel
theorem dL_areLaces_300 : decode cL_areLaces 300 = .ok (.imul, 1) := by decide +kernel
theorem dL_areLaces_301 : decode cL_areLaces 301 = .ok (.iload 8, 2) := by decide +kernel
theorem dL_areLaces_303 : decode cL_areLaces 303 = .ok (.iadd, 1) := by decide +kernel
theorem dL_areLaces_304 : decode cL_areLaces 304 = .ok (.iaload, 1) := by decide +kernel
theorem dL_areLaces_305 : decode cL_areLaces 305 = .ok (.iadd, 1) := by decide +kernel
theorem dL_areLaces_306 : decode cL_areLaces 306 = .ok (.iadd, 1) := by decide +kernel
theorem dL_areLaces_307 : decode cL_areLaces 307 = .ok (.if_icmp .ne 7, 3) := by decide +kernel
theorem dL_areLaces_310 : decode cL_areLaces 310 = .ok (.iconst 1, 1) := by decide +kernel
theorem dL_areLaces_311 : decode cL_areLaces 311 = .ok (.goto 4, 3) := by decide +kernel
theorem dL_areLaces_314 : decode cL_areLaces 314 = .ok (.iconst 0, 1) := by decide +kernel
theorem dL_areLaces_315 : decode cL_areLaces 315 = .ok (.istore 7, 2) := by decide +kernel
theorem dL_areLaces_317 : decode cL_areLaces 317 = .ok (.iinc 9 1, 3) := by decide +kernel
theorem dL_areLaces_320 : decode cL_areLaces 320 = .ok (.goto (-67), 3) := by decide +kernel
theorem dL_areLaces_323 : decode cL_areLaces 323 = .ok (.iinc 8 1, 3) := by decide +kernel
theorem dL_areLaces_326 : decode cL_areLaces 326 = .ok (.goto (-109), 3) := by decide +kernel
theorem dL_areLaces_329 : decode cL_areLaces 329 = .ok (.iload 7, 2) := by decide +kernel
theorem dL_areLaces_331 : decode cL_areLaces 331 = .ok (.ireturn, 1) := by decide +kernel
theorem dL_isMeasure_0 : decode cL_isMeasure 0 = .ok (.iconst 4, 1) := by decide +kernel
theorem dL_isMeasure_1 : decode cL_isMeasure 1 = .ok (.newarray .long, 2) := by decide +kernel
theorem dL_isMeasure_3 : decode cL_isMeasure 3 = .ok (.astore 4, 2) := by decide +kernel
theorem dL_isMeasure_5 : decode cL_isMeasure 5 = .ok (.aload 4, 2) := by decide +kernel
theorem dL_isMeasure_7 : decode cL_isMeasure 7 = .ok (.iload_n 1, 1) := by decide +kernel
theorem dL_isMeasure_8 : decode cL_isMeasure 8 = .ok (.lconst 1, 1) := by decide +kernel
theorem dL_isMeasure_9 : decode cL_isMeasure 9 = .ok (.lastore, 1) := by decide +kernel
theorem dL_isMeasure_10 : decode cL_isMeasure 10 = .ok (.iconst 0, 1) := by decide +kernel
theorem dL_isMeasure_11 : decode cL_isMeasure 11 = .ok (.istore 5, 2) := by decide +kernel
theorem dL_isMeasure_13 : decode cL_isMeasure 13 = .ok (.iload 5, 2) := by decide +kernel
theorem dL_isMeasure_15 : decode cL_isMeasure 15 = .ok (.iload_n 2, 1) := by decide +kernel
theorem dL_isMeasure_16 : decode cL_isMeasure 16 = .ok (.if_icmp .ge 112, 3) := by decide +kernel
theorem dL_isMeasure_19 : decode cL_isMeasure 19 = .ok (.aload_n 3, 1) := by decide +kernel
theorem dL_isMeasure_20 : decode cL_isMeasure 20 = .ok (.iload 5, 2) := by decide +kernel
theorem dL_isMeasure_22 : decode cL_isMeasure 22 = .ok (.iaload, 1) := by decide +kernel
theorem dL_isMeasure_23 : decode cL_isMeasure 23 = .ok (.invokestatic 63, 3) := by decide +kernel
theorem dL_isMeasure_26 : decode cL_isMeasure 26 = .ok (.istore 6, 2) := by decide +kernel
theorem dL_isMeasure_28 : decode cL_isMeasure 28 = .ok (.aload 4, 2) := by decide +kernel
theorem dL_isMeasure_30 : decode cL_isMeasure 30 = .ok (.iload 6, 2) := by decide +kernel
theorem dL_isMeasure_32 : decode cL_isMeasure 32 = .ok (.iconst 1, 1) := by decide +kernel
theorem dL_isMeasure_33 : decode cL_isMeasure 33 = .ok (.isub, 1) := by decide +kernel
theorem dL_isMeasure_34 : decode cL_isMeasure 34 = .ok (.laload, 1) := by decide +kernel
theorem dL_isMeasure_35 : decode cL_isMeasure 35 = .ok (.lstore 7, 2) := by decide +kernel
theorem dL_isMeasure_37 : decode cL_isMeasure 37 = .ok (.aload 4, 2) := by decide +kernel
theorem dL_isMeasure_39 : decode cL_isMeasure 39 = .ok (.iload 6, 2) := by decide +kernel
theorem dL_isMeasure_41 : decode cL_isMeasure 41 = .ok (.laload, 1) := by decide +kernel
theorem dL_isMeasure_42 : decode cL_isMeasure 42 = .ok (.lstore 9, 2) := by decide +kernel
theorem dL_isMeasure_44 : decode cL_isMeasure 44 = .ok (.aload 4, 2) := by decide +kernel
theorem dL_isMeasure_46 : decode cL_isMeasure 46 = .ok (.iload 6, 2) := by decide +kernel
theorem dL_isMeasure_48 : decode cL_isMeasure 48 = .ok (.iconst 1, 1) := by decide +kernel
theorem dL_isMeasure_49 : decode cL_isMeasure 49 = .ok (.isub, 1) := by decide +kernel
theorem dL_isMeasure_50 : decode cL_isMeasure 50 = .ok (.aload_n 3, 1) := by decide +kernel
theorem dL_isMeasure_51 : decode cL_isMeasure 51 = .ok (.iload 5, 2) := by decide +kernel
theorem dL_isMeasure_53 : decode cL_isMeasure 53 = .ok (.iaload, 1) := by decide +kernel
theorem dL_isMeasure_54 : decode cL_isMeasure 54 = .ok (.ifCond .le 19, 3) := by decide +kernel
theorem dL_isMeasure_57 : decode cL_isMeasure 57 = .ok (.ldc2_w 123, 3) := by decide +kernel
theorem dL_isMeasure_60 : decode cL_isMeasure 60 = .ok (.lload 7, 2) := by decide +kernel
theorem dL_isMeasure_62 : decode cL_isMeasure 62 = .ok (.lmul, 1) := by decide +kernel
theorem dL_isMeasure_63 : decode cL_isMeasure 63 = .ok (.lload 9, 2) := by decide +kernel
theorem dL_isMeasure_65 : decode cL_isMeasure 65 = .ok (.ladd, 1) := by decide +kernel
theorem dL_isMeasure_66 : decode cL_isMeasure 66 = .ok (.ldc2_w 125, 3) := by decide +kernel
theorem dL_isMeasure_69 : decode cL_isMeasure 69 = .ok (.lrem, 1) := by decide +kernel
theorem dL_isMeasure_70 : decode cL_isMeasure 70 = .ok (.goto 13, 3) := by decide +kernel
theorem dL_isMeasure_73 : decode cL_isMeasure 73 = .ok (.ldc2_w 127, 3) := by decide +kernel
theorem dL_isMeasure_76 : decode cL_isMeasure 76 = .ok (.lload 9, 2) := by decide +kernel
theorem dL_isMeasure_78 : decode cL_isMeasure 78 = .ok (.lmul, 1) := by decide +kernel
theorem dL_isMeasure_79 : decode cL_isMeasure 79 = .ok (.ldc2_w 125, 3) := by decide +kernel
theorem dL_isMeasure_82 : decode cL_isMeasure 82 = .ok (.lrem, 1) := by decide +kernel
theorem dL_isMeasure_83 : decode cL_isMeasure 83 = .ok (.lastore, 1) := by decide +kernel
theorem dL_isMeasure_84 : decode cL_isMeasure 84 = .ok (.aload 4, 2) := by decide +kernel
theorem dL_isMeasure_86 : decode cL_isMeasure 86 = .ok (.iload 6, 2) := by decide +kernel
theorem dL_isMeasure_88 : decode cL_isMeasure 88 = .ok (.aload_n 3, 1) := by decide +kernel
theorem dL_isMeasure_89 : decode cL_isMeasure 89 = .ok (.iload 5, 2) := by decide +kernel
theorem dL_isMeasure_91 : decode cL_isMeasure 91 = .ok (.iaload, 1) := by decide +kernel
theorem dL_isMeasure_92 : decode cL_isMeasure 92 = .ok (.ifCond .le 16, 3) := by decide +kernel
theorem dL_isMeasure_95 : decode cL_isMeasure 95 = .ok (.ldc2_w 129, 3) := by decide +kernel
theorem dL_isMeasure_98 : decode cL_isMeasure 98 = .ok (.lload 7, 2) := by decide +kernel
theorem dL_isMeasure_100 : decode cL_isMeasure 100 = .ok (.lmul, 1) := by decide +kernel
theorem dL_isMeasure_101 : decode cL_isMeasure 101 = .ok (.ldc2_w 125, 3) := by decide +kernel
theorem dL_isMeasure_104 : decode cL_isMeasure 104 = .ok (.lrem, 1) := by decide +kernel
theorem dL_isMeasure_105 : decode cL_isMeasure 105 = .ok (.goto 16, 3) := by decide +kernel
theorem dL_isMeasure_108 : decode cL_isMeasure 108 = .ok (.lload 7, 2) := by decide +kernel
theorem dL_isMeasure_110 : decode cL_isMeasure 110 = .ok (.ldc2_w 127, 3) := by decide +kernel
theorem dL_isMeasure_113 : decode cL_isMeasure 113 = .ok (.lload 9, 2) := by decide +kernel
theorem dL_isMeasure_115 : decode cL_isMeasure 115 = .ok (.lmul, 1) := by decide +kernel
theorem dL_isMeasure_116 : decode cL_isMeasure 116 = .ok (.ladd, 1) := by decide +kernel
theorem dL_isMeasure_117 : decode cL_isMeasure 117 = .ok (.ldc2_w 125, 3) := by decide +kernel
theorem dL_isMeasure_120 : decode cL_isMeasure 120 = .ok (.lrem, 1) := by decide +kernel
theorem dL_isMeasure_121 : decode cL_isMeasure 121 = .ok (.lastore, 1) := by decide +kernel
theorem dL_isMeasure_122 : decode cL_isMeasure 122 = .ok (.iinc 5 1, 3) := by decide +kernel
theorem dL_isMeasure_125 : decode cL_isMeasure 125 = .ok (.goto (-112), 3) := by decide +kernel
theorem dL_isMeasure_128 : decode cL_isMeasure 128 = .ok (.iconst 1, 1) := by decide +kernel
theorem dL_isMeasure_129 : decode cL_isMeasure 129 = .ok (.istore 5, 2) := by decide +kernel
theorem dL_isMeasure_131 : decode cL_isMeasure 131 = .ok (.iconst 0, 1) := by decide +kernel
theorem dL_isMeasure_132 : decode cL_isMeasure 132 = .ok (.istore 6, 2) := by decide +kernel
theorem dL_isMeasure_134 : decode cL_isMeasure 134 = .ok (.iload 6, 2) := by decide +kernel
theorem dL_isMeasure_136 : decode cL_isMeasure 136 = .ok (.iconst 4, 1) := by decide +kernel
theorem dL_isMeasure_137 : decode cL_isMeasure 137 = .ok (.if_icmp .ge 55, 3) := by decide +kernel
theorem dL_isMeasure_140 : decode cL_isMeasure 140 = .ok (.iload 5, 2) := by decide +kernel
theorem dL_isMeasure_142 : decode cL_isMeasure 142 = .ok (.ifCond .eq 41, 3) := by decide +kernel
theorem dL_isMeasure_145 : decode cL_isMeasure 145 = .ok (.aload_n 0, 1) := by decide +kernel
theorem dL_isMeasure_146 : decode cL_isMeasure 146 = .ok (.iload_n 1, 1) := by decide +kernel
theorem dL_isMeasure_147 : decode cL_isMeasure 147 = .ok (.iload 6, 2) := by decide +kernel
theorem dL_isMeasure_149 : decode cL_isMeasure 149 = .ok (.invokestatic 131, 3) := by decide +kernel
theorem dL_isMeasure_152 : decode cL_isMeasure 152 = .ok (.i2l, 1) := by decide +kernel
theorem dL_isMeasure_153 : decode cL_isMeasure 153 = .ok (.aload 4, 2) := by decide +kernel
theorem dL_isMeasure_155 : decode cL_isMeasure 155 = .ok (.iload 6, 2) := by decide +kernel
theorem dL_isMeasure_157 : decode cL_isMeasure 157 = .ok (.laload, 1) := by decide +kernel
theorem dL_isMeasure_158 : decode cL_isMeasure 158 = .ok (.lcmp, 1) := by decide +kernel
theorem dL_isMeasure_159 : decode cL_isMeasure 159 = .ok (.ifCond .ne 24, 3) := by decide +kernel
theorem dL_isMeasure_162 : decode cL_isMeasure 162 = .ok (.aload_n 0, 1) := by decide +kernel
theorem dL_isMeasure_163 : decode cL_isMeasure 163 = .ok (.iload_n 1, 1) := by decide +kernel
theorem dL_isMeasure_164 : decode cL_isMeasure 164 = .ok (.iload 6, 2) := by decide +kernel
theorem dL_isMeasure_166 : decode cL_isMeasure 166 = .ok (.invokestatic 133, 3) := by decide +kernel
theorem dL_isMeasure_169 : decode cL_isMeasure 169 = .ok (.i2l, 1) := by decide +kernel
theorem dL_isMeasure_170 : decode cL_isMeasure 170 = .ok (.aload 4, 2) := by decide +kernel
theorem dL_isMeasure_172 : decode cL_isMeasure 172 = .ok (.iload 6, 2) := by decide +kernel
theorem dL_isMeasure_174 : decode cL_isMeasure 174 = .ok (.laload, 1) := by decide +kernel
theorem dL_isMeasure_175 : decode cL_isMeasure 175 = .ok (.lcmp, 1) := by decide +kernel
theorem dL_isMeasure_176 : decode cL_isMeasure 176 = .ok (.ifCond .ne 7, 3) := by decide +kernel
theorem dL_isMeasure_179 : decode cL_isMeasure 179 = .ok (.iconst 1, 1) := by decide +kernel
theorem dL_isMeasure_180 : decode cL_isMeasure 180 = .ok (.goto 4, 3) := by decide +kernel
theorem dL_isMeasure_183 : decode cL_isMeasure 183 = .ok (.iconst 0, 1) := by decide +kernel
theorem dL_isMeasure_184 : decode cL_isMeasure 184 = .ok (.istore 5, 2) := by decide +kernel
theorem dL_isMeasure_186 : decode cL_isMeasure 186 = .ok (.iinc 6 1, 3) := by decide +kernel
theorem dL_isMeasure_189 : decode cL_isMeasure 189 = .ok (.goto (-55), 3) := by decide +kernel
theorem dL_isMeasure_192 : decode cL_isMeasure 192 = .ok (.iload 5, 2) := by decide +kernel
theorem dL_isMeasure_194 : decode cL_isMeasure 194 = .ok (.ireturn, 1) := by decide +kernel
theorem dL_possibles_0 : decode cL_possibles 0 = .ok (.iconst 0, 1) := by decide +kernel
theorem dL_possibles_1 : decode cL_possibles 1 = .ok (.istore_n 3, 1) := by decide +kernel
theorem dL_possibles_2 : decode cL_possibles 2 = .ok (.iconst 0, 1) := by decide +kernel
theorem dL_possibles_3 : decode cL_possibles 3 = .ok (.istore 4, 2) := by decide +kernel
theorem dL_possibles_5 : decode cL_possibles 5 = .ok (.iload 4, 2) := by decide +kernel
theorem dL_possibles_7 : decode cL_possibles 7 = .ok (.iload_n 1, 1) := by decide +kernel
theorem dL_possibles_8 : decode cL_possibles 8 = .ok (.if_icmp .ge 28, 3) := by decide +kernel
theorem dL_possibles_11 : decode cL_possibles 11 = .ok (.iload_n 3, 1) := by decide +kernel
theorem dL_possibles_12 : decode cL_possibles 12 = .ok (.iload_n 0, 1) := by decide +kernel
theorem dL_possibles_13 : decode cL_possibles 13 = .ok (.iload 4, 2) := by decide +kernel
theorem dL_possibles_15 : decode cL_possibles 15 = .ok (.iload_n 1, 1) := by decide +kernel
theorem dL_possibles_16 : decode cL_possibles 16 = .ok (.aload_n 2, 1) := by decide +kernel
theorem dL_possibles_17 : decode cL_possibles 17 = .ok (.invokestatic 103, 3) := by decide +kernel
theorem dL_possibles_20 : decode cL_possibles 20 = .ok (.ifCond .ne 7, 3) := by decide +kernel
theorem dL_possibles_23 : decode cL_possibles 23 = .ok (.iconst 1, 1) := by decide +kernel
theorem dL_possibles_24 : decode cL_possibles 24 = .ok (.goto 4, 3) := by decide +kernel
theorem dL_possibles_27 : decode cL_possibles 27 = .ok (.iconst 0, 1) := by decide +kernel
theorem dL_possibles_28 : decode cL_possibles 28 = .ok (.iadd, 1) := by decide +kernel
theorem dL_possibles_29 : decode cL_possibles 29 = .ok (.istore_n 3, 1) := by decide +kernel
theorem dL_possibles_30 : decode cL_possibles 30 = .ok (.iinc 4 1, 3) := by decide +kernel
theorem dL_possibles_33 : decode cL_possibles 33 = .ok (.goto (-28), 3) := by decide +kernel
theorem dL_possibles_36 : decode cL_possibles 36 = .ok (.iload_n 3, 1) := by decide +kernel
theorem dL_possibles_37 : decode cL_possibles 37 = .ok (.ireturn, 1) := by decide +kernel
theorem dL_best_0 : decode cL_best 0 = .ok (.iconst 0, 1) := by decide +kernel
theorem dL_best_1 : decode cL_best 1 = .ok (.iload_n 0, 1) := by decide +kernel
theorem dL_best_2 : decode cL_best 2 = .ok (.aload_n 1, 1) := by decide +kernel
theorem dL_best_3 : decode cL_best 3 = .ok (.invokestatic 135, 3) := by decide +kernel
theorem dL_best_6 : decode cL_best 6 = .ok (.istore_n 2, 1) := by decide +kernel
theorem dL_best_7 : decode cL_best 7 = .ok (.iconst 1, 1) := by decide +kernel
theorem dL_best_8 : decode cL_best 8 = .ok (.istore_n 3, 1) := by decide +kernel
theorem dL_best_9 : decode cL_best 9 = .ok (.iload_n 3, 1) := by decide +kernel
theorem dL_best_10 : decode cL_best 10 = .ok (.iconst 3, 1) := by decide +kernel
theorem dL_best_11 : decode cL_best 11 = .ok (.if_icmp .ge 95, 3) := by decide +kernel
theorem dL_best_14 : decode cL_best 14 = .ok (.iconst 0, 1) := by decide +kernel
theorem dL_best_15 : decode cL_best 15 = .ok (.istore 4, 2) := by decide +kernel
theorem dL_best_17 : decode cL_best 17 = .ok (.iload 4, 2) := by decide +kernel
theorem dL_best_19 : decode cL_best 19 = .ok (.iload_n 0, 1) := by decide +kernel
theorem dL_best_20 : decode cL_best 20 = .ok (.if_icmp .ge 80, 3) := by decide +kernel
theorem dL_best_23 : decode cL_best 23 = .ok (.iload_n 3, 1) := by decide +kernel
theorem dL_best_24 : decode cL_best 24 = .ok (.iload 4, 2) := by decide +kernel
theorem dL_best_26 : decode cL_best 26 = .ok (.iload_n 0, 1) := by decide +kernel
theorem dL_best_27 : decode cL_best 27 = .ok (.aload_n 1, 1) := by decide +kernel
theorem dL_best_28 : decode cL_best 28 = .ok (.invokestatic 103, 3) := by decide +kernel
theorem dL_best_31 : decode cL_best 31 = .ok (.ifCond .ne 63, 3) := by decide +kernel
theorem dL_best_34 : decode cL_best 34 = .ok (.bipush 32, 2) := by decide +kernel
theorem dL_best_36 : decode cL_best 36 = .ok (.newarray .int, 2) := by decide +kernel
theorem dL_best_38 : decode cL_best 38 = .ok (.astore 5, 2) := by decide +kernel
theorem dL_best_40 : decode cL_best 40 = .ok (.iconst 0, 1) := by decide +kernel
theorem dL_best_41 : decode cL_best 41 = .ok (.istore 6, 2) := by decide +kernel
theorem dL_best_43 : decode cL_best 43 = .ok (.iload 6, 2) := by decide +kernel
theorem dL_best_45 : decode cL_best 45 = .ok (.bipush 32, 2) := by decide +kernel
theorem dL_best_47 : decode cL_best 47 = .ok (.if_icmp .ge 18, 3) := by decide +kernel
theorem dL_best_50 : decode cL_best 50 = .ok (.aload 5, 2) := by decide +kernel
theorem dL_best_52 : decode cL_best 52 = .ok (.iload 6, 2) := by decide +kernel
theorem dL_best_54 : decode cL_best 54 = .ok (.aload_n 1, 1) := by decide +kernel
theorem dL_best_55 : decode cL_best 55 = .ok (.iload 6, 2) := by decide +kernel
theorem dL_best_57 : decode cL_best 57 = .ok (.iaload, 1) := by decide +kernel
theorem dL_best_58 : decode cL_best 58 = .ok (.iastore, 1) := by decide +kernel
theorem dL_best_59 : decode cL_best 59 = .ok (.iinc 6 1, 3) := by decide +kernel
theorem dL_best_62 : decode cL_best 62 = .ok (.goto (-19), 3) := by decide +kernel
theorem dL_best_65 : decode cL_best 65 = .ok (.iload_n 3, 1) := by decide +kernel
theorem dL_best_66 : decode cL_best 66 = .ok (.iload 4, 2) := by decide +kernel
theorem dL_best_68 : decode cL_best 68 = .ok (.iload_n 0, 1) := by decide +kernel
theorem dL_best_69 : decode cL_best 69 = .ok (.aload 5, 2) := by decide +kernel
theorem dL_best_71 : decode cL_best 71 = .ok (.invokestatic 107, 3) := by decide +kernel
theorem dL_best_74 : decode cL_best 74 = .ok (.pop, 1) := by decide +kernel
theorem dL_best_75 : decode cL_best 75 = .ok (.iconst 0, 1) := by decide +kernel
theorem dL_best_76 : decode cL_best 76 = .ok (.iload_n 0, 1) := by decide +kernel
theorem dL_best_77 : decode cL_best 77 = .ok (.aload 5, 2) := by decide +kernel
theorem dL_best_79 : decode cL_best 79 = .ok (.invokestatic 135, 3) := by decide +kernel
theorem dL_best_82 : decode cL_best 82 = .ok (.iload_n 2, 1) := by decide +kernel
theorem dL_best_83 : decode cL_best 83 = .ok (.if_icmp .le 11, 3) := by decide +kernel
theorem dL_best_86 : decode cL_best 86 = .ok (.bipush 31, 2) := by decide +kernel
theorem dL_best_88 : decode cL_best 88 = .ok (.iload_n 3, 1) := by decide +kernel
theorem dL_best_89 : decode cL_best 89 = .ok (.imul, 1) := by decide +kernel
theorem dL_best_90 : decode cL_best 90 = .ok (.iload 4, 2) := by decide +kernel
theorem dL_best_92 : decode cL_best 92 = .ok (.iadd, 1) := by decide +kernel
theorem dL_best_93 : decode cL_best 93 = .ok (.ireturn, 1) := by decide +kernel
theorem dL_best_94 : decode cL_best 94 = .ok (.iinc 4 1, 3) := by decide +kernel
theorem dL_best_97 : decode cL_best 97 = .ok (.goto (-80), 3) := by decide +kernel
theorem dL_best_100 : decode cL_best 100 = .ok (.iinc 3 1, 3) := by decide +kernel
theorem dL_best_103 : decode cL_best 103 = .ok (.goto (-94), 3) := by decide +kernel
theorem dL_best_106 : decode cL_best 106 = .ok (.iconst (-1), 1) := by decide +kernel
theorem dL_best_107 : decode cL_best 107 = .ok (.ireturn, 1) := by decide +kernel
theorem dL_isSo_0 : decode cL_isSo 0 = .ok (.aload_n 2, 1) := by decide +kernel
theorem dL_isSo_1 : decode cL_isSo 1 = .ok (.iconst 0, 1) := by decide +kernel
theorem dL_isSo_2 : decode cL_isSo 2 = .ok (.iaload, 1) := by decide +kernel
theorem dL_isSo_3 : decode cL_isSo 3 = .ok (.istore 4, 2) := by decide +kernel
theorem dL_isSo_5 : decode cL_isSo 5 = .ok (.bipush 100, 2) := by decide +kernel
theorem dL_isSo_7 : decode cL_isSo 7 = .ok (.istore 5, 2) := by decide +kernel
theorem dL_isSo_9 : decode cL_isSo 9 = .ok (.iconst 0, 1) := by decide +kernel
theorem dL_isSo_10 : decode cL_isSo 10 = .ok (.istore 6, 2) := by decide +kernel
theorem dL_isSo_12 : decode cL_isSo 12 = .ok (.iconst 0, 1) := by decide +kernel
theorem dL_isSo_13 : decode cL_isSo 13 = .ok (.istore 7, 2) := by decide +kernel
theorem dL_isSo_15 : decode cL_isSo 15 = .ok (.iconst 0, 1) := by decide +kernel
theorem dL_isSo_16 : decode cL_isSo 16 = .ok (.istore 8, 2) := by decide +kernel
theorem dL_isSo_18 : decode cL_isSo 18 = .ok (.iload 8, 2) := by decide +kernel
theorem dL_isSo_20 : decode cL_isSo 20 = .ok (.iload 4, 2) := by decide +kernel
theorem dL_isSo_22 : decode cL_isSo 22 = .ok (.if_icmp .ge 75, 3) := by decide +kernel
theorem dL_isSo_25 : decode cL_isSo 25 = .ok (.iload 5, 2) := by decide +kernel
theorem dL_isSo_27 : decode cL_isSo 27 = .ok (.aload_n 3, 1) := by decide +kernel
theorem dL_isSo_28 : decode cL_isSo 28 = .ok (.iload 8, 2) := by decide +kernel
theorem dL_isSo_30 : decode cL_isSo 30 = .ok (.iaload, 1) := by decide +kernel
theorem dL_isSo_31 : decode cL_isSo 31 = .ok (.ifCond .le 7, 3) := by decide +kernel
theorem dL_isSo_34 : decode cL_isSo 34 = .ok (.iconst 1, 1) := by decide +kernel
theorem dL_isSo_35 : decode cL_isSo 35 = .ok (.goto 4, 3) := by decide +kernel
theorem dL_isSo_38 : decode cL_isSo 38 = .ok (.iconst (-1), 1) := by decide +kernel
theorem dL_isSo_39 : decode cL_isSo 39 = .ok (.iadd, 1) := by decide +kernel
theorem dL_isSo_40 : decode cL_isSo 40 = .ok (.istore 5, 2) := by decide +kernel
theorem dL_isSo_42 : decode cL_isSo 42 = .ok (.iload 6, 2) := by decide +kernel
theorem dL_isSo_44 : decode cL_isSo 44 = .ok (.aload_n 3, 1) := by decide +kernel
theorem dL_isSo_45 : decode cL_isSo 45 = .ok (.iload 8, 2) := by decide +kernel
theorem dL_isSo_47 : decode cL_isSo 47 = .ok (.iaload, 1) := by decide +kernel
theorem dL_isSo_48 : decode cL_isSo 48 = .ok (.ifCond .le 7, 3) := by decide +kernel
theorem dL_isSo_51 : decode cL_isSo 51 = .ok (.iconst 1, 1) := by decide +kernel
theorem dL_isSo_52 : decode cL_isSo 52 = .ok (.goto 4, 3) := by decide +kernel
theorem dL_isSo_55 : decode cL_isSo 55 = .ok (.iconst 0, 1) := by decide +kernel
theorem dL_isSo_56 : decode cL_isSo 56 = .ok (.iadd, 1) := by decide +kernel
theorem dL_isSo_57 : decode cL_isSo 57 = .ok (.istore 6, 2) := by decide +kernel
theorem dL_isSo_59 : decode cL_isSo 59 = .ok (.iload 7, 2) := by decide +kernel
theorem dL_isSo_61 : decode cL_isSo 61 = .ok (.iconst 1, 1) := by decide +kernel
theorem dL_isSo_62 : decode cL_isSo 62 = .ok (.aload_n 3, 1) := by decide +kernel
theorem dL_isSo_63 : decode cL_isSo 63 = .ok (.iload 8, 2) := by decide +kernel
theorem dL_isSo_65 : decode cL_isSo 65 = .ok (.iaload, 1) := by decide +kernel
theorem dL_isSo_66 : decode cL_isSo 66 = .ok (.invokestatic 63, 3) := by decide +kernel
theorem dL_isSo_69 : decode cL_isSo 69 = .ok (.ishl, 1) := by decide +kernel
theorem dL_isSo_70 : decode cL_isSo 70 = .ok (.ior, 1) := by decide +kernel
theorem dL_isSo_71 : decode cL_isSo 71 = .ok (.istore 7, 2) := by decide +kernel
theorem dL_isSo_73 : decode cL_isSo 73 = .ok (.aload_n 0, 1) := by decide +kernel
theorem dL_isSo_74 : decode cL_isSo 74 = .ok (.iload 8, 2) := by decide +kernel
theorem dL_isSo_76 : decode cL_isSo 76 = .ok (.invokestatic 80, 3) := by decide +kernel
theorem dL_isSo_79 : decode cL_isSo 79 = .ok (.aload_n 3, 1) := by decide +kernel
theorem dL_isSo_80 : decode cL_isSo 80 = .ok (.iload 8, 2) := by decide +kernel
theorem dL_isSo_82 : decode cL_isSo 82 = .ok (.iaload, 1) := by decide +kernel
theorem dL_isSo_83 : decode cL_isSo 83 = .ok (.bipush 10, 2) := by decide +kernel
theorem dL_isSo_85 : decode cL_isSo 85 = .ok (.iadd, 1) := by decide +kernel
theorem dL_isSo_86 : decode cL_isSo 86 = .ok (.if_icmp .eq 5, 3) := by decide +kernel
theorem dL_isSo_89 : decode cL_isSo 89 = .ok (.iconst 0, 1) := by decide +kernel
theorem dL_isSo_90 : decode cL_isSo 90 = .ok (.ireturn, 1) := by decide +kernel
theorem dL_isSo_91 : decode cL_isSo 91 = .ok (.iinc 8 1, 3) := by decide +kernel
theorem dL_isSo_94 : decode cL_isSo 94 = .ok (.goto (-76), 3) := by decide +kernel
theorem dL_isSo_97 : decode cL_isSo 97 = .ok (.iload 4, 2) := by decide +kernel
theorem dL_isSo_99 : decode cL_isSo 99 = .ok (.aload_n 3, 1) := by decide +kernel
theorem dL_isSo_100 : decode cL_isSo 100 = .ok (.invokestatic 72, 3) := by decide +kernel
theorem dL_isSo_103 : decode cL_isSo 103 = .ok (.istore 8, 2) := by decide +kernel
theorem dL_isSo_105 : decode cL_isSo 105 = .ok (.aload_n 0, 1) := by decide +kernel
theorem dL_isSo_106 : decode cL_isSo 106 = .ok (.iload 4, 2) := by decide +kernel
theorem dL_isSo_108 : decode cL_isSo 108 = .ok (.invokestatic 80, 3) := by decide +kernel
theorem dL_isSo_111 : decode cL_isSo 111 = .ok (.iconst (-1), 1) := by decide +kernel
theorem dL_isSo_112 : decode cL_isSo 112 = .ok (.if_icmp .ne 103, 3) := by decide +kernel
theorem dL_isSo_115 : decode cL_isSo 115 = .ok (.aload_n 0, 1) := by decide +kernel
theorem dL_isSo_116 : decode cL_isSo 116 = .ok (.iconst 0, 1) := by decide +kernel
theorem dL_isSo_117 : decode cL_isSo 117 = .ok (.invokestatic 83, 3) := by decide +kernel
theorem dL_isSo_120 : decode cL_isSo 120 = .ok (.iload 4, 2) := by decide +kernel
theorem dL_isSo_122 : decode cL_isSo 122 = .ok (.if_icmp .ne 93, 3) := by decide +kernel
theorem dL_isSo_125 : decode cL_isSo 125 = .ok (.aload_n 0, 1) := by decide +kernel
theorem dL_isSo_126 : decode cL_isSo 126 = .ok (.iconst 1, 1) := by decide +kernel
theorem dL_isSo_127 : decode cL_isSo 127 = .ok (.invokestatic 83, 3) := by decide +kernel
theorem dL_isSo_130 : decode cL_isSo 130 = .ok (.iload 5, 2) := by decide +kernel
theorem dL_isSo_132 : decode cL_isSo 132 = .ok (.if_icmp .ne 83, 3) := by decide +kernel
theorem dL_isSo_135 : decode cL_isSo 135 = .ok (.aload_n 0, 1) := by decide +kernel
theorem dL_isSo_136 : decode cL_isSo 136 = .ok (.iconst 2, 1) := by decide +kernel
theorem dL_isSo_137 : decode cL_isSo 137 = .ok (.invokestatic 83, 3) := by decide +kernel
theorem dL_isSo_140 : decode cL_isSo 140 = .ok (.aload_n 2, 1) := by decide +kernel
theorem dL_isSo_141 : decode cL_isSo 141 = .ok (.iconst 1, 1) := by decide +kernel
theorem dL_isSo_142 : decode cL_isSo 142 = .ok (.iaload, 1) := by decide +kernel
theorem dL_isSo_143 : decode cL_isSo 143 = .ok (.if_icmp .ne 72, 3) := by decide +kernel
theorem dL_isSo_146 : decode cL_isSo 146 = .ok (.aload_n 0, 1) := by decide +kernel
theorem dL_isSo_147 : decode cL_isSo 147 = .ok (.iconst 3, 1) := by decide +kernel
theorem dL_isSo_148 : decode cL_isSo 148 = .ok (.invokestatic 83, 3) := by decide +kernel
theorem dL_isSo_151 : decode cL_isSo 151 = .ok (.iload 6, 2) := by decide +kernel
theorem dL_isSo_153 : decode cL_isSo 153 = .ok (.if_icmp .ne 62, 3) := by decide +kernel
theorem dL_isSo_156 : decode cL_isSo 156 = .ok (.aload_n 0, 1) := by decide +kernel
theorem dL_isSo_157 : decode cL_isSo 157 = .ok (.iconst 4, 1) := by decide +kernel
theorem dL_isSo_158 : decode cL_isSo 158 = .ok (.invokestatic 83, 3) := by decide +kernel
theorem dL_isSo_161 : decode cL_isSo 161 = .ok (.iload 7, 2) := by decide +kernel
theorem dL_isSo_163 : decode cL_isSo 163 = .ok (.if_icmp .ne 52, 3) := by decide +kernel
theorem dL_isSo_166 : decode cL_isSo 166 = .ok (.aload_n 0, 1) := by decide +kernel
theorem dL_isSo_167 : decode cL_isSo 167 = .ok (.iconst 5, 1) := by decide +kernel
theorem dL_isSo_168 : decode cL_isSo 168 = .ok (.invokestatic 83, 3) := by decide +kernel
theorem dL_isSo_171 : decode cL_isSo 171 = .ok (.iload 8, 2) := by decide +kernel
theorem dL_isSo_173 : decode cL_isSo 173 = .ok (.ifCond .ge 7, 3) := by decide +kernel
theorem dL_isSo_176 : decode cL_isSo 176 = .ok (.iconst (-1), 1) := by decide +kernel
theorem dL_isSo_177 : decode cL_isSo 177 = .ok (.goto 8, 3) := by decide +kernel
theorem dL_isSo_180 : decode cL_isSo 180 = .ok (.iload 8, 2) := by decide +kernel
theorem dL_isSo_182 : decode cL_isSo 182 = .ok (.bipush 64, 2) := by decide +kernel
theorem dL_isSo_184 : decode cL_isSo 184 = .ok (.idiv, 1) := by decide +kernel
theorem dL_isSo_185 : decode cL_isSo 185 = .ok (.if_icmp .ne 30, 3) := by decide +kernel
theorem dL_isSo_188 : decode cL_isSo 188 = .ok (.aload_n 0, 1) := by decide +kernel
theorem dL_isSo_189 : decode cL_isSo 189 = .ok (.bipush 6, 2) := by decide +kernel
theorem dL_isSo_191 : decode cL_isSo 191 = .ok (.invokestatic 83, 3) := by decide +kernel
theorem dL_isSo_194 : decode cL_isSo 194 = .ok (.iload 8, 2) := by decide +kernel
theorem dL_isSo_196 : decode cL_isSo 196 = .ok (.ifCond .ge 7, 3) := by decide +kernel
theorem dL_isSo_199 : decode cL_isSo 199 = .ok (.iconst (-1), 1) := by decide +kernel
theorem dL_isSo_200 : decode cL_isSo 200 = .ok (.goto 8, 3) := by decide +kernel
theorem dL_isSo_203 : decode cL_isSo 203 = .ok (.iload 8, 2) := by decide +kernel
theorem dL_isSo_205 : decode cL_isSo 205 = .ok (.bipush 64, 2) := by decide +kernel
theorem dL_isSo_207 : decode cL_isSo 207 = .ok (.irem, 1) := by decide +kernel
theorem dL_isSo_208 : decode cL_isSo 208 = .ok (.if_icmp .ne 7, 3) := by decide +kernel
theorem dL_isSo_211 : decode cL_isSo 211 = .ok (.iconst 1, 1) := by decide +kernel
theorem dL_isSo_212 : decode cL_isSo 212 = .ok (.goto 4, 3) := by decide +kernel
theorem dL_isSo_215 : decode cL_isSo 215 = .ok (.iconst 0, 1) := by decide +kernel
theorem dL_isSo_216 : decode cL_isSo 216 = .ok (.istore 9, 2) := by decide +kernel
theorem dL_isSo_218 : decode cL_isSo 218 = .ok (.iload_n 1, 1) := by decide +kernel
theorem dL_isSo_219 : decode cL_isSo 219 = .ok (.iload 4, 2) := by decide +kernel
theorem dL_isSo_221 : decode cL_isSo 221 = .ok (.iconst 2, 1) := by decide +kernel
theorem dL_isSo_222 : decode cL_isSo 222 = .ok (.iadd, 1) := by decide +kernel
theorem dL_isSo_223 : decode cL_isSo 223 = .ok (.invokestatic 116, 3) := by decide +kernel
theorem dL_isSo_226 : decode cL_isSo 226 = .ok (.istore 10, 2) := by decide +kernel
theorem dL_isSo_228 : decode cL_isSo 228 = .ok (.iconst 0, 1) := by decide +kernel
theorem dL_isSo_229 : decode cL_isSo 229 = .ok (.istore 11, 2) := by decide +kernel
theorem dL_isSo_231 : decode cL_isSo 231 = .ok (.iload 11, 2) := by decide +kernel
theorem dL_isSo_233 : decode cL_isSo 233 = .ok (.iconst 3, 1) := by decide +kernel
theorem dL_isSo_234 : decode cL_isSo 234 = .ok (.if_icmp .ge 71, 3) := by decide +kernel
theorem dL_isSo_237 : decode cL_isSo 237 = .ok (.iload 9, 2) := by decide +kernel
theorem dL_isSo_239 : decode cL_isSo 239 = .ok (.ifCond .eq 57, 3) := by decide +kernel
theorem dL_isSo_242 : decode cL_isSo 242 = .ok (.aload_n 0, 1) := by decide +kernel
theorem dL_isSo_243 : decode cL_isSo 243 = .ok (.iload 11, 2) := by decide +kernel
theorem dL_isSo_245 : decode cL_isSo 245 = .ok (.iload 10, 2) := by decide +kernel
theorem dL_isSo_247 : decode cL_isSo 247 = .ok (.invokestatic 138, 3) := by decide +kernel
theorem dL_isSo_250 : decode cL_isSo 250 = .ok (.iload 11, 2) := by decide +kernel
theorem dL_isSo_252 : decode cL_isSo 252 = .ok (.iload 10, 2) := by decide +kernel
theorem dL_isSo_254 : decode cL_isSo 254 = .ok (.iload 4, 2) := by decide +kernel
theorem dL_isSo_256 : decode cL_isSo 256 = .ok (.aload_n 3, 1) := by decide +kernel
theorem dL_isSo_257 : decode cL_isSo 257 = .ok (.invokestatic 103, 3) := by decide +kernel
theorem dL_isSo_260 : decode cL_isSo 260 = .ok (.if_icmp .ne 36, 3) := by decide +kernel
theorem dL_isSo_263 : decode cL_isSo 263 = .ok (.aload_n 0, 1) := by decide +kernel
theorem dL_isSo_264 : decode cL_isSo 264 = .ok (.iload 11, 2) := by decide +kernel
theorem dL_isSo_266 : decode cL_isSo 266 = .ok (.invokestatic 140, 3) := by decide +kernel
theorem dL_isSo_269 : decode cL_isSo 269 = .ok (.iload 11, 2) := by decide +kernel
theorem dL_isSo_271 : decode cL_isSo 271 = .ok (.iload 4, 2) := by decide +kernel
theorem dL_isSo_273 : decode cL_isSo 273 = .ok (.aload_n 3, 1) := by decide +kernel
theorem dL_isSo_274 : decode cL_isSo 274 = .ok (.invokestatic 135, 3) := by decide +kernel
theorem dL_isSo_277 : decode cL_isSo 277 = .ok (.if_icmp .ne 19, 3) := by decide +kernel
theorem dL_isSo_280 : decode cL_isSo 280 = .ok (.aload_n 0, 1) := by decide +kernel
theorem dL_isSo_281 : decode cL_isSo 281 = .ok (.iload 11, 2) := by decide +kernel
theorem dL_isSo_283 : decode cL_isSo 283 = .ok (.ldc 9, 2) := by decide +kernel
theorem dL_isSo_285 : decode cL_isSo 285 = .ok (.invokestatic 138, 3) := by decide +kernel
theorem dL_isSo_288 : decode cL_isSo 288 = .ok (.iconst 1, 1) := by decide +kernel
theorem dL_isSo_289 : decode cL_isSo 289 = .ok (.if_icmp .ne 7, 3) := by decide +kernel
theorem dL_isSo_292 : decode cL_isSo 292 = .ok (.iconst 1, 1) := by decide +kernel
theorem dL_isSo_293 : decode cL_isSo 293 = .ok (.goto 4, 3) := by decide +kernel
theorem dL_isSo_296 : decode cL_isSo 296 = .ok (.iconst 0, 1) := by decide +kernel
theorem dL_isSo_297 : decode cL_isSo 297 = .ok (.istore 9, 2) := by decide +kernel
theorem dL_isSo_299 : decode cL_isSo 299 = .ok (.iinc 11 1, 3) := by decide +kernel
theorem dL_isSo_302 : decode cL_isSo 302 = .ok (.goto (-71), 3) := by decide +kernel
theorem dL_isSo_305 : decode cL_isSo 305 = .ok (.bipush 32, 2) := by decide +kernel
theorem dL_isSo_307 : decode cL_isSo 307 = .ok (.newarray .int, 2) := by decide +kernel
theorem dL_isSo_309 : decode cL_isSo 309 = .ok (.astore 11, 2) := by decide +kernel
theorem dL_isSo_311 : decode cL_isSo 311 = .ok (.iconst 0, 1) := by decide +kernel
theorem dL_isSo_312 : decode cL_isSo 312 = .ok (.istore 12, 2) := by decide +kernel
theorem dL_isSo_314 : decode cL_isSo 314 = .ok (.iload 12, 2) := by decide +kernel
theorem dL_isSo_316 : decode cL_isSo 316 = .ok (.bipush 32, 2) := by decide +kernel
theorem dL_isSo_318 : decode cL_isSo 318 = .ok (.if_icmp .ge 18, 3) := by decide +kernel
theorem dL_isSo_321 : decode cL_isSo 321 = .ok (.aload 11, 2) := by decide +kernel
theorem dL_isSo_323 : decode cL_isSo 323 = .ok (.iload 12, 2) := by decide +kernel
theorem dL_isSo_325 : decode cL_isSo 325 = .ok (.aload_n 3, 1) := by decide +kernel
theorem dL_isSo_326 : decode cL_isSo 326 = .ok (.iload 12, 2) := by decide +kernel
theorem dL_isSo_328 : decode cL_isSo 328 = .ok (.iaload, 1) := by decide +kernel
theorem dL_isSo_329 : decode cL_isSo 329 = .ok (.iastore, 1) := by decide +kernel
theorem dL_isSo_330 : decode cL_isSo 330 = .ok (.iinc 12 1, 3) := by decide +kernel
theorem dL_isSo_333 : decode cL_isSo 333 = .ok (.goto (-19), 3) := by decide +kernel
theorem dL_isSo_336 : decode cL_isSo 336 = .ok (.iload 4, 2) := by decide +kernel
theorem dL_isSo_338 : decode cL_isSo 338 = .ok (.iload 4, 2) := by decide +kernel
theorem dL_isSo_340 : decode cL_isSo 340 = .ok (.aload 11, 2) := by decide +kernel
theorem dL_isSo_342 : decode cL_isSo 342 = .ok (.invokestatic 110, 3) := by decide +kernel
theorem dL_isSo_345 : decode cL_isSo 345 = .ok (.isub, 1) := by decide +kernel
theorem dL_isSo_346 : decode cL_isSo 346 = .ok (.istore 12, 2) := by decide +kernel
theorem dL_isSo_348 : decode cL_isSo 348 = .ok (.iload 9, 2) := by decide +kernel
theorem dL_isSo_350 : decode cL_isSo 350 = .ok (.ifCond .eq 75, 3) := by decide +kernel
theorem dL_isSo_353 : decode cL_isSo 353 = .ok (.aload_n 0, 1) := by decide +kernel
theorem dL_isSo_354 : decode cL_isSo 354 = .ok (.invokevirtual 142, 3) := by decide +kernel
theorem dL_isSo_357 : decode cL_isSo 357 = .ok (.iload 4, 2) := by decide +kernel
theorem dL_isSo_359 : decode cL_isSo 359 = .ok (.ifCond .ne 7, 3) := by decide +kernel
theorem dL_isSo_362 : decode cL_isSo 362 = .ok (.dconst 0, 1) := by decide +kernel
theorem dL_isSo_363 : decode cL_isSo 363 = .ok (.goto 10, 3) := by decide +kernel
theorem dL_isSo_366 : decode cL_isSo 366 = .ok (.iload 12, 2) := by decide +kernel
theorem dL_isSo_368 : decode cL_isSo 368 = .ok (.i2d, 1) := by decide +kernel
theorem dL_isSo_369 : decode cL_isSo 369 = .ok (.iload 4, 2) := by decide +kernel
theorem dL_isSo_371 : decode cL_isSo 371 = .ok (.i2d, 1) := by decide +kernel
theorem dL_isSo_372 : decode cL_isSo 372 = .ok (.ddiv, 1) := by decide +kernel
theorem dL_isSo_373 : decode cL_isSo 373 = .ok (.dcmp .l, 1) := by decide +kernel
theorem dL_isSo_374 : decode cL_isSo 374 = .ok (.ifCond .ne 51, 3) := by decide +kernel
theorem dL_isSo_377 : decode cL_isSo 377 = .ok (.aload_n 0, 1) := by decide +kernel
theorem dL_isSo_378 : decode cL_isSo 378 = .ok (.iload_n 1, 1) := by decide +kernel
theorem dL_isSo_379 : decode cL_isSo 379 = .ok (.iconst 5, 1) := by decide +kernel
theorem dL_isSo_380 : decode cL_isSo 380 = .ok (.ishr, 1) := by decide +kernel
theorem dL_isSo_381 : decode cL_isSo 381 = .ok (.iload 4, 2) := by decide +kernel
theorem dL_isSo_383 : decode cL_isSo 383 = .ok (.aload_n 3, 1) := by decide +kernel
theorem dL_isSo_384 : decode cL_isSo 384 = .ok (.invokestatic 146, 3) := by decide +kernel
theorem dL_isSo_387 : decode cL_isSo 387 = .ok (.ifCond .eq 38, 3) := by decide +kernel
theorem dL_isSo_390 : decode cL_isSo 390 = .ok (.aload_n 0, 1) := by decide +kernel
theorem dL_isSo_391 : decode cL_isSo 391 = .ok (.iload_n 1, 1) := by decide +kernel
theorem dL_isSo_392 : decode cL_isSo 392 = .ok (.bipush 10, 2) := by decide +kernel
theorem dL_isSo_394 : decode cL_isSo 394 = .ok (.ishr, 1) := by decide +kernel
theorem dL_isSo_395 : decode cL_isSo 395 = .ok (.iconst 4, 1) := by decide +kernel
theorem dL_isSo_396 : decode cL_isSo 396 = .ok (.invokestatic 116, 3) := by decide +kernel
theorem dL_isSo_399 : decode cL_isSo 399 = .ok (.iload 4, 2) := by decide +kernel
theorem dL_isSo_401 : decode cL_isSo 401 = .ok (.aload_n 3, 1) := by decide +kernel
theorem dL_isSo_402 : decode cL_isSo 402 = .ok (.invokestatic 150, 3) := by decide +kernel
theorem dL_isSo_405 : decode cL_isSo 405 = .ok (.ifCond .eq 20, 3) := by decide +kernel
theorem dL_isSo_408 : decode cL_isSo 408 = .ok (.aload_n 0, 1) := by decide +kernel
theorem dL_isSo_409 : decode cL_isSo 409 = .ok (.invokevirtual 153, 3) := by decide +kernel
theorem dL_isSo_412 : decode cL_isSo 412 = .ok (.iload 4, 2) := by decide +kernel
theorem dL_isSo_414 : decode cL_isSo 414 = .ok (.aload_n 3, 1) := by decide +kernel
theorem dL_isSo_415 : decode cL_isSo 415 = .ok (.invokestatic 156, 3) := by decide +kernel
theorem dL_isSo_418 : decode cL_isSo 418 = .ok (.if_icmp .ne 7, 3) := by decide +kernel
theorem dL_isSo_421 : decode cL_isSo 421 = .ok (.iconst 1, 1) := by decide +kernel
theorem dL_isSo_422 : decode cL_isSo 422 = .ok (.goto 4, 3) := by decide +kernel
theorem dL_isSo_425 : decode cL_isSo 425 = .ok (.iconst 0, 1) := by decide +kernel
theorem dL_isSo_426 : decode cL_isSo 426 = .ok (.ireturn, 1) := by decide +kernel
theorem dL_law_0 : decode cL_law 0 = .ok (.new 11, 3) := by decide +kernel
theorem dL_law_3 : decode cL_law 3 = .ok (.dup, 1) := by decide +kernel
theorem dL_law_4 : decode cL_law 4 = .ok (.invokespecial 159, 3) := by decide +kernel
theorem dL_law_7 : decode cL_law 7 = .ok (.astore_n 1, 1) := by decide +kernel
theorem dL_law_8 : decode cL_law 8 = .ok (.iconst 2, 1) := by decide +kernel
theorem dL_law_9 : decode cL_law 9 = .ok (.newarray .int, 2) := by decide +kernel
theorem dL_law_11 : decode cL_law 11 = .ok (.astore_n 2, 1) := by decide +kernel
theorem dL_law_12 : decode cL_law 12 = .ok (.bipush 32, 2) := by decide +kernel
theorem dL_law_14 : decode cL_law 14 = .ok (.newarray .int, 2) := by decide +kernel
theorem dL_law_16 : decode cL_law 16 = .ok (.astore_n 3, 1) := by decide +kernel
theorem dL_law_17 : decode cL_law 17 = .ok (.iconst 3, 1) := by decide +kernel
theorem dL_law_18 : decode cL_law 18 = .ok (.aload_n 0, 1) := by decide +kernel
theorem dL_law_19 : decode cL_law 19 = .ok (.iconst 0, 1) := by decide +kernel
theorem dL_law_20 : decode cL_law 20 = .ok (.invokestatic 160, 3) := by decide +kernel
theorem dL_law_23 : decode cL_law 23 = .ok (.bipush 20, 2) := by decide +kernel
theorem dL_law_25 : decode cL_law 25 = .ok (.invokestatic 116, 3) := by decide +kernel
theorem dL_law_28 : decode cL_law 28 = .ok (.iadd, 1) := by decide +kernel
theorem dL_law_29 : decode cL_law 29 = .ok (.istore 4, 2) := by decide +kernel
theorem dL_law_31 : decode cL_law 31 = .ok (.iconst 0, 1) := by decide +kernel
theorem dL_law_32 : decode cL_law 32 = .ok (.istore 5, 2) := by decide +kernel
theorem dL_law_34 : decode cL_law 34 = .ok (.iload 5, 2) := by decide +kernel
theorem dL_law_36 : decode cL_law 36 = .ok (.bipush 46, 2) := by decide +kernel
theorem dL_law_38 : decode cL_law 38 = .ok (.if_icmp .ge 402, 3) := by decide +kernel
theorem dL_law_41 : decode cL_law 41 = .ok (.aload_n 0, 1) := by decide +kernel
theorem dL_law_42 : decode cL_law 42 = .ok (.iconst 1, 1) := by decide +kernel
theorem dL_law_43 : decode cL_law 43 = .ok (.iload 5, 2) := by decide +kernel
theorem dL_law_45 : decode cL_law 45 = .ok (.iadd, 1) := by decide +kernel
theorem dL_law_46 : decode cL_law 46 = .ok (.invokestatic 160, 3) := by decide +kernel
theorem dL_law_49 : decode cL_law 49 = .ok (.istore 6, 2) := by decide +kernel
theorem dL_law_51 : decode cL_law 51 = .ok (.iload 5, 2) := by decide +kernel
theorem dL_law_53 : decode cL_law 53 = .ok (.iload 4, 2) := by decide +kernel
theorem dL_law_55 : decode cL_law 55 = .ok (.if_icmp .ge 7, 3) := by decide +kernel
theorem dL_law_58 : decode cL_law 58 = .ok (.iconst 0, 1) := by decide +kernel
theorem dL_law_59 : decode cL_law 59 = .ok (.goto 13, 3) := by decide +kernel
theorem dL_law_62 : decode cL_law 62 = .ok (.iload 6, 2) := by decide +kernel
theorem dL_law_64 : decode cL_law 64 = .ok (.bipush 13, 2) := by decide +kernel
theorem dL_law_66 : decode cL_law 66 = .ok (.ishr, 1) := by decide +kernel
theorem dL_law_67 : decode cL_law 67 = .ok (.bipush 12, 2) := by decide +kernel
theorem dL_law_69 : decode cL_law 69 = .ok (.invokestatic 116, 3) := by decide +kernel
theorem dL_law_72 : decode cL_law 72 = .ok (.istore 7, 2) := by decide +kernel
theorem dL_law_74 : decode cL_law 74 = .ok (.iload 7, 2) := by decide +kernel
theorem dL_law_76 : decode cL_law 76 = .ok (.iconst 3, 1) := by decide +kernel
theorem dL_law_77 : decode cL_law 77 = .ok (.if_icmp .ge 7, 3) := by decide +kernel
theorem dL_law_80 : decode cL_law 80 = .ok (.iconst 0, 1) := by decide +kernel
theorem dL_law_81 : decode cL_law 81 = .ok (.goto 71, 3) := by decide +kernel
theorem dL_law_84 : decode cL_law 84 = .ok (.iload 7, 2) := by decide +kernel
theorem dL_law_86 : decode cL_law 86 = .ok (.iconst 3, 1) := by decide +kernel
theorem dL_law_87 : decode cL_law 87 = .ok (.if_icmp .ne 7, 3) := by decide +kernel
theorem dL_law_90 : decode cL_law 90 = .ok (.iconst 1, 1) := by decide +kernel
theorem dL_law_91 : decode cL_law 91 = .ok (.goto 61, 3) := by decide +kernel
theorem dL_law_94 : decode cL_law 94 = .ok (.iload 7, 2) := by decide +kernel
theorem dL_law_96 : decode cL_law 96 = .ok (.bipush 8, 2) := by decide +kernel
theorem dL_law_98 : decode cL_law 98 = .ok (.if_icmp .ge 7, 3) := by decide +kernel
theorem dL_law_101 : decode cL_law 101 = .ok (.iconst 2, 1) := by decide +kernel
theorem dL_law_102 : decode cL_law 102 = .ok (.goto 50, 3) := by decide +kernel
theorem dL_law_105 : decode cL_law 105 = .ok (.iload 7, 2) := by decide +kernel
theorem dL_law_107 : decode cL_law 107 = .ok (.bipush 8, 2) := by decide +kernel
theorem dL_law_109 : decode cL_law 109 = .ok (.if_icmp .ne 7, 3) := by decide +kernel
theorem dL_law_112 : decode cL_law 112 = .ok (.iconst 3, 1) := by decide +kernel
theorem dL_law_113 : decode cL_law 113 = .ok (.goto 39, 3) := by decide +kernel
theorem dL_law_116 : decode cL_law 116 = .ok (.iload 7, 2) := by decide +kernel
theorem dL_law_118 : decode cL_law 118 = .ok (.bipush 9, 2) := by decide +kernel
theorem dL_law_120 : decode cL_law 120 = .ok (.if_icmp .ne 19, 3) := by decide +kernel
theorem dL_law_123 : decode cL_law 123 = .ok (.iload 5, 2) := by decide +kernel
theorem dL_law_125 : decode cL_law 125 = .ok (.iconst 4, 1) := by decide +kernel
theorem dL_law_126 : decode cL_law 126 = .ok (.irem, 1) := by decide +kernel
theorem dL_law_127 : decode cL_law 127 = .ok (.ifCond .ne 7, 3) := by decide +kernel
theorem dL_law_130 : decode cL_law 130 = .ok (.iconst 4, 1) := by decide +kernel
theorem dL_law_131 : decode cL_law 131 = .ok (.goto 21, 3) := by decide +kernel
theorem dL_law_134 : decode cL_law 134 = .ok (.bipush 6, 2) := by decide +kernel
theorem dL_law_136 : decode cL_law 136 = .ok (.goto 16, 3) := by decide +kernel
theorem dL_law_139 : decode cL_law 139 = .ok (.iload 7, 2) := by decide +kernel
theorem dL_law_141 : decode cL_law 141 = .ok (.bipush 10, 2) := by decide +kernel
theorem dL_law_143 : decode cL_law 143 = .ok (.if_icmp .ne 7, 3) := by decide +kernel
theorem dL_law_146 : decode cL_law 146 = .ok (.iconst 5, 1) := by decide +kernel
theorem dL_law_147 : decode cL_law 147 = .ok (.goto 5, 3) := by decide +kernel
theorem dL_law_150 : decode cL_law 150 = .ok (.bipush 6, 2) := by decide +kernel
theorem dL_law_152 : decode cL_law 152 = .ok (.istore 7, 2) := by decide +kernel
theorem dL_law_154 : decode cL_law 154 = .ok (.iload 7, 2) := by decide +kernel
theorem dL_law_156 : decode cL_law 156 = .ok (.iconst 2, 1) := by decide +kernel
theorem dL_law_157 : decode cL_law 157 = .ok (.if_icmp .ne 15, 3) := by decide +kernel
theorem dL_law_160 : decode cL_law 160 = .ok (.iload 6, 2) := by decide +kernel
theorem dL_law_162 : decode cL_law 162 = .ok (.bipush 17, 2) := by decide +kernel
theorem dL_law_164 : decode cL_law 164 = .ok (.ishr, 1) := by decide +kernel
theorem dL_law_165 : decode cL_law 165 = .ok (.iconst 3, 1) := by decide +kernel
theorem dL_law_166 : decode cL_law 166 = .ok (.invokestatic 116, 3) := by decide +kernel
theorem dL_law_169 : decode cL_law 169 = .ok (.goto 11, 3) := by decide +kernel
theorem dL_law_172 : decode cL_law 172 = .ok (.iconst 1, 1) := by decide +kernel
theorem dL_law_173 : decode cL_law 173 = .ok (.iload 6, 2) := by decide +kernel
theorem dL_law_175 : decode cL_law 175 = .ok (.iconst 3, 1) := by decide +kernel
theorem dL_law_176 : decode cL_law 176 = .ok (.invokestatic 116, 3) := by decide +kernel
theorem dL_law_179 : decode cL_law 179 = .ok (.iadd, 1) := by decide +kernel
theorem dL_law_180 : decode cL_law 180 = .ok (.istore 8, 2) := by decide +kernel
theorem dL_law_182 : decode cL_law 182 = .ok (.iload 7, 2) := by decide +kernel
theorem dL_law_184 : decode cL_law 184 = .ok (.iconst 2, 1) := by decide +kernel
theorem dL_law_185 : decode cL_law 185 = .ok (.if_icmp .eq 20, 3) := by decide +kernel
theorem dL_law_188 : decode cL_law 188 = .ok (.iload 6, 2) := by decide +kernel
theorem dL_law_190 : decode cL_law 190 = .ok (.iconst 2, 1) := by decide +kernel
theorem dL_law_191 : decode cL_law 191 = .ok (.ishr, 1) := by decide +kernel
theorem dL_law_192 : decode cL_law 192 = .ok (.iconst 2, 1) := by decide +kernel
theorem dL_law_193 : decode cL_law 193 = .ok (.invokestatic 116, 3) := by decide +kernel
theorem dL_law_196 : decode cL_law 196 = .ok (.ifCond .ne 9, 3) := by decide +kernel
theorem dL_law_199 : decode cL_law 199 = .ok (.iload 8, 2) := by decide +kernel
theorem dL_law_201 : decode cL_law 201 = .ok (.ineg, 1) := by decide +kernel
theorem dL_law_202 : decode cL_law 202 = .ok (.goto 5, 3) := by decide +kernel
theorem dL_law_205 : decode cL_law 205 = .ok (.iload 8, 2) := by decide +kernel
theorem dL_law_207 : decode cL_law 207 = .ok (.istore 8, 2) := by decide +kernel
theorem dL_law_209 : decode cL_law 209 = .ok (.iload 7, 2) := by decide +kernel
theorem dL_law_211 : decode cL_law 211 = .ok (.iconst 3, 1) := by decide +kernel
theorem dL_law_212 : decode cL_law 212 = .ok (.if_icmp .ne 18, 3) := by decide +kernel
theorem dL_law_215 : decode cL_law 215 = .ok (.iload 6, 2) := by decide +kernel
theorem dL_law_217 : decode cL_law 217 = .ok (.iconst 4, 1) := by decide +kernel
theorem dL_law_218 : decode cL_law 218 = .ok (.ishr, 1) := by decide +kernel
theorem dL_law_219 : decode cL_law 219 = .ok (.aload_n 2, 1) := by decide +kernel
theorem dL_law_220 : decode cL_law 220 = .ok (.iconst 0, 1) := by decide +kernel
theorem dL_law_221 : decode cL_law 221 = .ok (.iaload, 1) := by decide +kernel
theorem dL_law_222 : decode cL_law 222 = .ok (.iconst 1, 1) := by decide +kernel
theorem dL_law_223 : decode cL_law 223 = .ok (.iadd, 1) := by decide +kernel
theorem dL_law_224 : decode cL_law 224 = .ok (.invokestatic 116, 3) := by decide +kernel
theorem dL_law_227 : decode cL_law 227 = .ok (.goto 15, 3) := by decide +kernel
theorem dL_law_230 : decode cL_law 230 = .ok (.iload 6, 2) := by decide +kernel
theorem dL_law_232 : decode cL_law 232 = .ok (.iconst 4, 1) := by decide +kernel
theorem dL_law_233 : decode cL_law 233 = .ok (.ishr, 1) := by decide +kernel
theorem dL_law_234 : decode cL_law 234 = .ok (.aload_n 2, 1) := by decide +kernel
theorem dL_law_235 : decode cL_law 235 = .ok (.iconst 0, 1) := by decide +kernel
theorem dL_law_236 : decode cL_law 236 = .ok (.iaload, 1) := by decide +kernel
theorem dL_law_237 : decode cL_law 237 = .ok (.iconst 2, 1) := by decide +kernel
theorem dL_law_238 : decode cL_law 238 = .ok (.iadd, 1) := by decide +kernel
theorem dL_law_239 : decode cL_law 239 = .ok (.invokestatic 116, 3) := by decide +kernel
theorem dL_law_242 : decode cL_law 242 = .ok (.istore 9, 2) := by decide +kernel
theorem dL_law_244 : decode cL_law 244 = .ok (.iconst 0, 1) := by decide +kernel
theorem dL_law_245 : decode cL_law 245 = .ok (.istore 10, 2) := by decide +kernel
theorem dL_law_247 : decode cL_law 247 = .ok (.iload 7, 2) := by decide +kernel
theorem dL_law_249 : decode cL_law 249 = .ok (.iconst 2, 1) := by decide +kernel
theorem dL_law_250 : decode cL_law 250 = .ok (.if_icmp .ne 55, 3) := by decide +kernel
theorem dL_law_253 : decode cL_law 253 = .ok (.iload 10, 2) := by decide +kernel
theorem dL_law_255 : decode cL_law 255 = .ok (.aload_n 2, 1) := by decide +kernel
theorem dL_law_256 : decode cL_law 256 = .ok (.iconst 0, 1) := by decide +kernel
theorem dL_law_257 : decode cL_law 257 = .ok (.iaload, 1) := by decide +kernel
theorem dL_law_258 : decode cL_law 258 = .ok (.if_icmp .ge 47, 3) := by decide +kernel
theorem dL_law_261 : decode cL_law 261 = .ok (.iload 8, 2) := by decide +kernel
theorem dL_law_263 : decode cL_law 263 = .ok (.iload 9, 2) := by decide +kernel
theorem dL_law_265 : decode cL_law 265 = .ok (.aload_n 2, 1) := by decide +kernel
theorem dL_law_266 : decode cL_law 266 = .ok (.iconst 0, 1) := by decide +kernel
theorem dL_law_267 : decode cL_law 267 = .ok (.iaload, 1) := by decide +kernel
theorem dL_law_268 : decode cL_law 268 = .ok (.aload_n 3, 1) := by decide +kernel
theorem dL_law_269 : decode cL_law 269 = .ok (.invokestatic 103, 3) := by decide +kernel
theorem dL_law_272 : decode cL_law 272 = .ok (.ifCond .eq 33, 3) := by decide +kernel
theorem dL_law_275 : decode cL_law 275 = .ok (.iload 6, 2) := by decide +kernel
theorem dL_law_277 : decode cL_law 277 = .ok (.bipush 20, 2) := by decide +kernel
theorem dL_law_279 : decode cL_law 279 = .ok (.ishr, 1) := by decide +kernel
theorem dL_law_280 : decode cL_law 280 = .ok (.iconst 4, 1) := by decide +kernel
theorem dL_law_281 : decode cL_law 281 = .ok (.invokestatic 116, 3) := by decide +kernel
theorem dL_law_284 : decode cL_law 284 = .ok (.ifCond .le 21, 3) := by decide +kernel
theorem dL_law_287 : decode cL_law 287 = .ok (.iload 9, 2) := by decide +kernel
theorem dL_law_289 : decode cL_law 289 = .ok (.iconst 1, 1) := by decide +kernel
theorem dL_law_290 : decode cL_law 290 = .ok (.iadd, 1) := by decide +kernel
theorem dL_law_291 : decode cL_law 291 = .ok (.aload_n 2, 1) := by decide +kernel
theorem dL_law_292 : decode cL_law 292 = .ok (.iconst 0, 1) := by decide +kernel
theorem dL_law_293 : decode cL_law 293 = .ok (.iaload, 1) := by decide +kernel
theorem dL_law_294 : decode cL_law 294 = .ok (.iconst 1, 1) := by decide +kernel
theorem dL_law_295 : decode cL_law 295 = .ok (.iadd, 1) := by decide +kernel
theorem dL_law_296 : decode cL_law 296 = .ok (.irem, 1) := by decide +kernel
theorem dL_law_297 : decode cL_law 297 = .ok (.istore 9, 2) := by decide +kernel
theorem dL_law_299 : decode cL_law 299 = .ok (.iinc 10 1, 3) := by decide +kernel
theorem dL_law_302 : decode cL_law 302 = .ok (.goto (-55), 3) := by decide +kernel
theorem dL_law_305 : decode cL_law 305 = .ok (.aload_n 1, 1) := by decide +kernel
theorem dL_law_306 : decode cL_law 306 = .ok (.invokestatic 164, 3) := by decide +kernel
theorem dL_law_309 : decode cL_law 309 = .ok (.lstore 10, 2) := by decide +kernel
theorem dL_law_311 : decode cL_law 311 = .ok (.aload_n 1, 1) := by decide +kernel
theorem dL_law_312 : decode cL_law 312 = .ok (.iload 7, 2) := by decide +kernel
theorem dL_law_314 : decode cL_law 314 = .ok (.iload 8, 2) := by decide +kernel
theorem dL_law_316 : decode cL_law 316 = .ok (.iload 9, 2) := by decide +kernel
theorem dL_law_318 : decode cL_law 318 = .ok (.invokestatic 168, 3) := by decide +kernel
theorem dL_law_321 : decode cL_law 321 = .ok (.istore 12, 2) := by decide +kernel
theorem dL_law_323 : decode cL_law 323 = .ok (.iload 12, 2) := by decide +kernel
theorem dL_law_325 : decode cL_law 325 = .ok (.bipush (-100), 2) := by decide +kernel
theorem dL_law_327 : decode cL_law 327 = .ok (.if_icmp .ge 16, 3) := by decide +kernel
theorem dL_law_330 : decode cL_law 330 = .ok (.aload_n 1, 1) := by decide +kernel
theorem dL_law_331 : decode cL_law 331 = .ok (.invokestatic 164, 3) := by decide +kernel
theorem dL_law_334 : decode cL_law 334 = .ok (.lload 10, 2) := by decide +kernel
theorem dL_law_336 : decode cL_law 336 = .ok (.lcmp, 1) := by decide +kernel
theorem dL_law_337 : decode cL_law 337 = .ok (.ifCond .eq 50, 3) := by decide +kernel
theorem dL_law_340 : decode cL_law 340 = .ok (.goto 45, 3) := by decide +kernel
theorem dL_law_343 : decode cL_law 343 = .ok (.iload 6, 2) := by decide +kernel
theorem dL_law_345 : decode cL_law 345 = .ok (.bipush 24, 2) := by decide +kernel
theorem dL_law_347 : decode cL_law 347 = .ok (.ishr, 1) := by decide +kernel
theorem dL_law_348 : decode cL_law 348 = .ok (.iconst 3, 1) := by decide +kernel
theorem dL_law_349 : decode cL_law 349 = .ok (.iand, 1) := by decide +kernel
theorem dL_law_350 : decode cL_law 350 = .ok (.ifCond .ne 37, 3) := by decide +kernel
theorem dL_law_353 : decode cL_law 353 = .ok (.aload_n 1, 1) := by decide +kernel
theorem dL_law_354 : decode cL_law 354 = .ok (.invokestatic 172, 3) := by decide +kernel
theorem dL_law_357 : decode cL_law 357 = .ok (.ifCond .lt 28, 3) := by decide +kernel
theorem dL_law_360 : decode cL_law 360 = .ok (.aload_n 1, 1) := by decide +kernel
theorem dL_law_361 : decode cL_law 361 = .ok (.invokestatic 164, 3) := by decide +kernel
theorem dL_law_364 : decode cL_law 364 = .ok (.lload 10, 2) := by decide +kernel
theorem dL_law_366 : decode cL_law 366 = .ok (.lcmp, 1) := by decide +kernel
theorem dL_law_367 : decode cL_law 367 = .ok (.ifCond .ne 18, 3) := by decide +kernel
theorem dL_law_370 : decode cL_law 370 = .ok (.aload_n 1, 1) := by decide +kernel
theorem dL_law_371 : decode cL_law 371 = .ok (.iload 7, 2) := by decide +kernel
theorem dL_law_373 : decode cL_law 373 = .ok (.iload 8, 2) := by decide +kernel
theorem dL_law_375 : decode cL_law 375 = .ok (.iload 9, 2) := by decide +kernel
theorem dL_law_377 : decode cL_law 377 = .ok (.invokestatic 168, 3) := by decide +kernel
theorem dL_law_380 : decode cL_law 380 = .ok (.iload 12, 2) := by decide +kernel
theorem dL_law_382 : decode cL_law 382 = .ok (.if_icmp .eq 5, 3) := by decide +kernel
theorem dL_law_385 : decode cL_law 385 = .ok (.iconst 0, 1) := by decide +kernel
theorem dL_law_386 : decode cL_law 386 = .ok (.ireturn, 1) := by decide +kernel
theorem dL_law_387 : decode cL_law 387 = .ok (.iload 12, 2) := by decide +kernel
theorem dL_law_389 : decode cL_law 389 = .ok (.iload 7, 2) := by decide +kernel
theorem dL_law_391 : decode cL_law 391 = .ok (.iload 8, 2) := by decide +kernel
theorem dL_law_393 : decode cL_law 393 = .ok (.iload 9, 2) := by decide +kernel
theorem dL_law_395 : decode cL_law 395 = .ok (.aload_n 2, 1) := by decide +kernel
theorem dL_law_396 : decode cL_law 396 = .ok (.aload_n 3, 1) := by decide +kernel
theorem dL_law_397 : decode cL_law 397 = .ok (.invokestatic 174, 3) := by decide +kernel
theorem dL_law_400 : decode cL_law 400 = .ok (.if_icmp .ne 32, 3) := by decide +kernel
theorem dL_law_403 : decode cL_law 403 = .ok (.iload 5, 2) := by decide +kernel
theorem dL_law_405 : decode cL_law 405 = .ok (.iload 4, 2) := by decide +kernel
theorem dL_law_407 : decode cL_law 407 = .ok (.if_icmp .ge 11, 3) := by decide +kernel
theorem dL_law_410 : decode cL_law 410 = .ok (.iload 5, 2) := by decide +kernel
theorem dL_law_412 : decode cL_law 412 = .ok (.iconst 4, 1) := by decide +kernel
theorem dL_law_413 : decode cL_law 413 = .ok (.irem, 1) := by decide +kernel
theorem dL_law_414 : decode cL_law 414 = .ok (.iconst 3, 1) := by decide +kernel
theorem dL_law_415 : decode cL_law 415 = .ok (.if_icmp .ne 19, 3) := by decide +kernel
theorem dL_law_418 : decode cL_law 418 = .ok (.aload_n 1, 1) := by decide +kernel
theorem dL_law_419 : decode cL_law 419 = .ok (.iload 6, 2) := by decide +kernel
theorem dL_law_421 : decode cL_law 421 = .ok (.bipush 6, 2) := by decide +kernel
theorem dL_law_423 : decode cL_law 423 = .ok (.ishr, 1) := by decide +kernel
theorem dL_law_424 : decode cL_law 424 = .ok (.aload_n 2, 1) := by decide +kernel
theorem dL_law_425 : decode cL_law 425 = .ok (.aload_n 3, 1) := by decide +kernel
theorem dL_law_426 : decode cL_law 426 = .ok (.invokestatic 178, 3) := by decide +kernel
theorem dL_law_429 : decode cL_law 429 = .ok (.ifCond .ne 5, 3) := by decide +kernel
theorem dL_law_432 : decode cL_law 432 = .ok (.iconst 0, 1) := by decide +kernel
theorem dL_law_433 : decode cL_law 433 = .ok (.ireturn, 1) := by decide +kernel
theorem dL_law_434 : decode cL_law 434 = .ok (.iinc 5 1, 3) := by decide +kernel
theorem dL_law_437 : decode cL_law 437 = .ok (.goto (-403), 3) := by decide +kernel
theorem dL_law_440 : decode cL_law 440 = .ok (.iconst 1, 1) := by decide +kernel
theorem dL_law_441 : decode cL_law 441 = .ok (.ireturn, 1) := by decide +kernel
