theorem dX0_init_0 : decode cX0_init 0 = .ok (.aload_n 0, 1) := by decide +kernel
theorem dX0_init_1 : decode cX0_init 1 = .ok (.invokespecial 3, 3) := by decide +kernel
theorem dX0_init_4 : decode cX0_init 4 = .ok (.aload_n 0, 1) := by decide +kernel
theorem dX0_init_5 : decode cX0_init 5 = .ok (.iconst 4, 1) := by decide +kernel
theorem dX0_init_6 : decode cX0_init 6 = .ok (.newarray .int, 2) := by decide +kernel
theorem dX0_init_8 : decode cX0_init 8 = .ok (.putfield 9, 3) := by decide +kernel
theorem dX0_init_11 : decode cX0_init 11 = .ok (.aload_n 0, 1) := by decide +kernel
theorem dX0_init_12 : decode cX0_init 12 = .ok (.iconst (-1), 1) := by decide +kernel
theorem dX0_init_13 : decode cX0_init 13 = .ok (.putfield 15, 3) := by decide +kernel
theorem dX0_init_16 : decode cX0_init 16 = .ok (.aload_n 0, 1) := by decide +kernel
theorem dX0_init_17 : decode cX0_init 17 = .ok (.iconst (-1), 1) := by decide +kernel
theorem dX0_init_18 : decode cX0_init 18 = .ok (.putfield 19, 3) := by decide +kernel
theorem dX0_init_21 : decode cX0_init 21 = .ok (.return_, 1) := by decide +kernel
theorem dX0_findIn_0 : decode cX0_findIn 0 = .ok (.aload_n 0, 1) := by decide +kernel
theorem dX0_findIn_1 : decode cX0_findIn 1 = .ok (.invokevirtual 22, 3) := by decide +kernel
theorem dX0_findIn_4 : decode cX0_findIn 4 = .ok (.iconst 0, 1) := by decide +kernel
theorem dX0_findIn_5 : decode cX0_findIn 5 = .ok (.istore_n 2, 1) := by decide +kernel
theorem dX0_findIn_6 : decode cX0_findIn 6 = .ok (.iload_n 2, 1) := by decide +kernel
theorem dX0_findIn_7 : decode cX0_findIn 7 = .ok (.aload_n 1, 1) := by decide +kernel
theorem dX0_findIn_8 : decode cX0_findIn 8 = .ok (.getfield 25, 3) := by decide +kernel
theorem dX0_findIn_11 : decode cX0_findIn 11 = .ok (.if_icmp .ge 97, 3) := by decide +kernel
theorem dX0_findIn_14 : decode cX0_findIn 14 = .ok (.aload_n 1, 1) := by decide +kernel
theorem dX0_findIn_15 : decode cX0_findIn 15 = .ok (.iload_n 2, 1) := by decide +kernel
theorem dX0_findIn_16 : decode cX0_findIn 16 = .ok (.invokevirtual 30, 3) := by decide +kernel
theorem dX0_findIn_19 : decode cX0_findIn 19 = .ok (.istore_n 3, 1) := by decide +kernel
theorem dX0_findIn_20 : decode cX0_findIn 20 = .ok (.iload_n 3, 1) := by decide +kernel
theorem dX0_findIn_21 : decode cX0_findIn 21 = .ok (.invokestatic 34, 3) := by decide +kernel
theorem dX0_findIn_24 : decode cX0_findIn 24 = .ok (.istore 4, 2) := by decide +kernel
theorem dX0_findIn_26 : decode cX0_findIn 26 = .ok (.iload 4, 2) := by decide +kernel
theorem dX0_findIn_28 : decode cX0_findIn 28 = .ok (.iconst 1, 1) := by decide +kernel
theorem dX0_findIn_29 : decode cX0_findIn 29 = .ok (.if_icmp .lt 73, 3) := by decide +kernel
theorem dX0_findIn_32 : decode cX0_findIn 32 = .ok (.iload 4, 2) := by decide +kernel
theorem dX0_findIn_34 : decode cX0_findIn 34 = .ok (.iconst 3, 1) := by decide +kernel
theorem dX0_findIn_35 : decode cX0_findIn 35 = .ok (.if_icmp .le 6, 3) := by decide +kernel
theorem dX0_findIn_38 : decode cX0_findIn 38 = .ok (.goto 64, 3) := by decide +kernel
theorem dX0_findIn_41 : decode cX0_findIn 41 = .ok (.aload_n 0, 1) := by decide +kernel
theorem dX0_findIn_42 : decode cX0_findIn 42 = .ok (.getfield 9, 3) := by decide +kernel
theorem dX0_findIn_45 : decode cX0_findIn 45 = .ok (.iload 4, 2) := by decide +kernel
theorem dX0_findIn_47 : decode cX0_findIn 47 = .ok (.iaload, 1) := by decide +kernel
theorem dX0_findIn_48 : decode cX0_findIn 48 = .ok (.istore 5, 2) := by decide +kernel
theorem dX0_findIn_50 : decode cX0_findIn 50 = .ok (.iload 5, 2) := by decide +kernel
theorem dX0_findIn_52 : decode cX0_findIn 52 = .ok (.iconst (-1), 1) := by decide +kernel
theorem dX0_findIn_53 : decode cX0_findIn 53 = .ok (.if_icmp .eq 41, 3) := by decide +kernel
theorem dX0_findIn_56 : decode cX0_findIn 56 = .ok (.aload_n 1, 1) := by decide +kernel
theorem dX0_findIn_57 : decode cX0_findIn 57 = .ok (.iload 5, 2) := by decide +kernel
theorem dX0_findIn_59 : decode cX0_findIn 59 = .ok (.invokevirtual 30, 3) := by decide +kernel
theorem dX0_findIn_62 : decode cX0_findIn 62 = .ok (.iload_n 3, 1) := by decide +kernel
theorem dX0_findIn_63 : decode cX0_findIn 63 = .ok (.ineg, 1) := by decide +kernel
theorem dX0_findIn_64 : decode cX0_findIn 64 = .ok (.if_icmp .ne 30, 3) := by decide +kernel
theorem dX0_findIn_67 : decode cX0_findIn 67 = .ok (.aload_n 0, 1) := by decide +kernel
theorem dX0_findIn_68 : decode cX0_findIn 68 = .ok (.getfield 9, 3) := by decide +kernel
theorem dX0_findIn_71 : decode cX0_findIn 71 = .ok (.iload 4, 2) := by decide +kernel
theorem dX0_findIn_73 : decode cX0_findIn 73 = .ok (.iconst 1, 1) := by decide +kernel
theorem dX0_findIn_74 : decode cX0_findIn 74 = .ok (.isub, 1) := by decide +kernel
theorem dX0_findIn_75 : decode cX0_findIn 75 = .ok (.iaload, 1) := by decide +kernel
theorem dX0_findIn_76 : decode cX0_findIn 76 = .ok (.iload 5, 2) := by decide +kernel
theorem dX0_findIn_78 : decode cX0_findIn 78 = .ok (.if_icmp .ge 16, 3) := by decide +kernel
theorem dX0_findIn_81 : decode cX0_findIn 81 = .ok (.aload_n 0, 1) := by decide +kernel
theorem dX0_findIn_82 : decode cX0_findIn 82 = .ok (.iload 5, 2) := by decide +kernel
theorem dX0_findIn_84 : decode cX0_findIn 84 = .ok (.putfield 15, 3) := by decide +kernel
theorem dX0_findIn_87 : decode cX0_findIn 87 = .ok (.aload_n 0, 1) := by decide +kernel
theorem dX0_findIn_88 : decode cX0_findIn 88 = .ok (.iload_n 2, 1) := by decide +kernel
theorem dX0_findIn_89 : decode cX0_findIn 89 = .ok (.putfield 19, 3) := by decide +kernel
theorem dX0_findIn_92 : decode cX0_findIn 92 = .ok (.iconst 1, 1) := by decide +kernel
theorem dX0_findIn_93 : decode cX0_findIn 93 = .ok (.ireturn, 1) := by decide +kernel
theorem dX0_findIn_94 : decode cX0_findIn 94 = .ok (.aload_n 0, 1) := by decide +kernel
theorem dX0_findIn_95 : decode cX0_findIn 95 = .ok (.getfield 9, 3) := by decide +kernel
theorem dX0_findIn_98 : decode cX0_findIn 98 = .ok (.iload 4, 2) := by decide +kernel
theorem dX0_findIn_100 : decode cX0_findIn 100 = .ok (.iload_n 2, 1) := by decide +kernel
theorem dX0_findIn_101 : decode cX0_findIn 101 = .ok (.iastore, 1) := by decide +kernel
theorem dX0_findIn_102 : decode cX0_findIn 102 = .ok (.iinc 2 1, 3) := by decide +kernel
theorem dX0_findIn_105 : decode cX0_findIn 105 = .ok (.goto (-99), 3) := by decide +kernel
theorem dX0_findIn_108 : decode cX0_findIn 108 = .ok (.iconst 0, 1) := by decide +kernel
theorem dX0_findIn_109 : decode cX0_findIn 109 = .ok (.ireturn, 1) := by decide +kernel
theorem dX0_forget_0 : decode cX0_forget 0 = .ok (.aload_n 0, 1) := by decide +kernel
theorem dX0_forget_1 : decode cX0_forget 1 = .ok (.iconst (-1), 1) := by decide +kernel
theorem dX0_forget_2 : decode cX0_forget 2 = .ok (.putfield 15, 3) := by decide +kernel
theorem dX0_forget_5 : decode cX0_forget 5 = .ok (.aload_n 0, 1) := by decide +kernel
theorem dX0_forget_6 : decode cX0_forget 6 = .ok (.iconst (-1), 1) := by decide +kernel
theorem dX0_forget_7 : decode cX0_forget 7 = .ok (.putfield 19, 3) := by decide +kernel
theorem dX0_forget_10 : decode cX0_forget 10 = .ok (.iconst 0, 1) := by decide +kernel
theorem dX0_forget_11 : decode cX0_forget 11 = .ok (.istore_n 1, 1) := by decide +kernel
theorem dX0_forget_12 : decode cX0_forget 12 = .ok (.iload_n 1, 1) := by decide +kernel
theorem dX0_forget_13 : decode cX0_forget 13 = .ok (.iconst 3, 1) := by decide +kernel
theorem dX0_forget_14 : decode cX0_forget 14 = .ok (.if_icmp .gt 16, 3) := by decide +kernel
theorem dX0_forget_17 : decode cX0_forget 17 = .ok (.aload_n 0, 1) := by decide +kernel
theorem dX0_forget_18 : decode cX0_forget 18 = .ok (.getfield 9, 3) := by decide +kernel
theorem dX0_forget_21 : decode cX0_forget 21 = .ok (.iload_n 1, 1) := by decide +kernel
theorem dX0_forget_22 : decode cX0_forget 22 = .ok (.iconst (-1), 1) := by decide +kernel
theorem dX0_forget_23 : decode cX0_forget 23 = .ok (.iastore, 1) := by decide +kernel
theorem dX0_forget_24 : decode cX0_forget 24 = .ok (.iinc 1 1, 3) := by decide +kernel
theorem dX0_forget_27 : decode cX0_forget 27 = .ok (.goto (-15), 3) := by decide +kernel
theorem dX0_forget_30 : decode cX0_forget 30 = .ok (.return_, 1) := by decide +kernel
theorem dX0_lengthWithout_0 : decode cX0_lengthWithout 0 = .ok (.aload_n 1, 1) := by decide +kernel
theorem dX0_lengthWithout_1 : decode cX0_lengthWithout 1 = .ok (.aload_n 0, 1) := by decide +kernel
theorem dX0_lengthWithout_2 : decode cX0_lengthWithout 2 = .ok (.getfield 15, 3) := by decide +kernel
theorem dX0_lengthWithout_5 : decode cX0_lengthWithout 5 = .ok (.invokevirtual 30, 3) := by decide +kernel
theorem dX0_lengthWithout_8 : decode cX0_lengthWithout 8 = .ok (.invokestatic 34, 3) := by decide +kernel
theorem dX0_lengthWithout_11 : decode cX0_lengthWithout 11 = .ok (.iconst 1, 1) := by decide +kernel
theorem dX0_lengthWithout_12 : decode cX0_lengthWithout 12 = .ok (.iadd, 1) := by decide +kernel
theorem dX0_lengthWithout_13 : decode cX0_lengthWithout 13 = .ok (.istore_n 2, 1) := by decide +kernel
theorem dX0_lengthWithout_14 : decode cX0_lengthWithout 14 = .ok (.aload_n 1, 1) := by decide +kernel
theorem dX0_lengthWithout_15 : decode cX0_lengthWithout 15 = .ok (.getfield 25, 3) := by decide +kernel
theorem dX0_lengthWithout_18 : decode cX0_lengthWithout 18 = .ok (.iconst 2, 1) := by decide +kernel
theorem dX0_lengthWithout_19 : decode cX0_lengthWithout 19 = .ok (.isub, 1) := by decide +kernel
theorem dX0_lengthWithout_20 : decode cX0_lengthWithout 20 = .ok (.istore_n 3, 1) := by decide +kernel
theorem dX0_lengthWithout_21 : decode cX0_lengthWithout 21 = .ok (.aload_n 0, 1) := by decide +kernel
theorem dX0_lengthWithout_22 : decode cX0_lengthWithout 22 = .ok (.getfield 15, 3) := by decide +kernel
theorem dX0_lengthWithout_25 : decode cX0_lengthWithout 25 = .ok (.iconst 1, 1) := by decide +kernel
theorem dX0_lengthWithout_26 : decode cX0_lengthWithout 26 = .ok (.iadd, 1) := by decide +kernel
theorem dX0_lengthWithout_27 : decode cX0_lengthWithout 27 = .ok (.istore 4, 2) := by decide +kernel
theorem dX0_lengthWithout_29 : decode cX0_lengthWithout 29 = .ok (.iload 4, 2) := by decide +kernel
theorem dX0_lengthWithout_31 : decode cX0_lengthWithout 31 = .ok (.aload_n 0, 1) := by decide +kernel
theorem dX0_lengthWithout_32 : decode cX0_lengthWithout 32 = .ok (.getfield 19, 3) := by decide +kernel
theorem dX0_lengthWithout_35 : decode cX0_lengthWithout 35 = .ok (.if_icmp .ge 25, 3) := by decide +kernel
theorem dX0_lengthWithout_38 : decode cX0_lengthWithout 38 = .ok (.aload_n 1, 1) := by decide +kernel
theorem dX0_lengthWithout_39 : decode cX0_lengthWithout 39 = .ok (.iload 4, 2) := by decide +kernel
theorem dX0_lengthWithout_41 : decode cX0_lengthWithout 41 = .ok (.invokevirtual 30, 3) := by decide +kernel
theorem dX0_lengthWithout_44 : decode cX0_lengthWithout 44 = .ok (.invokestatic 34, 3) := by decide +kernel
theorem dX0_lengthWithout_47 : decode cX0_lengthWithout 47 = .ok (.iload_n 2, 1) := by decide +kernel
theorem dX0_lengthWithout_48 : decode cX0_lengthWithout 48 = .ok (.if_icmp .ne 6, 3) := by decide +kernel
theorem dX0_lengthWithout_51 : decode cX0_lengthWithout 51 = .ok (.iinc 3 2, 3) := by decide +kernel
theorem dX0_lengthWithout_54 : decode cX0_lengthWithout 54 = .ok (.iinc 4 1, 3) := by decide +kernel
theorem dX0_lengthWithout_57 : decode cX0_lengthWithout 57 = .ok (.goto (-28), 3) := by decide +kernel
theorem dX0_lengthWithout_60 : decode cX0_lengthWithout 60 = .ok (.iload_n 3, 1) := by decide +kernel
theorem dX0_lengthWithout_61 : decode cX0_lengthWithout 61 = .ok (.ireturn, 1) := by decide +kernel
theorem dX0_takeOut_0 : decode cX0_takeOut 0 = .ok (.aload_n 1, 1) := by decide +kernel
theorem dX0_takeOut_1 : decode cX0_takeOut 1 = .ok (.aload_n 0, 1) := by decide +kernel
theorem dX0_takeOut_2 : decode cX0_takeOut 2 = .ok (.getfield 15, 3) := by decide +kernel
theorem dX0_takeOut_5 : decode cX0_takeOut 5 = .ok (.invokevirtual 30, 3) := by decide +kernel
theorem dX0_takeOut_8 : decode cX0_takeOut 8 = .ok (.invokestatic 34, 3) := by decide +kernel
theorem dX0_takeOut_11 : decode cX0_takeOut 11 = .ok (.istore_n 3, 1) := by decide +kernel
theorem dX0_takeOut_12 : decode cX0_takeOut 12 = .ok (.aload_n 1, 1) := by decide +kernel
theorem dX0_takeOut_13 : decode cX0_takeOut 13 = .ok (.aload_n 0, 1) := by decide +kernel
theorem dX0_takeOut_14 : decode cX0_takeOut 14 = .ok (.getfield 15, 3) := by decide +kernel
theorem dX0_takeOut_17 : decode cX0_takeOut 17 = .ok (.invokevirtual 30, 3) := by decide +kernel
theorem dX0_takeOut_20 : decode cX0_takeOut 20 = .ok (.invokestatic 37, 3) := by decide +kernel
theorem dX0_takeOut_23 : decode cX0_takeOut 23 = .ok (.istore 4, 2) := by decide +kernel
theorem dX0_takeOut_25 : decode cX0_takeOut 25 = .ok (.aload_n 2, 1) := by decide +kernel
theorem dX0_takeOut_26 : decode cX0_takeOut 26 = .ok (.invokevirtual 40, 3) := by decide +kernel
theorem dX0_takeOut_29 : decode cX0_takeOut 29 = .ok (.iconst 0, 1) := by decide +kernel
theorem dX0_takeOut_30 : decode cX0_takeOut 30 = .ok (.istore 5, 2) := by decide +kernel
theorem dX0_takeOut_32 : decode cX0_takeOut 32 = .ok (.iload 5, 2) := by decide +kernel
theorem dX0_takeOut_34 : decode cX0_takeOut 34 = .ok (.aload_n 1, 1) := by decide +kernel
theorem dX0_takeOut_35 : decode cX0_takeOut 35 = .ok (.getfield 25, 3) := by decide +kernel
theorem dX0_takeOut_38 : decode cX0_takeOut 38 = .ok (.if_icmp .ge 112, 3) := by decide +kernel
theorem dX0_takeOut_41 : decode cX0_takeOut 41 = .ok (.aload_n 1, 1) := by decide +kernel
theorem dX0_takeOut_42 : decode cX0_takeOut 42 = .ok (.iload 5, 2) := by decide +kernel
theorem dX0_takeOut_44 : decode cX0_takeOut 44 = .ok (.invokevirtual 30, 3) := by decide +kernel
theorem dX0_takeOut_47 : decode cX0_takeOut 47 = .ok (.istore 6, 2) := by decide +kernel
theorem dX0_takeOut_49 : decode cX0_takeOut 49 = .ok (.iload 5, 2) := by decide +kernel
theorem dX0_takeOut_51 : decode cX0_takeOut 51 = .ok (.aload_n 0, 1) := by decide +kernel
theorem dX0_takeOut_52 : decode cX0_takeOut 52 = .ok (.getfield 15, 3) := by decide +kernel
theorem dX0_takeOut_55 : decode cX0_takeOut 55 = .ok (.if_icmp .eq 89, 3) := by decide +kernel
theorem dX0_takeOut_58 : decode cX0_takeOut 58 = .ok (.iload 5, 2) := by decide +kernel
theorem dX0_takeOut_60 : decode cX0_takeOut 60 = .ok (.aload_n 0, 1) := by decide +kernel
theorem dX0_takeOut_61 : decode cX0_takeOut 61 = .ok (.getfield 19, 3) := by decide +kernel
theorem dX0_takeOut_64 : decode cX0_takeOut 64 = .ok (.if_icmp .ne 6, 3) := by decide +kernel
theorem dX0_takeOut_67 : decode cX0_takeOut 67 = .ok (.goto 77, 3) := by decide +kernel
theorem dX0_takeOut_70 : decode cX0_takeOut 70 = .ok (.iload 5, 2) := by decide +kernel
theorem dX0_takeOut_72 : decode cX0_takeOut 72 = .ok (.aload_n 0, 1) := by decide +kernel
theorem dX0_takeOut_73 : decode cX0_takeOut 73 = .ok (.getfield 15, 3) := by decide +kernel
theorem dX0_takeOut_76 : decode cX0_takeOut 76 = .ok (.if_icmp .le 61, 3) := by decide +kernel
theorem dX0_takeOut_79 : decode cX0_takeOut 79 = .ok (.iload 5, 2) := by decide +kernel
theorem dX0_takeOut_81 : decode cX0_takeOut 81 = .ok (.aload_n 0, 1) := by decide +kernel
theorem dX0_takeOut_82 : decode cX0_takeOut 82 = .ok (.getfield 19, 3) := by decide +kernel
theorem dX0_takeOut_85 : decode cX0_takeOut 85 = .ok (.if_icmp .ge 52, 3) := by decide +kernel
theorem dX0_takeOut_88 : decode cX0_takeOut 88 = .ok (.iload 6, 2) := by decide +kernel
theorem dX0_takeOut_90 : decode cX0_takeOut 90 = .ok (.invokestatic 34, 3) := by decide +kernel
theorem dX0_takeOut_93 : decode cX0_takeOut 93 = .ok (.iload_n 3, 1) := by decide +kernel
theorem dX0_takeOut_94 : decode cX0_takeOut 94 = .ok (.iconst 1, 1) := by decide +kernel
theorem dX0_takeOut_95 : decode cX0_takeOut 95 = .ok (.iadd, 1) := by decide +kernel
theorem dX0_takeOut_96 : decode cX0_takeOut 96 = .ok (.if_icmp .ne 41, 3) := by decide +kernel
theorem dX0_takeOut_99 : decode cX0_takeOut 99 = .ok (.aload_n 2, 1) := by decide +kernel
theorem dX0_takeOut_100 : decode cX0_takeOut 100 = .ok (.iload 4, 2) := by decide +kernel
theorem dX0_takeOut_102 : decode cX0_takeOut 102 = .ok (.ineg, 1) := by decide +kernel
theorem dX0_takeOut_103 : decode cX0_takeOut 103 = .ok (.iload_n 3, 1) := by decide +kernel
theorem dX0_takeOut_104 : decode cX0_takeOut 104 = .ok (.iconst 1, 1) := by decide +kernel
theorem dX0_takeOut_105 : decode cX0_takeOut 105 = .ok (.iadd, 1) := by decide +kernel
theorem dX0_takeOut_106 : decode cX0_takeOut 106 = .ok (.imul, 1) := by decide +kernel
theorem dX0_takeOut_107 : decode cX0_takeOut 107 = .ok (.invokevirtual 43, 3) := by decide +kernel
theorem dX0_takeOut_110 : decode cX0_takeOut 110 = .ok (.pop, 1) := by decide +kernel
theorem dX0_takeOut_111 : decode cX0_takeOut 111 = .ok (.aload_n 2, 1) := by decide +kernel
theorem dX0_takeOut_112 : decode cX0_takeOut 112 = .ok (.iload 6, 2) := by decide +kernel
theorem dX0_takeOut_114 : decode cX0_takeOut 114 = .ok (.invokestatic 37, 3) := by decide +kernel
theorem dX0_takeOut_117 : decode cX0_takeOut 117 = .ok (.iload_n 3, 1) := by decide +kernel
theorem dX0_takeOut_118 : decode cX0_takeOut 118 = .ok (.imul, 1) := by decide +kernel
theorem dX0_takeOut_119 : decode cX0_takeOut 119 = .ok (.invokevirtual 43, 3) := by decide +kernel
theorem dX0_takeOut_122 : decode cX0_takeOut 122 = .ok (.pop, 1) := by decide +kernel
theorem dX0_takeOut_123 : decode cX0_takeOut 123 = .ok (.aload_n 2, 1) := by decide +kernel
theorem dX0_takeOut_124 : decode cX0_takeOut 124 = .ok (.iload 4, 2) := by decide +kernel
theorem dX0_takeOut_126 : decode cX0_takeOut 126 = .ok (.iload_n 3, 1) := by decide +kernel
theorem dX0_takeOut_127 : decode cX0_takeOut 127 = .ok (.iconst 1, 1) := by decide +kernel
theorem dX0_takeOut_128 : decode cX0_takeOut 128 = .ok (.iadd, 1) := by decide +kernel
theorem dX0_takeOut_129 : decode cX0_takeOut 129 = .ok (.imul, 1) := by decide +kernel
theorem dX0_takeOut_130 : decode cX0_takeOut 130 = .ok (.invokevirtual 43, 3) := by decide +kernel
theorem dX0_takeOut_133 : decode cX0_takeOut 133 = .ok (.pop, 1) := by decide +kernel
theorem dX0_takeOut_134 : decode cX0_takeOut 134 = .ok (.goto 10, 3) := by decide +kernel
theorem dX0_takeOut_137 : decode cX0_takeOut 137 = .ok (.aload_n 2, 1) := by decide +kernel
theorem dX0_takeOut_138 : decode cX0_takeOut 138 = .ok (.iload 6, 2) := by decide +kernel
theorem dX0_takeOut_140 : decode cX0_takeOut 140 = .ok (.invokevirtual 43, 3) := by decide +kernel
theorem dX0_takeOut_143 : decode cX0_takeOut 143 = .ok (.pop, 1) := by decide +kernel
theorem dX0_takeOut_144 : decode cX0_takeOut 144 = .ok (.iinc 5 1, 3) := by decide +kernel
theorem dX0_takeOut_147 : decode cX0_takeOut 147 = .ok (.goto (-115), 3) := by decide +kernel
theorem dX0_takeOut_150 : decode cX0_takeOut 150 = .ok (.return_, 1) := by decide +kernel
theorem dX1_init_0 : decode cX1_init 0 = .ok (.aload_n 0, 1) := by decide +kernel
theorem dX1_init_1 : decode cX1_init 1 = .ok (.invokespecial 3, 3) := by decide +kernel
theorem dX1_init_4 : decode cX1_init 4 = .ok (.aload_n 0, 1) := by decide +kernel
theorem dX1_init_5 : decode cX1_init 5 = .ok (.bipush 6, 2) := by decide +kernel
theorem dX1_init_7 : decode cX1_init 7 = .ok (.anewarray 9, 3) := by decide +kernel
theorem dX1_init_10 : decode cX1_init 10 = .ok (.putfield 11, 3) := by decide +kernel
theorem dX1_init_13 : decode cX1_init 13 = .ok (.iconst 0, 1) := by decide +kernel
theorem dX1_init_14 : decode cX1_init 14 = .ok (.istore_n 1, 1) := by decide +kernel
theorem dX1_init_15 : decode cX1_init 15 = .ok (.iload_n 1, 1) := by decide +kernel
theorem dX1_init_16 : decode cX1_init 16 = .ok (.bipush 6, 2) := by decide +kernel
theorem dX1_init_18 : decode cX1_init 18 = .ok (.if_icmp .ge 22, 3) := by decide +kernel
theorem dX1_init_21 : decode cX1_init 21 = .ok (.aload_n 0, 1) := by decide +kernel
theorem dX1_init_22 : decode cX1_init 22 = .ok (.getfield 11, 3) := by decide +kernel
theorem dX1_init_25 : decode cX1_init 25 = .ok (.iload_n 1, 1) := by decide +kernel
theorem dX1_init_26 : decode cX1_init 26 = .ok (.new 9, 3) := by decide +kernel
theorem dX1_init_29 : decode cX1_init 29 = .ok (.dup, 1) := by decide +kernel
theorem dX1_init_30 : decode cX1_init 30 = .ok (.invokespecial 17, 3) := by decide +kernel
theorem dX1_init_33 : decode cX1_init 33 = .ok (.aastore, 1) := by decide +kernel
theorem dX1_init_34 : decode cX1_init 34 = .ok (.iinc 1 1, 3) := by decide +kernel
theorem dX1_init_37 : decode cX1_init 37 = .ok (.goto (-22), 3) := by decide +kernel
theorem dX1_init_40 : decode cX1_init 40 = .ok (.aload_n 0, 1) := by decide +kernel
theorem dX1_init_41 : decode cX1_init 41 = .ok (.iconst 0, 1) := by decide +kernel
theorem dX1_init_42 : decode cX1_init 42 = .ok (.putfield 18, 3) := by decide +kernel
theorem dX1_init_45 : decode cX1_init 45 = .ok (.aload_n 0, 1) := by decide +kernel
theorem dX1_init_46 : decode cX1_init 46 = .ok (.iconst 0, 1) := by decide +kernel
theorem dX1_init_47 : decode cX1_init 47 = .ok (.putfield 22, 3) := by decide +kernel
theorem dX1_init_50 : decode cX1_init 50 = .ok (.return_, 1) := by decide +kernel
theorem dX1_save_0 : decode cX1_save 0 = .ok (.aload_n 0, 1) := by decide +kernel
theorem dX1_save_1 : decode cX1_save 1 = .ok (.aload_n 0, 1) := by decide +kernel
theorem dX1_save_2 : decode cX1_save 2 = .ok (.getfield 18, 3) := by decide +kernel
theorem dX1_save_5 : decode cX1_save 5 = .ok (.invokevirtual 25, 3) := by decide +kernel
theorem dX1_save_8 : decode cX1_save 8 = .ok (.astore_n 2, 1) := by decide +kernel
theorem dX1_save_9 : decode cX1_save 9 = .ok (.aload_n 2, 1) := by decide +kernel
theorem dX1_save_10 : decode cX1_save 10 = .ok (.ifnonnull 4, 3) := by decide +kernel
theorem dX1_save_13 : decode cX1_save 13 = .ok (.return_, 1) := by decide +kernel
theorem dX1_save_14 : decode cX1_save 14 = .ok (.aload_n 2, 1) := by decide +kernel
theorem dX1_save_15 : decode cX1_save 15 = .ok (.aload_n 1, 1) := by decide +kernel
theorem dX1_save_16 : decode cX1_save 16 = .ok (.invokevirtual 29, 3) := by decide +kernel
theorem dX1_save_19 : decode cX1_save 19 = .ok (.aload_n 0, 1) := by decide +kernel
theorem dX1_save_20 : decode cX1_save 20 = .ok (.aload_n 0, 1) := by decide +kernel
theorem dX1_save_21 : decode cX1_save 21 = .ok (.getfield 18, 3) := by decide +kernel
theorem dX1_save_24 : decode cX1_save 24 = .ok (.iconst 1, 1) := by decide +kernel
theorem dX1_save_25 : decode cX1_save 25 = .ok (.iadd, 1) := by decide +kernel
theorem dX1_save_26 : decode cX1_save 26 = .ok (.bipush 6, 2) := by decide +kernel
theorem dX1_save_28 : decode cX1_save 28 = .ok (.irem, 1) := by decide +kernel
theorem dX1_save_29 : decode cX1_save 29 = .ok (.putfield 18, 3) := by decide +kernel
theorem dX1_save_32 : decode cX1_save 32 = .ok (.aload_n 0, 1) := by decide +kernel
theorem dX1_save_33 : decode cX1_save 33 = .ok (.aload_n 0, 1) := by decide +kernel
theorem dX1_save_34 : decode cX1_save 34 = .ok (.getfield 22, 3) := by decide +kernel
theorem dX1_save_37 : decode cX1_save 37 = .ok (.bipush 6, 2) := by decide +kernel
theorem dX1_save_39 : decode cX1_save 39 = .ok (.if_icmp .ge 12, 3) := by decide +kernel
theorem dX1_save_42 : decode cX1_save 42 = .ok (.aload_n 0, 1) := by decide +kernel
theorem dX1_save_43 : decode cX1_save 43 = .ok (.getfield 22, 3) := by decide +kernel
theorem dX1_save_46 : decode cX1_save 46 = .ok (.iconst 1, 1) := by decide +kernel
theorem dX1_save_47 : decode cX1_save 47 = .ok (.iadd, 1) := by decide +kernel
theorem dX1_save_48 : decode cX1_save 48 = .ok (.goto 5, 3) := by decide +kernel
theorem dX1_save_51 : decode cX1_save 51 = .ok (.bipush 6, 2) := by decide +kernel
theorem dX1_save_53 : decode cX1_save 53 = .ok (.putfield 22, 3) := by decide +kernel
theorem dX1_save_56 : decode cX1_save 56 = .ok (.return_, 1) := by decide +kernel
theorem dX1_takeBack_0 : decode cX1_takeBack 0 = .ok (.aload_n 0, 1) := by decide +kernel
theorem dX1_takeBack_1 : decode cX1_takeBack 1 = .ok (.getfield 18, 3) := by decide +kernel
theorem dX1_takeBack_4 : decode cX1_takeBack 4 = .ok (.bipush 6, 2) := by decide +kernel
theorem dX1_takeBack_6 : decode cX1_takeBack 6 = .ok (.iadd, 1) := by decide +kernel
theorem dX1_takeBack_7 : decode cX1_takeBack 7 = .ok (.iconst 1, 1) := by decide +kernel
theorem dX1_takeBack_8 : decode cX1_takeBack 8 = .ok (.isub, 1) := by decide +kernel
theorem dX1_takeBack_9 : decode cX1_takeBack 9 = .ok (.bipush 6, 2) := by decide +kernel
theorem dX1_takeBack_11 : decode cX1_takeBack 11 = .ok (.irem, 1) := by decide +kernel
theorem dX1_takeBack_12 : decode cX1_takeBack 12 = .ok (.istore_n 2, 1) := by decide +kernel
theorem dX1_takeBack_13 : decode cX1_takeBack 13 = .ok (.aload_n 0, 1) := by decide +kernel
theorem dX1_takeBack_14 : decode cX1_takeBack 14 = .ok (.iload_n 2, 1) := by decide +kernel
theorem dX1_takeBack_15 : decode cX1_takeBack 15 = .ok (.invokevirtual 25, 3) := by decide +kernel
theorem dX1_takeBack_18 : decode cX1_takeBack 18 = .ok (.astore_n 3, 1) := by decide +kernel
theorem dX1_takeBack_19 : decode cX1_takeBack 19 = .ok (.aload_n 3, 1) := by decide +kernel
theorem dX1_takeBack_20 : decode cX1_takeBack 20 = .ok (.ifnull 10, 3) := by decide +kernel
theorem dX1_takeBack_23 : decode cX1_takeBack 23 = .ok (.aload_n 0, 1) := by decide +kernel
theorem dX1_takeBack_24 : decode cX1_takeBack 24 = .ok (.getfield 22, 3) := by decide +kernel
theorem dX1_takeBack_27 : decode cX1_takeBack 27 = .ok (.ifCond .ne 4, 3) := by decide +kernel
theorem dX1_takeBack_30 : decode cX1_takeBack 30 = .ok (.return_, 1) := by decide +kernel
theorem dX1_takeBack_31 : decode cX1_takeBack 31 = .ok (.aload_n 1, 1) := by decide +kernel
theorem dX1_takeBack_32 : decode cX1_takeBack 32 = .ok (.aload_n 3, 1) := by decide +kernel
theorem dX1_takeBack_33 : decode cX1_takeBack 33 = .ok (.invokevirtual 29, 3) := by decide +kernel
theorem dX1_takeBack_36 : decode cX1_takeBack 36 = .ok (.aload_n 0, 1) := by decide +kernel
theorem dX1_takeBack_37 : decode cX1_takeBack 37 = .ok (.iload_n 2, 1) := by decide +kernel
theorem dX1_takeBack_38 : decode cX1_takeBack 38 = .ok (.putfield 18, 3) := by decide +kernel
theorem dX1_takeBack_41 : decode cX1_takeBack 41 = .ok (.aload_n 0, 1) := by decide +kernel
theorem dX1_takeBack_42 : decode cX1_takeBack 42 = .ok (.dup, 1) := by decide +kernel
theorem dX1_takeBack_43 : decode cX1_takeBack 43 = .ok (.getfield 22, 3) := by decide +kernel
theorem dX1_takeBack_46 : decode cX1_takeBack 46 = .ok (.iconst 1, 1) := by decide +kernel
theorem dX1_takeBack_47 : decode cX1_takeBack 47 = .ok (.isub, 1) := by decide +kernel
theorem dX1_takeBack_48 : decode cX1_takeBack 48 = .ok (.putfield 22, 3) := by decide +kernel
theorem dX1_takeBack_51 : decode cX1_takeBack 51 = .ok (.return_, 1) := by decide +kernel
theorem dX1_slotAt_0 : decode cX1_slotAt 0 = .ok (.iload_n 1, 1) := by decide +kernel
theorem dX1_slotAt_1 : decode cX1_slotAt 1 = .ok (.ifCond .lt 21, 3) := by decide +kernel
theorem dX1_slotAt_4 : decode cX1_slotAt 4 = .ok (.iload_n 1, 1) := by decide +kernel
theorem dX1_slotAt_5 : decode cX1_slotAt 5 = .ok (.aload_n 0, 1) := by decide +kernel
theorem dX1_slotAt_6 : decode cX1_slotAt 6 = .ok (.getfield 11, 3) := by decide +kernel
theorem dX1_slotAt_9 : decode cX1_slotAt 9 = .ok (.arraylength, 1) := by decide +kernel
theorem dX1_slotAt_10 : decode cX1_slotAt 10 = .ok (.if_icmp .ge 12, 3) := by decide +kernel
theorem dX1_slotAt_13 : decode cX1_slotAt 13 = .ok (.aload_n 0, 1) := by decide +kernel
theorem dX1_slotAt_14 : decode cX1_slotAt 14 = .ok (.getfield 11, 3) := by decide +kernel
theorem dX1_slotAt_17 : decode cX1_slotAt 17 = .ok (.iload_n 1, 1) := by decide +kernel
theorem dX1_slotAt_18 : decode cX1_slotAt 18 = .ok (.aaload, 1) := by decide +kernel
theorem dX1_slotAt_19 : decode cX1_slotAt 19 = .ok (.goto 4, 3) := by decide +kernel
theorem dX1_slotAt_22 : decode cX1_slotAt 22 = .ok (.aconst_null, 1) := by decide +kernel
theorem dX1_slotAt_23 : decode cX1_slotAt 23 = .ok (.areturn, 1) := by decide +kernel
theorem dX2_init_0 : decode cX2_init 0 = .ok (.aload_n 0, 1) := by decide +kernel
theorem dX2_init_1 : decode cX2_init 1 = .ok (.invokespecial 3, 3) := by decide +kernel
theorem dX2_init_4 : decode cX2_init 4 = .ok (.aload_n 0, 1) := by decide +kernel
theorem dX2_init_5 : decode cX2_init 5 = .ok (.iconst 4, 1) := by decide +kernel
theorem dX2_init_6 : decode cX2_init 6 = .ok (.newarray .int, 2) := by decide +kernel
theorem dX2_init_8 : decode cX2_init 8 = .ok (.putfield 9, 3) := by decide +kernel
theorem dX2_init_11 : decode cX2_init 11 = .ok (.aload_n 0, 1) := by decide +kernel
theorem dX2_init_12 : decode cX2_init 12 = .ok (.bipush 16, 2) := by decide +kernel
theorem dX2_init_14 : decode cX2_init 14 = .ok (.newarray .int, 2) := by decide +kernel
theorem dX2_init_16 : decode cX2_init 16 = .ok (.putfield 15, 3) := by decide +kernel
theorem dX2_init_19 : decode cX2_init 19 = .ok (.return_, 1) := by decide +kernel
theorem dX2_follow_0 : decode cX2_follow 0 = .ok (.iconst 0, 1) := by decide +kernel
theorem dX2_follow_1 : decode cX2_follow 1 = .ok (.istore_n 3, 1) := by decide +kernel
theorem dX2_follow_2 : decode cX2_follow 2 = .ok (.iload_n 3, 1) := by decide +kernel
theorem dX2_follow_3 : decode cX2_follow 3 = .ok (.iconst 4, 1) := by decide +kernel
theorem dX2_follow_4 : decode cX2_follow 4 = .ok (.if_icmp .ge 16, 3) := by decide +kernel
theorem dX2_follow_7 : decode cX2_follow 7 = .ok (.aload_n 0, 1) := by decide +kernel
theorem dX2_follow_8 : decode cX2_follow 8 = .ok (.getfield 9, 3) := by decide +kernel
theorem dX2_follow_11 : decode cX2_follow 11 = .ok (.iload_n 3, 1) := by decide +kernel
theorem dX2_follow_12 : decode cX2_follow 12 = .ok (.iload_n 3, 1) := by decide +kernel
theorem dX2_follow_13 : decode cX2_follow 13 = .ok (.iastore, 1) := by decide +kernel
theorem dX2_follow_14 : decode cX2_follow 14 = .ok (.iinc 3 1, 3) := by decide +kernel
theorem dX2_follow_17 : decode cX2_follow 17 = .ok (.goto (-15), 3) := by decide +kernel
theorem dX2_follow_20 : decode cX2_follow 20 = .ok (.iconst 0, 1) := by decide +kernel
theorem dX2_follow_21 : decode cX2_follow 21 = .ok (.istore_n 3, 1) := by decide +kernel
theorem dX2_follow_22 : decode cX2_follow 22 = .ok (.iload_n 3, 1) := by decide +kernel
theorem dX2_follow_23 : decode cX2_follow 23 = .ok (.bipush 16, 2) := by decide +kernel
theorem dX2_follow_25 : decode cX2_follow 25 = .ok (.if_icmp .ge 16, 3) := by decide +kernel
theorem dX2_follow_28 : decode cX2_follow 28 = .ok (.aload_n 0, 1) := by decide +kernel
theorem dX2_follow_29 : decode cX2_follow 29 = .ok (.getfield 15, 3) := by decide +kernel
theorem dX2_follow_32 : decode cX2_follow 32 = .ok (.iload_n 3, 1) := by decide +kernel
theorem dX2_follow_33 : decode cX2_follow 33 = .ok (.iconst 0, 1) := by decide +kernel
theorem dX2_follow_34 : decode cX2_follow 34 = .ok (.iastore, 1) := by decide +kernel
theorem dX2_follow_35 : decode cX2_follow 35 = .ok (.iinc 3 1, 3) := by decide +kernel
theorem dX2_follow_38 : decode cX2_follow 38 = .ok (.goto (-16), 3) := by decide +kernel
theorem dX2_follow_41 : decode cX2_follow 41 = .ok (.iconst 0, 1) := by decide +kernel
theorem dX2_follow_42 : decode cX2_follow 42 = .ok (.istore_n 3, 1) := by decide +kernel
theorem dX2_follow_43 : decode cX2_follow 43 = .ok (.iload_n 3, 1) := by decide +kernel
theorem dX2_follow_44 : decode cX2_follow 44 = .ok (.iload_n 2, 1) := by decide +kernel
theorem dX2_follow_45 : decode cX2_follow 45 = .ok (.if_icmp .ge 26, 3) := by decide +kernel
theorem dX2_follow_48 : decode cX2_follow 48 = .ok (.iload_n 3, 1) := by decide +kernel
theorem dX2_follow_49 : decode cX2_follow 49 = .ok (.aload_n 1, 1) := by decide +kernel
theorem dX2_follow_50 : decode cX2_follow 50 = .ok (.getfield 18, 3) := by decide +kernel
theorem dX2_follow_53 : decode cX2_follow 53 = .ok (.if_icmp .ge 18, 3) := by decide +kernel
theorem dX2_follow_56 : decode cX2_follow 56 = .ok (.aload_n 0, 1) := by decide +kernel
theorem dX2_follow_57 : decode cX2_follow 57 = .ok (.aload_n 1, 1) := by decide +kernel
theorem dX2_follow_58 : decode cX2_follow 58 = .ok (.iload_n 3, 1) := by decide +kernel
theorem dX2_follow_59 : decode cX2_follow 59 = .ok (.invokevirtual 24, 3) := by decide +kernel
theorem dX2_follow_62 : decode cX2_follow 62 = .ok (.invokevirtual 28, 3) := by decide +kernel
theorem dX2_follow_65 : decode cX2_follow 65 = .ok (.iinc 3 1, 3) := by decide +kernel
theorem dX2_follow_68 : decode cX2_follow 68 = .ok (.goto (-25), 3) := by decide +kernel
theorem dX2_follow_71 : decode cX2_follow 71 = .ok (.return_, 1) := by decide +kernel
theorem dX2_change_0 : decode cX2_change 0 = .ok (.iload_n 1, 1) := by decide +kernel
theorem dX2_change_1 : decode cX2_change 1 = .ok (.invokestatic 32, 3) := by decide +kernel
theorem dX2_change_4 : decode cX2_change 4 = .ok (.istore_n 2, 1) := by decide +kernel
theorem dX2_change_5 : decode cX2_change 5 = .ok (.iload_n 2, 1) := by decide +kernel
theorem dX2_change_6 : decode cX2_change 6 = .ok (.iconst 1, 1) := by decide +kernel
theorem dX2_change_7 : decode cX2_change 7 = .ok (.if_icmp .lt 8, 3) := by decide +kernel
theorem dX2_change_10 : decode cX2_change 10 = .ok (.iload_n 2, 1) := by decide +kernel
theorem dX2_change_11 : decode cX2_change 11 = .ok (.iconst 3, 1) := by decide +kernel
theorem dX2_change_12 : decode cX2_change 12 = .ok (.if_icmp .le 4, 3) := by decide +kernel
theorem dX2_change_15 : decode cX2_change 15 = .ok (.return_, 1) := by decide +kernel
theorem dX2_change_16 : decode cX2_change 16 = .ok (.aload_n 0, 1) := by decide +kernel
theorem dX2_change_17 : decode cX2_change 17 = .ok (.getfield 9, 3) := by decide +kernel
theorem dX2_change_20 : decode cX2_change 20 = .ok (.iload_n 2, 1) := by decide +kernel
theorem dX2_change_21 : decode cX2_change 21 = .ok (.iconst 1, 1) := by decide +kernel
theorem dX2_change_22 : decode cX2_change 22 = .ok (.isub, 1) := by decide +kernel
theorem dX2_change_23 : decode cX2_change 23 = .ok (.iaload, 1) := by decide +kernel
theorem dX2_change_24 : decode cX2_change 24 = .ok (.istore_n 3, 1) := by decide +kernel
theorem dX2_change_25 : decode cX2_change 25 = .ok (.aload_n 0, 1) := by decide +kernel
theorem dX2_change_26 : decode cX2_change 26 = .ok (.getfield 9, 3) := by decide +kernel
theorem dX2_change_29 : decode cX2_change 29 = .ok (.iload_n 2, 1) := by decide +kernel
theorem dX2_change_30 : decode cX2_change 30 = .ok (.iaload, 1) := by decide +kernel
theorem dX2_change_31 : decode cX2_change 31 = .ok (.istore 4, 2) := by decide +kernel
theorem dX2_change_33 : decode cX2_change 33 = .ok (.aload_n 0, 1) := by decide +kernel
theorem dX2_change_34 : decode cX2_change 34 = .ok (.getfield 9, 3) := by decide +kernel
theorem dX2_change_37 : decode cX2_change 37 = .ok (.iload_n 2, 1) := by decide +kernel
theorem dX2_change_38 : decode cX2_change 38 = .ok (.iconst 1, 1) := by decide +kernel
theorem dX2_change_39 : decode cX2_change 39 = .ok (.isub, 1) := by decide +kernel
theorem dX2_change_40 : decode cX2_change 40 = .ok (.iload 4, 2) := by decide +kernel
theorem dX2_change_42 : decode cX2_change 42 = .ok (.iastore, 1) := by decide +kernel
theorem dX2_change_43 : decode cX2_change 43 = .ok (.aload_n 0, 1) := by decide +kernel
theorem dX2_change_44 : decode cX2_change 44 = .ok (.getfield 9, 3) := by decide +kernel
theorem dX2_change_47 : decode cX2_change 47 = .ok (.iload_n 2, 1) := by decide +kernel
theorem dX2_change_48 : decode cX2_change 48 = .ok (.iload_n 3, 1) := by decide +kernel
theorem dX2_change_49 : decode cX2_change 49 = .ok (.iastore, 1) := by decide +kernel
theorem dX2_change_50 : decode cX2_change 50 = .ok (.aload_n 0, 1) := by decide +kernel
theorem dX2_change_51 : decode cX2_change 51 = .ok (.iload_n 3, 1) := by decide +kernel
theorem dX2_change_52 : decode cX2_change 52 = .ok (.iload 4, 2) := by decide +kernel
theorem dX2_change_54 : decode cX2_change 54 = .ok (.iload_n 1, 1) := by decide +kernel
theorem dX2_change_55 : decode cX2_change 55 = .ok (.invokestatic 35, 3) := by decide +kernel
theorem dX2_change_58 : decode cX2_change 58 = .ok (.invokevirtual 38, 3) := by decide +kernel
theorem dX2_change_61 : decode cX2_change 61 = .ok (.aload_n 0, 1) := by decide +kernel
theorem dX2_change_62 : decode cX2_change 62 = .ok (.iload 4, 2) := by decide +kernel
theorem dX2_change_64 : decode cX2_change 64 = .ok (.iload_n 3, 1) := by decide +kernel
theorem dX2_change_65 : decode cX2_change 65 = .ok (.iload_n 1, 1) := by decide +kernel
theorem dX2_change_66 : decode cX2_change 66 = .ok (.invokestatic 35, 3) := by decide +kernel
theorem dX2_change_69 : decode cX2_change 69 = .ok (.invokevirtual 38, 3) := by decide +kernel
theorem dX2_change_72 : decode cX2_change 72 = .ok (.return_, 1) := by decide +kernel
theorem dX2_addTo_0 : decode cX2_addTo 0 = .ok (.iload_n 1, 1) := by decide +kernel
theorem dX2_addTo_1 : decode cX2_addTo 1 = .ok (.invokestatic 42, 3) := by decide +kernel
theorem dX2_addTo_4 : decode cX2_addTo 4 = .ok (.ifCond .eq 24, 3) := by decide +kernel
theorem dX2_addTo_7 : decode cX2_addTo 7 = .ok (.iload_n 2, 1) := by decide +kernel
theorem dX2_addTo_8 : decode cX2_addTo 8 = .ok (.invokestatic 42, 3) := by decide +kernel
theorem dX2_addTo_11 : decode cX2_addTo 11 = .ok (.ifCond .eq 17, 3) := by decide +kernel
theorem dX2_addTo_14 : decode cX2_addTo 14 = .ok (.aload_n 0, 1) := by decide +kernel
theorem dX2_addTo_15 : decode cX2_addTo 15 = .ok (.getfield 15, 3) := by decide +kernel
theorem dX2_addTo_18 : decode cX2_addTo 18 = .ok (.iload_n 1, 1) := by decide +kernel
theorem dX2_addTo_19 : decode cX2_addTo 19 = .ok (.iconst 4, 1) := by decide +kernel
theorem dX2_addTo_20 : decode cX2_addTo 20 = .ok (.imul, 1) := by decide +kernel
theorem dX2_addTo_21 : decode cX2_addTo 21 = .ok (.iload_n 2, 1) := by decide +kernel
theorem dX2_addTo_22 : decode cX2_addTo 22 = .ok (.iadd, 1) := by decide +kernel
theorem dX2_addTo_23 : decode cX2_addTo 23 = .ok (.dup2, 1) := by decide +kernel
theorem dX2_addTo_24 : decode cX2_addTo 24 = .ok (.iaload, 1) := by decide +kernel
theorem dX2_addTo_25 : decode cX2_addTo 25 = .ok (.iload_n 3, 1) := by decide +kernel
theorem dX2_addTo_26 : decode cX2_addTo 26 = .ok (.iadd, 1) := by decide +kernel
theorem dX2_addTo_27 : decode cX2_addTo 27 = .ok (.iastore, 1) := by decide +kernel
theorem dX2_addTo_28 : decode cX2_addTo 28 = .ok (.return_, 1) := by decide +kernel
theorem dX2_laceAt_0 : decode cX2_laceAt 0 = .ok (.iload_n 1, 1) := by decide +kernel
theorem dX2_laceAt_1 : decode cX2_laceAt 1 = .ok (.invokestatic 42, 3) := by decide +kernel
theorem dX2_laceAt_4 : decode cX2_laceAt 4 = .ok (.ifCond .eq 12, 3) := by decide +kernel
theorem dX2_laceAt_7 : decode cX2_laceAt 7 = .ok (.aload_n 0, 1) := by decide +kernel
theorem dX2_laceAt_8 : decode cX2_laceAt 8 = .ok (.getfield 9, 3) := by decide +kernel
theorem dX2_laceAt_11 : decode cX2_laceAt 11 = .ok (.iload_n 1, 1) := by decide +kernel
theorem dX2_laceAt_12 : decode cX2_laceAt 12 = .ok (.iaload, 1) := by decide +kernel
theorem dX2_laceAt_13 : decode cX2_laceAt 13 = .ok (.goto 4, 3) := by decide +kernel
theorem dX2_laceAt_16 : decode cX2_laceAt 16 = .ok (.iconst (-1), 1) := by decide +kernel
theorem dX2_laceAt_17 : decode cX2_laceAt 17 = .ok (.ireturn, 1) := by decide +kernel
theorem dX2_sumOf_0 : decode cX2_sumOf 0 = .ok (.iload_n 1, 1) := by decide +kernel
theorem dX2_sumOf_1 : decode cX2_sumOf 1 = .ok (.invokestatic 42, 3) := by decide +kernel
theorem dX2_sumOf_4 : decode cX2_sumOf 4 = .ok (.ifCond .eq 23, 3) := by decide +kernel
theorem dX2_sumOf_7 : decode cX2_sumOf 7 = .ok (.iload_n 2, 1) := by decide +kernel
theorem dX2_sumOf_8 : decode cX2_sumOf 8 = .ok (.invokestatic 42, 3) := by decide +kernel
theorem dX2_sumOf_11 : decode cX2_sumOf 11 = .ok (.ifCond .eq 16, 3) := by decide +kernel
theorem dX2_sumOf_14 : decode cX2_sumOf 14 = .ok (.aload_n 0, 1) := by decide +kernel
theorem dX2_sumOf_15 : decode cX2_sumOf 15 = .ok (.getfield 15, 3) := by decide +kernel
theorem dX2_sumOf_18 : decode cX2_sumOf 18 = .ok (.iload_n 1, 1) := by decide +kernel
theorem dX2_sumOf_19 : decode cX2_sumOf 19 = .ok (.iconst 4, 1) := by decide +kernel
theorem dX2_sumOf_20 : decode cX2_sumOf 20 = .ok (.imul, 1) := by decide +kernel
theorem dX2_sumOf_21 : decode cX2_sumOf 21 = .ok (.iload_n 2, 1) := by decide +kernel
theorem dX2_sumOf_22 : decode cX2_sumOf 22 = .ok (.iadd, 1) := by decide +kernel
theorem dX2_sumOf_23 : decode cX2_sumOf 23 = .ok (.iaload, 1) := by decide +kernel
theorem dX2_sumOf_24 : decode cX2_sumOf 24 = .ok (.goto 4, 3) := by decide +kernel
theorem dX2_sumOf_27 : decode cX2_sumOf 27 = .ok (.iconst 0, 1) := by decide +kernel
theorem dX2_sumOf_28 : decode cX2_sumOf 28 = .ok (.ireturn, 1) := by decide +kernel
theorem dX3_init_0 : decode cX3_init 0 = .ok (.aload_n 0, 1) := by decide +kernel
theorem dX3_init_1 : decode cX3_init 1 = .ok (.invokespecial 3, 3) := by decide +kernel
theorem dX3_init_4 : decode cX3_init 4 = .ok (.aload_n 0, 1) := by decide +kernel
theorem dX3_init_5 : decode cX3_init 5 = .ok (.bipush 16, 2) := by decide +kernel
theorem dX3_init_7 : decode cX3_init 7 = .ok (.newarray .int, 2) := by decide +kernel
theorem dX3_init_9 : decode cX3_init 9 = .ok (.putfield 11, 3) := by decide +kernel
theorem dX3_init_12 : decode cX3_init 12 = .ok (.aload_n 0, 1) := by decide +kernel
theorem dX3_init_13 : decode cX3_init 13 = .ok (.bipush 16, 2) := by decide +kernel
theorem dX3_init_15 : decode cX3_init 15 = .ok (.newarray .int, 2) := by decide +kernel
theorem dX3_init_17 : decode cX3_init 17 = .ok (.putfield 15, 3) := by decide +kernel
theorem dX3_init_20 : decode cX3_init 20 = .ok (.aload_n 0, 1) := by decide +kernel
theorem dX3_init_21 : decode cX3_init 21 = .ok (.bipush 16, 2) := by decide +kernel
theorem dX3_init_23 : decode cX3_init 23 = .ok (.newarray .int, 2) := by decide +kernel
theorem dX3_init_25 : decode cX3_init 25 = .ok (.putfield 18, 3) := by decide +kernel
theorem dX3_init_28 : decode cX3_init 28 = .ok (.aload_n 0, 1) := by decide +kernel
theorem dX3_init_29 : decode cX3_init 29 = .ok (.bipush 16, 2) := by decide +kernel
theorem dX3_init_31 : decode cX3_init 31 = .ok (.bipush 16, 2) := by decide +kernel
theorem dX3_init_33 : decode cX3_init 33 = .ok (.multianewarray 21 2, 4) := by decide +kernel
theorem dX3_init_37 : decode cX3_init 37 = .ok (.putfield 23, 3) := by decide +kernel
theorem dX3_init_40 : decode cX3_init 40 = .ok (.return_, 1) := by decide +kernel
theorem dX3_reckonInOrder_0 : decode cX3_reckonInOrder 0 = .ok (.aload_n 0, 1) := by decide +kernel
theorem dX3_reckonInOrder_1 : decode cX3_reckonInOrder 1 = .ok (.getfield 11, 3) := by decide +kernel
theorem dX3_reckonInOrder_4 : decode cX3_reckonInOrder 4 = .ok (.invokestatic 26, 3) := by decide +kernel
theorem dX3_reckonInOrder_7 : decode cX3_reckonInOrder 7 = .ok (.iconst 0, 1) := by decide +kernel
theorem dX3_reckonInOrder_8 : decode cX3_reckonInOrder 8 = .ok (.istore_n 2, 1) := by decide +kernel
theorem dX3_reckonInOrder_9 : decode cX3_reckonInOrder 9 = .ok (.iload_n 2, 1) := by decide +kernel
theorem dX3_reckonInOrder_10 : decode cX3_reckonInOrder 10 = .ok (.aload_n 1, 1) := by decide +kernel
theorem dX3_reckonInOrder_11 : decode cX3_reckonInOrder 11 = .ok (.getfield 30, 3) := by decide +kernel
theorem dX3_reckonInOrder_14 : decode cX3_reckonInOrder 14 = .ok (.if_icmp .ge 62, 3) := by decide +kernel
theorem dX3_reckonInOrder_17 : decode cX3_reckonInOrder 17 = .ok (.aload_n 1, 1) := by decide +kernel
theorem dX3_reckonInOrder_18 : decode cX3_reckonInOrder 18 = .ok (.iload_n 2, 1) := by decide +kernel
theorem dX3_reckonInOrder_19 : decode cX3_reckonInOrder 19 = .ok (.invokevirtual 36, 3) := by decide +kernel
theorem dX3_reckonInOrder_22 : decode cX3_reckonInOrder 22 = .ok (.aload_n 0, 1) := by decide +kernel
theorem dX3_reckonInOrder_23 : decode cX3_reckonInOrder 23 = .ok (.getfield 15, 3) := by decide +kernel
theorem dX3_reckonInOrder_26 : decode cX3_reckonInOrder 26 = .ok (.invokestatic 40, 3) := by decide +kernel
theorem dX3_reckonInOrder_29 : decode cX3_reckonInOrder 29 = .ok (.aload_n 0, 1) := by decide +kernel
theorem dX3_reckonInOrder_30 : decode cX3_reckonInOrder 30 = .ok (.getfield 11, 3) := by decide +kernel
theorem dX3_reckonInOrder_33 : decode cX3_reckonInOrder 33 = .ok (.aload_n 0, 1) := by decide +kernel
theorem dX3_reckonInOrder_34 : decode cX3_reckonInOrder 34 = .ok (.getfield 15, 3) := by decide +kernel
theorem dX3_reckonInOrder_37 : decode cX3_reckonInOrder 37 = .ok (.aload_n 0, 1) := by decide +kernel
theorem dX3_reckonInOrder_38 : decode cX3_reckonInOrder 38 = .ok (.getfield 18, 3) := by decide +kernel
theorem dX3_reckonInOrder_41 : decode cX3_reckonInOrder 41 = .ok (.invokestatic 44, 3) := by decide +kernel
theorem dX3_reckonInOrder_44 : decode cX3_reckonInOrder 44 = .ok (.iconst 0, 1) := by decide +kernel
theorem dX3_reckonInOrder_45 : decode cX3_reckonInOrder 45 = .ok (.istore_n 3, 1) := by decide +kernel
theorem dX3_reckonInOrder_46 : decode cX3_reckonInOrder 46 = .ok (.iload_n 3, 1) := by decide +kernel
theorem dX3_reckonInOrder_47 : decode cX3_reckonInOrder 47 = .ok (.bipush 16, 2) := by decide +kernel
theorem dX3_reckonInOrder_49 : decode cX3_reckonInOrder 49 = .ok (.if_icmp .ge 21, 3) := by decide +kernel
theorem dX3_reckonInOrder_52 : decode cX3_reckonInOrder 52 = .ok (.aload_n 0, 1) := by decide +kernel
theorem dX3_reckonInOrder_53 : decode cX3_reckonInOrder 53 = .ok (.getfield 11, 3) := by decide +kernel
theorem dX3_reckonInOrder_56 : decode cX3_reckonInOrder 56 = .ok (.iload_n 3, 1) := by decide +kernel
theorem dX3_reckonInOrder_57 : decode cX3_reckonInOrder 57 = .ok (.aload_n 0, 1) := by decide +kernel
theorem dX3_reckonInOrder_58 : decode cX3_reckonInOrder 58 = .ok (.getfield 18, 3) := by decide +kernel
theorem dX3_reckonInOrder_61 : decode cX3_reckonInOrder 61 = .ok (.iload_n 3, 1) := by decide +kernel
theorem dX3_reckonInOrder_62 : decode cX3_reckonInOrder 62 = .ok (.iaload, 1) := by decide +kernel
theorem dX3_reckonInOrder_63 : decode cX3_reckonInOrder 63 = .ok (.iastore, 1) := by decide +kernel
theorem dX3_reckonInOrder_64 : decode cX3_reckonInOrder 64 = .ok (.iinc 3 1, 3) := by decide +kernel
theorem dX3_reckonInOrder_67 : decode cX3_reckonInOrder 67 = .ok (.goto (-21), 3) := by decide +kernel
theorem dX3_reckonInOrder_70 : decode cX3_reckonInOrder 70 = .ok (.iinc 2 1, 3) := by decide +kernel
theorem dX3_reckonInOrder_73 : decode cX3_reckonInOrder 73 = .ok (.goto (-64), 3) := by decide +kernel
theorem dX3_reckonInOrder_76 : decode cX3_reckonInOrder 76 = .ok (.return_, 1) := by decide +kernel
theorem dX3_reckonByHalves_0 : decode cX3_reckonByHalves 0 = .ok (.aload_n 1, 1) := by decide +kernel
theorem dX3_reckonByHalves_1 : decode cX3_reckonByHalves 1 = .ok (.iconst 0, 1) := by decide +kernel
theorem dX3_reckonByHalves_2 : decode cX3_reckonByHalves 2 = .ok (.aload_n 1, 1) := by decide +kernel
theorem dX3_reckonByHalves_3 : decode cX3_reckonByHalves 3 = .ok (.getfield 30, 3) := by decide +kernel
theorem dX3_reckonByHalves_6 : decode cX3_reckonByHalves 6 = .ok (.iconst 0, 1) := by decide +kernel
theorem dX3_reckonByHalves_7 : decode cX3_reckonByHalves 7 = .ok (.iconst 0, 1) := by decide +kernel
theorem dX3_reckonByHalves_8 : decode cX3_reckonByHalves 8 = .ok (.aload_n 0, 1) := by decide +kernel
theorem dX3_reckonByHalves_9 : decode cX3_reckonByHalves 9 = .ok (.getfield 23, 3) := by decide +kernel
theorem dX3_reckonByHalves_12 : decode cX3_reckonByHalves 12 = .ok (.invokestatic 48, 3) := by decide +kernel
theorem dX3_reckonByHalves_15 : decode cX3_reckonByHalves 15 = .ok (.return_, 1) := by decide +kernel
theorem dX3_inOrder_0 : decode cX3_inOrder 0 = .ok (.iload_n 1, 1) := by decide +kernel
theorem dX3_inOrder_1 : decode cX3_inOrder 1 = .ok (.invokestatic 52, 3) := by decide +kernel
theorem dX3_inOrder_4 : decode cX3_inOrder 4 = .ok (.ifCond .eq 23, 3) := by decide +kernel
theorem dX3_inOrder_7 : decode cX3_inOrder 7 = .ok (.iload_n 2, 1) := by decide +kernel
theorem dX3_inOrder_8 : decode cX3_inOrder 8 = .ok (.invokestatic 52, 3) := by decide +kernel
theorem dX3_inOrder_11 : decode cX3_inOrder 11 = .ok (.ifCond .eq 16, 3) := by decide +kernel
theorem dX3_inOrder_14 : decode cX3_inOrder 14 = .ok (.aload_n 0, 1) := by decide +kernel
theorem dX3_inOrder_15 : decode cX3_inOrder 15 = .ok (.getfield 11, 3) := by decide +kernel
theorem dX3_inOrder_18 : decode cX3_inOrder 18 = .ok (.iload_n 1, 1) := by decide +kernel
theorem dX3_inOrder_19 : decode cX3_inOrder 19 = .ok (.iconst 4, 1) := by decide +kernel
theorem dX3_inOrder_20 : decode cX3_inOrder 20 = .ok (.imul, 1) := by decide +kernel
theorem dX3_inOrder_21 : decode cX3_inOrder 21 = .ok (.iload_n 2, 1) := by decide +kernel
theorem dX3_inOrder_22 : decode cX3_inOrder 22 = .ok (.iadd, 1) := by decide +kernel
theorem dX3_inOrder_23 : decode cX3_inOrder 23 = .ok (.iaload, 1) := by decide +kernel
theorem dX3_inOrder_24 : decode cX3_inOrder 24 = .ok (.goto 4, 3) := by decide +kernel
theorem dX3_inOrder_27 : decode cX3_inOrder 27 = .ok (.iconst 0, 1) := by decide +kernel
theorem dX3_inOrder_28 : decode cX3_inOrder 28 = .ok (.ireturn, 1) := by decide +kernel
theorem dX3_byHalves_0 : decode cX3_byHalves 0 = .ok (.iload_n 1, 1) := by decide +kernel
theorem dX3_byHalves_1 : decode cX3_byHalves 1 = .ok (.invokestatic 52, 3) := by decide +kernel
theorem dX3_byHalves_4 : decode cX3_byHalves 4 = .ok (.ifCond .eq 25, 3) := by decide +kernel
theorem dX3_byHalves_7 : decode cX3_byHalves 7 = .ok (.iload_n 2, 1) := by decide +kernel
theorem dX3_byHalves_8 : decode cX3_byHalves 8 = .ok (.invokestatic 52, 3) := by decide +kernel
theorem dX3_byHalves_11 : decode cX3_byHalves 11 = .ok (.ifCond .eq 18, 3) := by decide +kernel
theorem dX3_byHalves_14 : decode cX3_byHalves 14 = .ok (.aload_n 0, 1) := by decide +kernel
theorem dX3_byHalves_15 : decode cX3_byHalves 15 = .ok (.getfield 23, 3) := by decide +kernel
theorem dX3_byHalves_18 : decode cX3_byHalves 18 = .ok (.iconst 0, 1) := by decide +kernel
theorem dX3_byHalves_19 : decode cX3_byHalves 19 = .ok (.aaload, 1) := by decide +kernel
theorem dX3_byHalves_20 : decode cX3_byHalves 20 = .ok (.iload_n 1, 1) := by decide +kernel
theorem dX3_byHalves_21 : decode cX3_byHalves 21 = .ok (.iconst 4, 1) := by decide +kernel
theorem dX3_byHalves_22 : decode cX3_byHalves 22 = .ok (.imul, 1) := by decide +kernel
theorem dX3_byHalves_23 : decode cX3_byHalves 23 = .ok (.iload_n 2, 1) := by decide +kernel
theorem dX3_byHalves_24 : decode cX3_byHalves 24 = .ok (.iadd, 1) := by decide +kernel
theorem dX3_byHalves_25 : decode cX3_byHalves 25 = .ok (.iaload, 1) := by decide +kernel
theorem dX3_byHalves_26 : decode cX3_byHalves 26 = .ok (.goto 4, 3) := by decide +kernel
theorem dX3_byHalves_29 : decode cX3_byHalves 29 = .ok (.iconst 0, 1) := by decide +kernel
theorem dX3_byHalves_30 : decode cX3_byHalves 30 = .ok (.ireturn, 1) := by decide +kernel
theorem dX3_halve_0 : decode cX3_halve 0 = .ok (.iload_n 3, 1) := by decide +kernel
theorem dX3_halve_1 : decode cX3_halve 1 = .ok (.bipush 8, 2) := by decide +kernel
theorem dX3_halve_3 : decode cX3_halve 3 = .ok (.if_icmp .ge 16, 3) := by decide +kernel
theorem dX3_halve_6 : decode cX3_halve 6 = .ok (.iload 4, 2) := by decide +kernel
theorem dX3_halve_8 : decode cX3_halve 8 = .ok (.ifCond .lt 11, 3) := by decide +kernel
theorem dX3_halve_11 : decode cX3_halve 11 = .ok (.iload 4, 2) := by decide +kernel
theorem dX3_halve_13 : decode cX3_halve 13 = .ok (.aload 5, 2) := by decide +kernel
theorem dX3_halve_15 : decode cX3_halve 15 = .ok (.arraylength, 1) := by decide +kernel
theorem dX3_halve_16 : decode cX3_halve 16 = .ok (.if_icmp .lt 4, 3) := by decide +kernel
theorem dX3_halve_19 : decode cX3_halve 19 = .ok (.return_, 1) := by decide +kernel
theorem dX3_halve_20 : decode cX3_halve 20 = .ok (.iload_n 2, 1) := by decide +kernel
theorem dX3_halve_21 : decode cX3_halve 21 = .ok (.iload_n 1, 1) := by decide +kernel
theorem dX3_halve_22 : decode cX3_halve 22 = .ok (.isub, 1) := by decide +kernel
theorem dX3_halve_23 : decode cX3_halve 23 = .ok (.ifCond .gt 12, 3) := by decide +kernel
theorem dX3_halve_26 : decode cX3_halve 26 = .ok (.aload 5, 2) := by decide +kernel
theorem dX3_halve_28 : decode cX3_halve 28 = .ok (.iload 4, 2) := by decide +kernel
theorem dX3_halve_30 : decode cX3_halve 30 = .ok (.aaload, 1) := by decide +kernel
theorem dX3_halve_31 : decode cX3_halve 31 = .ok (.invokestatic 26, 3) := by decide +kernel
theorem dX3_halve_34 : decode cX3_halve 34 = .ok (.return_, 1) := by decide +kernel
theorem dX3_halve_35 : decode cX3_halve 35 = .ok (.iload_n 2, 1) := by decide +kernel
theorem dX3_halve_36 : decode cX3_halve 36 = .ok (.iload_n 1, 1) := by decide +kernel
theorem dX3_halve_37 : decode cX3_halve 37 = .ok (.isub, 1) := by decide +kernel
theorem dX3_halve_38 : decode cX3_halve 38 = .ok (.iconst 1, 1) := by decide +kernel
theorem dX3_halve_39 : decode cX3_halve 39 = .ok (.if_icmp .ne 17, 3) := by decide +kernel
theorem dX3_halve_42 : decode cX3_halve 42 = .ok (.aload_n 0, 1) := by decide +kernel
theorem dX3_halve_43 : decode cX3_halve 43 = .ok (.iload_n 1, 1) := by decide +kernel
theorem dX3_halve_44 : decode cX3_halve 44 = .ok (.invokevirtual 36, 3) := by decide +kernel
theorem dX3_halve_47 : decode cX3_halve 47 = .ok (.aload 5, 2) := by decide +kernel
theorem dX3_halve_49 : decode cX3_halve 49 = .ok (.iload 4, 2) := by decide +kernel
theorem dX3_halve_51 : decode cX3_halve 51 = .ok (.aaload, 1) := by decide +kernel
theorem dX3_halve_52 : decode cX3_halve 52 = .ok (.invokestatic 40, 3) := by decide +kernel
theorem dX3_halve_55 : decode cX3_halve 55 = .ok (.return_, 1) := by decide +kernel
theorem dX3_halve_56 : decode cX3_halve 56 = .ok (.iload_n 1, 1) := by decide +kernel
theorem dX3_halve_57 : decode cX3_halve 57 = .ok (.iload_n 2, 1) := by decide +kernel
theorem dX3_halve_58 : decode cX3_halve 58 = .ok (.iload_n 1, 1) := by decide +kernel
theorem dX3_halve_59 : decode cX3_halve 59 = .ok (.isub, 1) := by decide +kernel
theorem dX3_halve_60 : decode cX3_halve 60 = .ok (.iconst 2, 1) := by decide +kernel
theorem dX3_halve_61 : decode cX3_halve 61 = .ok (.idiv, 1) := by decide +kernel
theorem dX3_halve_62 : decode cX3_halve 62 = .ok (.iadd, 1) := by decide +kernel
theorem dX3_halve_63 : decode cX3_halve 63 = .ok (.istore 6, 2) := by decide +kernel
theorem dX3_halve_65 : decode cX3_halve 65 = .ok (.iconst 2, 1) := by decide +kernel
theorem dX3_halve_66 : decode cX3_halve 66 = .ok (.iload_n 3, 1) := by decide +kernel
theorem dX3_halve_67 : decode cX3_halve 67 = .ok (.iconst 1, 1) := by decide +kernel
theorem dX3_halve_68 : decode cX3_halve 68 = .ok (.iadd, 1) := by decide +kernel
theorem dX3_halve_69 : decode cX3_halve 69 = .ok (.imul, 1) := by decide +kernel
theorem dX3_halve_70 : decode cX3_halve 70 = .ok (.istore 7, 2) := by decide +kernel
theorem dX3_halve_72 : decode cX3_halve 72 = .ok (.iload 7, 2) := by decide +kernel
theorem dX3_halve_74 : decode cX3_halve 74 = .ok (.iconst 1, 1) := by decide +kernel
theorem dX3_halve_75 : decode cX3_halve 75 = .ok (.iadd, 1) := by decide +kernel
theorem dX3_halve_76 : decode cX3_halve 76 = .ok (.aload 5, 2) := by decide +kernel
theorem dX3_halve_78 : decode cX3_halve 78 = .ok (.arraylength, 1) := by decide +kernel
theorem dX3_halve_79 : decode cX3_halve 79 = .ok (.if_icmp .lt 4, 3) := by decide +kernel
theorem dX3_halve_82 : decode cX3_halve 82 = .ok (.return_, 1) := by decide +kernel
theorem dX3_halve_83 : decode cX3_halve 83 = .ok (.aload_n 0, 1) := by decide +kernel
theorem dX3_halve_84 : decode cX3_halve 84 = .ok (.iload_n 1, 1) := by decide +kernel
theorem dX3_halve_85 : decode cX3_halve 85 = .ok (.iload 6, 2) := by decide +kernel
theorem dX3_halve_87 : decode cX3_halve 87 = .ok (.iload_n 3, 1) := by decide +kernel
theorem dX3_halve_88 : decode cX3_halve 88 = .ok (.iconst 1, 1) := by decide +kernel
theorem dX3_halve_89 : decode cX3_halve 89 = .ok (.iadd, 1) := by decide +kernel
theorem dX3_halve_90 : decode cX3_halve 90 = .ok (.iload 7, 2) := by decide +kernel
theorem dX3_halve_92 : decode cX3_halve 92 = .ok (.aload 5, 2) := by decide +kernel
theorem dX3_halve_94 : decode cX3_halve 94 = .ok (.invokestatic 48, 3) := by decide +kernel
theorem dX3_halve_97 : decode cX3_halve 97 = .ok (.aload_n 0, 1) := by decide +kernel
theorem dX3_halve_98 : decode cX3_halve 98 = .ok (.iload 6, 2) := by decide +kernel
theorem dX3_halve_100 : decode cX3_halve 100 = .ok (.iload_n 2, 1) := by decide +kernel
theorem dX3_halve_101 : decode cX3_halve 101 = .ok (.iload_n 3, 1) := by decide +kernel
theorem dX3_halve_102 : decode cX3_halve 102 = .ok (.iconst 1, 1) := by decide +kernel
theorem dX3_halve_103 : decode cX3_halve 103 = .ok (.iadd, 1) := by decide +kernel
theorem dX3_halve_104 : decode cX3_halve 104 = .ok (.iload 7, 2) := by decide +kernel
theorem dX3_halve_106 : decode cX3_halve 106 = .ok (.iconst 1, 1) := by decide +kernel
theorem dX3_halve_107 : decode cX3_halve 107 = .ok (.iadd, 1) := by decide +kernel
theorem dX3_halve_108 : decode cX3_halve 108 = .ok (.aload 5, 2) := by decide +kernel
theorem dX3_halve_110 : decode cX3_halve 110 = .ok (.invokestatic 48, 3) := by decide +kernel
theorem dX3_halve_113 : decode cX3_halve 113 = .ok (.aload 5, 2) := by decide +kernel
theorem dX3_halve_115 : decode cX3_halve 115 = .ok (.iload 7, 2) := by decide +kernel
theorem dX3_halve_117 : decode cX3_halve 117 = .ok (.aaload, 1) := by decide +kernel
theorem dX3_halve_118 : decode cX3_halve 118 = .ok (.aload 5, 2) := by decide +kernel
theorem dX3_halve_120 : decode cX3_halve 120 = .ok (.iload 7, 2) := by decide +kernel
theorem dX3_halve_122 : decode cX3_halve 122 = .ok (.iconst 1, 1) := by decide +kernel
theorem dX3_halve_123 : decode cX3_halve 123 = .ok (.iadd, 1) := by decide +kernel
theorem dX3_halve_124 : decode cX3_halve 124 = .ok (.aaload, 1) := by decide +kernel
theorem dX3_halve_125 : decode cX3_halve 125 = .ok (.aload 5, 2) := by decide +kernel
theorem dX3_halve_127 : decode cX3_halve 127 = .ok (.iload 4, 2) := by decide +kernel
theorem dX3_halve_129 : decode cX3_halve 129 = .ok (.aaload, 1) := by decide +kernel
theorem dX3_halve_130 : decode cX3_halve 130 = .ok (.invokestatic 44, 3) := by decide +kernel
theorem dX3_halve_133 : decode cX3_halve 133 = .ok (.return_, 1) := by decide +kernel
theorem dX3_fillWithNone_0 : decode cX3_fillWithNone 0 = .ok (.iconst 0, 1) := by decide +kernel
theorem dX3_fillWithNone_1 : decode cX3_fillWithNone 1 = .ok (.istore_n 1, 1) := by decide +kernel
theorem dX3_fillWithNone_2 : decode cX3_fillWithNone 2 = .ok (.iload_n 1, 1) := by decide +kernel
theorem dX3_fillWithNone_3 : decode cX3_fillWithNone 3 = .ok (.aload_n 0, 1) := by decide +kernel
theorem dX3_fillWithNone_4 : decode cX3_fillWithNone 4 = .ok (.arraylength, 1) := by decide +kernel
theorem dX3_fillWithNone_5 : decode cX3_fillWithNone 5 = .ok (.if_icmp .ge 23, 3) := by decide +kernel
theorem dX3_fillWithNone_8 : decode cX3_fillWithNone 8 = .ok (.aload_n 0, 1) := by decide +kernel
theorem dX3_fillWithNone_9 : decode cX3_fillWithNone 9 = .ok (.iload_n 1, 1) := by decide +kernel
theorem dX3_fillWithNone_10 : decode cX3_fillWithNone 10 = .ok (.iload_n 1, 1) := by decide +kernel
theorem dX3_fillWithNone_11 : decode cX3_fillWithNone 11 = .ok (.iconst 5, 1) := by decide +kernel
theorem dX3_fillWithNone_12 : decode cX3_fillWithNone 12 = .ok (.irem, 1) := by decide +kernel
theorem dX3_fillWithNone_13 : decode cX3_fillWithNone 13 = .ok (.ifCond .ne 7, 3) := by decide +kernel
theorem dX3_fillWithNone_16 : decode cX3_fillWithNone 16 = .ok (.iconst 1, 1) := by decide +kernel
theorem dX3_fillWithNone_17 : decode cX3_fillWithNone 17 = .ok (.goto 4, 3) := by decide +kernel
theorem dX3_fillWithNone_20 : decode cX3_fillWithNone 20 = .ok (.iconst 0, 1) := by decide +kernel
theorem dX3_fillWithNone_21 : decode cX3_fillWithNone 21 = .ok (.iastore, 1) := by decide +kernel
theorem dX3_fillWithNone_22 : decode cX3_fillWithNone 22 = .ok (.iinc 1 1, 3) := by decide +kernel
theorem dX3_fillWithNone_25 : decode cX3_fillWithNone 25 = .ok (.goto (-23), 3) := by decide +kernel
theorem dX3_fillWithNone_28 : decode cX3_fillWithNone 28 = .ok (.return_, 1) := by decide +kernel
theorem dX3_fillWithOne_0 : decode cX3_fillWithOne 0 = .ok (.aload_n 1, 1) := by decide +kernel
theorem dX3_fillWithOne_1 : decode cX3_fillWithOne 1 = .ok (.invokestatic 26, 3) := by decide +kernel
theorem dX3_fillWithOne_4 : decode cX3_fillWithOne 4 = .ok (.iload_n 0, 1) := by decide +kernel
theorem dX3_fillWithOne_5 : decode cX3_fillWithOne 5 = .ok (.invokestatic 56, 3) := by decide +kernel
theorem dX3_fillWithOne_8 : decode cX3_fillWithOne 8 = .ok (.istore_n 2, 1) := by decide +kernel
theorem dX3_fillWithOne_9 : decode cX3_fillWithOne 9 = .ok (.iload_n 2, 1) := by decide +kernel
theorem dX3_fillWithOne_10 : decode cX3_fillWithOne 10 = .ok (.iconst 1, 1) := by decide +kernel
theorem dX3_fillWithOne_11 : decode cX3_fillWithOne 11 = .ok (.if_icmp .lt 15, 3) := by decide +kernel
theorem dX3_fillWithOne_14 : decode cX3_fillWithOne 14 = .ok (.iload_n 2, 1) := by decide +kernel
theorem dX3_fillWithOne_15 : decode cX3_fillWithOne 15 = .ok (.iconst 3, 1) := by decide +kernel
theorem dX3_fillWithOne_16 : decode cX3_fillWithOne 16 = .ok (.if_icmp .gt 10, 3) := by decide +kernel
theorem dX3_fillWithOne_19 : decode cX3_fillWithOne 19 = .ok (.aload_n 1, 1) := by decide +kernel
theorem dX3_fillWithOne_20 : decode cX3_fillWithOne 20 = .ok (.arraylength, 1) := by decide +kernel
theorem dX3_fillWithOne_21 : decode cX3_fillWithOne 21 = .ok (.bipush 16, 2) := by decide +kernel
theorem dX3_fillWithOne_23 : decode cX3_fillWithOne 23 = .ok (.if_icmp .ge 4, 3) := by decide +kernel
theorem dX3_fillWithOne_26 : decode cX3_fillWithOne 26 = .ok (.return_, 1) := by decide +kernel
theorem dX3_fillWithOne_27 : decode cX3_fillWithOne 27 = .ok (.iload_n 2, 1) := by decide +kernel
theorem dX3_fillWithOne_28 : decode cX3_fillWithOne 28 = .ok (.iconst 1, 1) := by decide +kernel
theorem dX3_fillWithOne_29 : decode cX3_fillWithOne 29 = .ok (.isub, 1) := by decide +kernel
theorem dX3_fillWithOne_30 : decode cX3_fillWithOne 30 = .ok (.iconst 4, 1) := by decide +kernel
theorem dX3_fillWithOne_31 : decode cX3_fillWithOne 31 = .ok (.imul, 1) := by decide +kernel
theorem dX3_fillWithOne_32 : decode cX3_fillWithOne 32 = .ok (.iload_n 2, 1) := by decide +kernel
theorem dX3_fillWithOne_33 : decode cX3_fillWithOne 33 = .ok (.iadd, 1) := by decide +kernel
theorem dX3_fillWithOne_34 : decode cX3_fillWithOne 34 = .ok (.iconst 1, 1) := by decide +kernel
theorem dX3_fillWithOne_35 : decode cX3_fillWithOne 35 = .ok (.isub, 1) := by decide +kernel
theorem dX3_fillWithOne_36 : decode cX3_fillWithOne 36 = .ok (.istore_n 3, 1) := by decide +kernel
theorem dX3_fillWithOne_37 : decode cX3_fillWithOne 37 = .ok (.iload_n 3, 1) := by decide +kernel
theorem dX3_fillWithOne_38 : decode cX3_fillWithOne 38 = .ok (.iconst 4, 1) := by decide +kernel
theorem dX3_fillWithOne_39 : decode cX3_fillWithOne 39 = .ok (.iadd, 1) := by decide +kernel
theorem dX3_fillWithOne_40 : decode cX3_fillWithOne 40 = .ok (.istore 4, 2) := by decide +kernel
theorem dX3_fillWithOne_42 : decode cX3_fillWithOne 42 = .ok (.iload_n 0, 1) := by decide +kernel
theorem dX3_fillWithOne_43 : decode cX3_fillWithOne 43 = .ok (.ifCond .le 30, 3) := by decide +kernel
theorem dX3_fillWithOne_46 : decode cX3_fillWithOne 46 = .ok (.aload_n 1, 1) := by decide +kernel
theorem dX3_fillWithOne_47 : decode cX3_fillWithOne 47 = .ok (.iload_n 3, 1) := by decide +kernel
theorem dX3_fillWithOne_48 : decode cX3_fillWithOne 48 = .ok (.sipush 10006, 3) := by decide +kernel
theorem dX3_fillWithOne_51 : decode cX3_fillWithOne 51 = .ok (.iastore, 1) := by decide +kernel
theorem dX3_fillWithOne_52 : decode cX3_fillWithOne 52 = .ok (.aload_n 1, 1) := by decide +kernel
theorem dX3_fillWithOne_53 : decode cX3_fillWithOne 53 = .ok (.iload_n 3, 1) := by decide +kernel
theorem dX3_fillWithOne_54 : decode cX3_fillWithOne 54 = .ok (.iconst 1, 1) := by decide +kernel
theorem dX3_fillWithOne_55 : decode cX3_fillWithOne 55 = .ok (.iadd, 1) := by decide +kernel
theorem dX3_fillWithOne_56 : decode cX3_fillWithOne 56 = .ok (.iconst 2, 1) := by decide +kernel
theorem dX3_fillWithOne_57 : decode cX3_fillWithOne 57 = .ok (.iastore, 1) := by decide +kernel
theorem dX3_fillWithOne_58 : decode cX3_fillWithOne 58 = .ok (.aload_n 1, 1) := by decide +kernel
theorem dX3_fillWithOne_59 : decode cX3_fillWithOne 59 = .ok (.iload 4, 2) := by decide +kernel
theorem dX3_fillWithOne_61 : decode cX3_fillWithOne 61 = .ok (.iconst 1, 1) := by decide +kernel
theorem dX3_fillWithOne_62 : decode cX3_fillWithOne 62 = .ok (.iastore, 1) := by decide +kernel
theorem dX3_fillWithOne_63 : decode cX3_fillWithOne 63 = .ok (.aload_n 1, 1) := by decide +kernel
theorem dX3_fillWithOne_64 : decode cX3_fillWithOne 64 = .ok (.iload 4, 2) := by decide +kernel
theorem dX3_fillWithOne_66 : decode cX3_fillWithOne 66 = .ok (.iconst 1, 1) := by decide +kernel
theorem dX3_fillWithOne_67 : decode cX3_fillWithOne 67 = .ok (.iadd, 1) := by decide +kernel
theorem dX3_fillWithOne_68 : decode cX3_fillWithOne 68 = .ok (.iconst 0, 1) := by decide +kernel
theorem dX3_fillWithOne_69 : decode cX3_fillWithOne 69 = .ok (.iastore, 1) := by decide +kernel
theorem dX3_fillWithOne_70 : decode cX3_fillWithOne 70 = .ok (.goto 29, 3) := by decide +kernel
theorem dX3_fillWithOne_73 : decode cX3_fillWithOne 73 = .ok (.aload_n 1, 1) := by decide +kernel
theorem dX3_fillWithOne_74 : decode cX3_fillWithOne 74 = .ok (.iload_n 3, 1) := by decide +kernel
theorem dX3_fillWithOne_75 : decode cX3_fillWithOne 75 = .ok (.iconst 0, 1) := by decide +kernel
theorem dX3_fillWithOne_76 : decode cX3_fillWithOne 76 = .ok (.iastore, 1) := by decide +kernel
theorem dX3_fillWithOne_77 : decode cX3_fillWithOne 77 = .ok (.aload_n 1, 1) := by decide +kernel
theorem dX3_fillWithOne_78 : decode cX3_fillWithOne 78 = .ok (.iload_n 3, 1) := by decide +kernel
theorem dX3_fillWithOne_79 : decode cX3_fillWithOne 79 = .ok (.iconst 1, 1) := by decide +kernel
theorem dX3_fillWithOne_80 : decode cX3_fillWithOne 80 = .ok (.iadd, 1) := by decide +kernel
theorem dX3_fillWithOne_81 : decode cX3_fillWithOne 81 = .ok (.iconst 1, 1) := by decide +kernel
theorem dX3_fillWithOne_82 : decode cX3_fillWithOne 82 = .ok (.iastore, 1) := by decide +kernel
theorem dX3_fillWithOne_83 : decode cX3_fillWithOne 83 = .ok (.aload_n 1, 1) := by decide +kernel
theorem dX3_fillWithOne_84 : decode cX3_fillWithOne 84 = .ok (.iload 4, 2) := by decide +kernel
theorem dX3_fillWithOne_86 : decode cX3_fillWithOne 86 = .ok (.sipush 5004, 3) := by decide +kernel
theorem dX3_fillWithOne_89 : decode cX3_fillWithOne 89 = .ok (.iastore, 1) := by decide +kernel
theorem dX3_fillWithOne_90 : decode cX3_fillWithOne 90 = .ok (.aload_n 1, 1) := by decide +kernel
theorem dX3_fillWithOne_91 : decode cX3_fillWithOne 91 = .ok (.iload 4, 2) := by decide +kernel
theorem dX3_fillWithOne_93 : decode cX3_fillWithOne 93 = .ok (.iconst 1, 1) := by decide +kernel
theorem dX3_fillWithOne_94 : decode cX3_fillWithOne 94 = .ok (.iadd, 1) := by decide +kernel
theorem dX3_fillWithOne_95 : decode cX3_fillWithOne 95 = .ok (.sipush 5004, 3) := by decide +kernel
theorem dX3_fillWithOne_98 : decode cX3_fillWithOne 98 = .ok (.iastore, 1) := by decide +kernel
theorem dX3_fillWithOne_99 : decode cX3_fillWithOne 99 = .ok (.return_, 1) := by decide +kernel
theorem dX3_multiply_0 : decode cX3_multiply 0 = .ok (.aload_n 0, 1) := by decide +kernel
theorem dX3_multiply_1 : decode cX3_multiply 1 = .ok (.arraylength, 1) := by decide +kernel
theorem dX3_multiply_2 : decode cX3_multiply 2 = .ok (.bipush 16, 2) := by decide +kernel
theorem dX3_multiply_4 : decode cX3_multiply 4 = .ok (.if_icmp .lt 17, 3) := by decide +kernel
theorem dX3_multiply_7 : decode cX3_multiply 7 = .ok (.aload_n 1, 1) := by decide +kernel
theorem dX3_multiply_8 : decode cX3_multiply 8 = .ok (.arraylength, 1) := by decide +kernel
theorem dX3_multiply_9 : decode cX3_multiply 9 = .ok (.bipush 16, 2) := by decide +kernel
theorem dX3_multiply_11 : decode cX3_multiply 11 = .ok (.if_icmp .lt 10, 3) := by decide +kernel
theorem dX3_multiply_14 : decode cX3_multiply 14 = .ok (.aload_n 2, 1) := by decide +kernel
theorem dX3_multiply_15 : decode cX3_multiply 15 = .ok (.arraylength, 1) := by decide +kernel
theorem dX3_multiply_16 : decode cX3_multiply 16 = .ok (.bipush 16, 2) := by decide +kernel
theorem dX3_multiply_18 : decode cX3_multiply 18 = .ok (.if_icmp .ge 4, 3) := by decide +kernel
theorem dX3_multiply_21 : decode cX3_multiply 21 = .ok (.return_, 1) := by decide +kernel
theorem dX3_multiply_22 : decode cX3_multiply 22 = .ok (.iconst 0, 1) := by decide +kernel
theorem dX3_multiply_23 : decode cX3_multiply 23 = .ok (.istore_n 3, 1) := by decide +kernel
theorem dX3_multiply_24 : decode cX3_multiply 24 = .ok (.iload_n 3, 1) := by decide +kernel
theorem dX3_multiply_25 : decode cX3_multiply 25 = .ok (.iconst 4, 1) := by decide +kernel
theorem dX3_multiply_26 : decode cX3_multiply 26 = .ok (.if_icmp .ge 79, 3) := by decide +kernel
theorem dX3_multiply_29 : decode cX3_multiply 29 = .ok (.iconst 0, 1) := by decide +kernel
theorem dX3_multiply_30 : decode cX3_multiply 30 = .ok (.istore 4, 2) := by decide +kernel
theorem dX3_multiply_32 : decode cX3_multiply 32 = .ok (.iload 4, 2) := by decide +kernel
theorem dX3_multiply_34 : decode cX3_multiply 34 = .ok (.iconst 4, 1) := by decide +kernel
theorem dX3_multiply_35 : decode cX3_multiply 35 = .ok (.if_icmp .ge 64, 3) := by decide +kernel
theorem dX3_multiply_38 : decode cX3_multiply 38 = .ok (.iconst 0, 1) := by decide +kernel
theorem dX3_multiply_39 : decode cX3_multiply 39 = .ok (.istore 5, 2) := by decide +kernel
theorem dX3_multiply_41 : decode cX3_multiply 41 = .ok (.iconst 0, 1) := by decide +kernel
theorem dX3_multiply_42 : decode cX3_multiply 42 = .ok (.istore 6, 2) := by decide +kernel
theorem dX3_multiply_44 : decode cX3_multiply 44 = .ok (.iload 6, 2) := by decide +kernel
theorem dX3_multiply_46 : decode cX3_multiply 46 = .ok (.iconst 4, 1) := by decide +kernel
theorem dX3_multiply_47 : decode cX3_multiply 47 = .ok (.if_icmp .ge 32, 3) := by decide +kernel
theorem dX3_multiply_50 : decode cX3_multiply 50 = .ok (.iload 5, 2) := by decide +kernel
theorem dX3_multiply_52 : decode cX3_multiply 52 = .ok (.aload_n 0, 1) := by decide +kernel
theorem dX3_multiply_53 : decode cX3_multiply 53 = .ok (.iload_n 3, 1) := by decide +kernel
theorem dX3_multiply_54 : decode cX3_multiply 54 = .ok (.iconst 4, 1) := by decide +kernel
theorem dX3_multiply_55 : decode cX3_multiply 55 = .ok (.imul, 1) := by decide +kernel
theorem dX3_multiply_56 : decode cX3_multiply 56 = .ok (.iload 6, 2) := by decide +kernel
theorem dX3_multiply_58 : decode cX3_multiply 58 = .ok (.iadd, 1) := by decide +kernel
theorem dX3_multiply_59 : decode cX3_multiply 59 = .ok (.iaload, 1) := by decide +kernel
theorem dX3_multiply_60 : decode cX3_multiply 60 = .ok (.aload_n 1, 1) := by decide +kernel
theorem dX3_multiply_61 : decode cX3_multiply 61 = .ok (.iload 6, 2) := by decide +kernel
theorem dX3_multiply_63 : decode cX3_multiply 63 = .ok (.iconst 4, 1) := by decide +kernel
theorem dX3_multiply_64 : decode cX3_multiply 64 = .ok (.imul, 1) := by decide +kernel
theorem dX3_multiply_65 : decode cX3_multiply 65 = .ok (.iload 4, 2) := by decide +kernel
theorem dX3_multiply_67 : decode cX3_multiply 67 = .ok (.iadd, 1) := by decide +kernel
theorem dX3_multiply_68 : decode cX3_multiply 68 = .ok (.iaload, 1) := by decide +kernel
theorem dX3_multiply_69 : decode cX3_multiply 69 = .ok (.imul, 1) := by decide +kernel
theorem dX3_multiply_70 : decode cX3_multiply 70 = .ok (.iadd, 1) := by decide +kernel
theorem dX3_multiply_71 : decode cX3_multiply 71 = .ok (.istore 5, 2) := by decide +kernel
theorem dX3_multiply_73 : decode cX3_multiply 73 = .ok (.iinc 6 1, 3) := by decide +kernel
theorem dX3_multiply_76 : decode cX3_multiply 76 = .ok (.goto (-32), 3) := by decide +kernel
theorem dX3_multiply_79 : decode cX3_multiply 79 = .ok (.aload_n 2, 1) := by decide +kernel
theorem dX3_multiply_80 : decode cX3_multiply 80 = .ok (.iload_n 3, 1) := by decide +kernel
theorem dX3_multiply_81 : decode cX3_multiply 81 = .ok (.iconst 4, 1) := by decide +kernel
theorem dX3_multiply_82 : decode cX3_multiply 82 = .ok (.imul, 1) := by decide +kernel
theorem dX3_multiply_83 : decode cX3_multiply 83 = .ok (.iload 4, 2) := by decide +kernel
theorem dX3_multiply_85 : decode cX3_multiply 85 = .ok (.iadd, 1) := by decide +kernel
theorem dX3_multiply_86 : decode cX3_multiply 86 = .ok (.iload 5, 2) := by decide +kernel
theorem dX3_multiply_88 : decode cX3_multiply 88 = .ok (.sipush 10007, 3) := by decide +kernel
theorem dX3_multiply_91 : decode cX3_multiply 91 = .ok (.irem, 1) := by decide +kernel
theorem dX3_multiply_92 : decode cX3_multiply 92 = .ok (.iastore, 1) := by decide +kernel
theorem dX3_multiply_93 : decode cX3_multiply 93 = .ok (.iinc 4 1, 3) := by decide +kernel
theorem dX3_multiply_96 : decode cX3_multiply 96 = .ok (.goto (-64), 3) := by decide +kernel
theorem dX3_multiply_99 : decode cX3_multiply 99 = .ok (.iinc 3 1, 3) := by decide +kernel
theorem dX3_multiply_102 : decode cX3_multiply 102 = .ok (.goto (-78), 3) := by decide +kernel
theorem dX3_multiply_105 : decode cX3_multiply 105 = .ok (.return_, 1) := by decide +kernel
theorem dX4_reasonAgainst_0 : decode cX4_reasonAgainst 0 = .ok (.iload_n 1, 1) := by decide +kernel
theorem dX4_reasonAgainst_1 : decode cX4_reasonAgainst 1 = .ok (.iconst 2, 1) := by decide +kernel
theorem dX4_reasonAgainst_2 : decode cX4_reasonAgainst 2 = .ok (.if_icmp .ne 7, 3) := by decide +kernel
theorem dX4_reasonAgainst_5 : decode cX4_reasonAgainst 5 = .ok (.iconst 3, 1) := by decide +kernel
theorem dX4_reasonAgainst_6 : decode cX4_reasonAgainst 6 = .ok (.goto 4, 3) := by decide +kernel
theorem dX4_reasonAgainst_9 : decode cX4_reasonAgainst 9 = .ok (.iconst 2, 1) := by decide +kernel
theorem dX4_reasonAgainst_10 : decode cX4_reasonAgainst 10 = .ok (.istore_n 3, 1) := by decide +kernel
theorem dX4_reasonAgainst_11 : decode cX4_reasonAgainst 11 = .ok (.iload_n 2, 1) := by decide +kernel
theorem dX4_reasonAgainst_12 : decode cX4_reasonAgainst 12 = .ok (.aload_n 0, 1) := by decide +kernel
theorem dX4_reasonAgainst_13 : decode cX4_reasonAgainst 13 = .ok (.getfield 9, 3) := by decide +kernel
theorem dX4_reasonAgainst_16 : decode cX4_reasonAgainst 16 = .ok (.iload_n 3, 1) := by decide +kernel
theorem dX4_reasonAgainst_17 : decode cX4_reasonAgainst 17 = .ok (.isub, 1) := by decide +kernel
theorem dX4_reasonAgainst_18 : decode cX4_reasonAgainst 18 = .ok (.if_icmp .le 5, 3) := by decide +kernel
theorem dX4_reasonAgainst_21 : decode cX4_reasonAgainst 21 = .ok (.iconst 1, 1) := by decide +kernel
theorem dX4_reasonAgainst_22 : decode cX4_reasonAgainst 22 = .ok (.ireturn, 1) := by decide +kernel
theorem dX4_reasonAgainst_23 : decode cX4_reasonAgainst 23 = .ok (.aload_n 0, 1) := by decide +kernel
theorem dX4_reasonAgainst_24 : decode cX4_reasonAgainst 24 = .ok (.iload_n 2, 1) := by decide +kernel
theorem dX4_reasonAgainst_25 : decode cX4_reasonAgainst 25 = .ok (.invokevirtual 15, 3) := by decide +kernel
theorem dX4_reasonAgainst_28 : decode cX4_reasonAgainst 28 = .ok (.istore 4, 2) := by decide +kernel
theorem dX4_reasonAgainst_30 : decode cX4_reasonAgainst 30 = .ok (.aload_n 0, 1) := by decide +kernel
theorem dX4_reasonAgainst_31 : decode cX4_reasonAgainst 31 = .ok (.iload_n 2, 1) := by decide +kernel
theorem dX4_reasonAgainst_32 : decode cX4_reasonAgainst 32 = .ok (.iconst 1, 1) := by decide +kernel
theorem dX4_reasonAgainst_33 : decode cX4_reasonAgainst 33 = .ok (.iadd, 1) := by decide +kernel
theorem dX4_reasonAgainst_34 : decode cX4_reasonAgainst 34 = .ok (.invokevirtual 15, 3) := by decide +kernel
theorem dX4_reasonAgainst_37 : decode cX4_reasonAgainst 37 = .ok (.istore 5, 2) := by decide +kernel
theorem dX4_reasonAgainst_39 : decode cX4_reasonAgainst 39 = .ok (.iload_n 1, 1) := by decide +kernel
theorem dX4_reasonAgainst_40 : decode cX4_reasonAgainst 40 = .ok (.lookupswitch 70 #[(0, 28), (1, 36)], 28) := by decide +kernel
theorem dX4_reasonAgainst_68 : decode cX4_reasonAgainst 68 = .ok (.iload 4, 2) := by decide +kernel
theorem dX4_reasonAgainst_70 : decode cX4_reasonAgainst 70 = .ok (.iload 5, 2) := by decide +kernel
theorem dX4_reasonAgainst_72 : decode cX4_reasonAgainst 72 = .ok (.invokestatic 19, 3) := by decide +kernel
theorem dX4_reasonAgainst_75 : decode cX4_reasonAgainst 75 = .ok (.ireturn, 1) := by decide +kernel
theorem dX4_reasonAgainst_76 : decode cX4_reasonAgainst 76 = .ok (.iload 4, 2) := by decide +kernel
theorem dX4_reasonAgainst_78 : decode cX4_reasonAgainst 78 = .ok (.invokestatic 25, 3) := by decide +kernel
theorem dX4_reasonAgainst_81 : decode cX4_reasonAgainst 81 = .ok (.iload 5, 2) := by decide +kernel
theorem dX4_reasonAgainst_83 : decode cX4_reasonAgainst 83 = .ok (.invokestatic 25, 3) := by decide +kernel
theorem dX4_reasonAgainst_86 : decode cX4_reasonAgainst 86 = .ok (.iadd, 1) := by decide +kernel
theorem dX4_reasonAgainst_87 : decode cX4_reasonAgainst 87 = .ok (.iconst 4, 1) := by decide +kernel
theorem dX4_reasonAgainst_88 : decode cX4_reasonAgainst 88 = .ok (.if_icmp .ne 20, 3) := by decide +kernel
theorem dX4_reasonAgainst_91 : decode cX4_reasonAgainst 91 = .ok (.iload 4, 2) := by decide +kernel
theorem dX4_reasonAgainst_93 : decode cX4_reasonAgainst 93 = .ok (.invokestatic 25, 3) := by decide +kernel
theorem dX4_reasonAgainst_96 : decode cX4_reasonAgainst 96 = .ok (.iload 5, 2) := by decide +kernel
theorem dX4_reasonAgainst_98 : decode cX4_reasonAgainst 98 = .ok (.invokestatic 25, 3) := by decide +kernel
theorem dX4_reasonAgainst_101 : decode cX4_reasonAgainst 101 = .ok (.if_icmp .eq 7, 3) := by decide +kernel
theorem dX4_reasonAgainst_104 : decode cX4_reasonAgainst 104 = .ok (.iconst 0, 1) := by decide +kernel
theorem dX4_reasonAgainst_105 : decode cX4_reasonAgainst 105 = .ok (.goto 4, 3) := by decide +kernel
theorem dX4_reasonAgainst_108 : decode cX4_reasonAgainst 108 = .ok (.iconst 2, 1) := by decide +kernel
theorem dX4_reasonAgainst_109 : decode cX4_reasonAgainst 109 = .ok (.ireturn, 1) := by decide +kernel
theorem dX4_reasonAgainst_110 : decode cX4_reasonAgainst 110 = .ok (.iload 4, 2) := by decide +kernel
theorem dX4_reasonAgainst_112 : decode cX4_reasonAgainst 112 = .ok (.iload 5, 2) := by decide +kernel
theorem dX4_reasonAgainst_114 : decode cX4_reasonAgainst 114 = .ok (.aload_n 0, 1) := by decide +kernel
theorem dX4_reasonAgainst_115 : decode cX4_reasonAgainst 115 = .ok (.iload_n 2, 1) := by decide +kernel
theorem dX4_reasonAgainst_116 : decode cX4_reasonAgainst 116 = .ok (.iconst 2, 1) := by decide +kernel
theorem dX4_reasonAgainst_117 : decode cX4_reasonAgainst 117 = .ok (.iadd, 1) := by decide +kernel
theorem dX4_reasonAgainst_118 : decode cX4_reasonAgainst 118 = .ok (.invokevirtual 15, 3) := by decide +kernel
theorem dX4_reasonAgainst_121 : decode cX4_reasonAgainst 121 = .ok (.invokestatic 28, 3) := by decide +kernel
theorem dX4_reasonAgainst_124 : decode cX4_reasonAgainst 124 = .ok (.ireturn, 1) := by decide +kernel
theorem dX4_againstCancel_0 : decode cX4_againstCancel 0 = .ok (.iload_n 0, 1) := by decide +kernel
theorem dX4_againstCancel_1 : decode cX4_againstCancel 1 = .ok (.invokestatic 25, 3) := by decide +kernel
theorem dX4_againstCancel_4 : decode cX4_againstCancel 4 = .ok (.iload_n 1, 1) := by decide +kernel
theorem dX4_againstCancel_5 : decode cX4_againstCancel 5 = .ok (.invokestatic 25, 3) := by decide +kernel
theorem dX4_againstCancel_8 : decode cX4_againstCancel 8 = .ok (.if_icmp .eq 5, 3) := by decide +kernel
theorem dX4_againstCancel_11 : decode cX4_againstCancel 11 = .ok (.iconst 2, 1) := by decide +kernel
theorem dX4_againstCancel_12 : decode cX4_againstCancel 12 = .ok (.ireturn, 1) := by decide +kernel
theorem dX4_againstCancel_13 : decode cX4_againstCancel 13 = .ok (.iload_n 0, 1) := by decide +kernel
theorem dX4_againstCancel_14 : decode cX4_againstCancel 14 = .ok (.invokestatic 32, 3) := by decide +kernel
theorem dX4_againstCancel_17 : decode cX4_againstCancel 17 = .ok (.iload_n 1, 1) := by decide +kernel
theorem dX4_againstCancel_18 : decode cX4_againstCancel 18 = .ok (.invokestatic 32, 3) := by decide +kernel
theorem dX4_againstCancel_21 : decode cX4_againstCancel 21 = .ok (.if_icmp .ne 7, 3) := by decide +kernel
theorem dX4_againstCancel_24 : decode cX4_againstCancel 24 = .ok (.iconst 3, 1) := by decide +kernel
theorem dX4_againstCancel_25 : decode cX4_againstCancel 25 = .ok (.goto 4, 3) := by decide +kernel
theorem dX4_againstCancel_28 : decode cX4_againstCancel 28 = .ok (.iconst 0, 1) := by decide +kernel
theorem dX4_againstCancel_29 : decode cX4_againstCancel 29 = .ok (.ireturn, 1) := by decide +kernel
theorem dX4_againstThree_0 : decode cX4_againstThree 0 = .ok (.iload_n 0, 1) := by decide +kernel
theorem dX4_againstThree_1 : decode cX4_againstThree 1 = .ok (.invokestatic 25, 3) := by decide +kernel
theorem dX4_againstThree_4 : decode cX4_againstThree 4 = .ok (.iload_n 1, 1) := by decide +kernel
theorem dX4_againstThree_5 : decode cX4_againstThree 5 = .ok (.invokestatic 25, 3) := by decide +kernel
theorem dX4_againstThree_8 : decode cX4_againstThree 8 = .ok (.isub, 1) := by decide +kernel
theorem dX4_againstThree_9 : decode cX4_againstThree 9 = .ok (.istore_n 3, 1) := by decide +kernel
theorem dX4_againstThree_10 : decode cX4_againstThree 10 = .ok (.iload_n 0, 1) := by decide +kernel
theorem dX4_againstThree_11 : decode cX4_againstThree 11 = .ok (.invokestatic 25, 3) := by decide +kernel
theorem dX4_againstThree_14 : decode cX4_againstThree 14 = .ok (.iload_n 2, 1) := by decide +kernel
theorem dX4_againstThree_15 : decode cX4_againstThree 15 = .ok (.invokestatic 25, 3) := by decide +kernel
theorem dX4_againstThree_18 : decode cX4_againstThree 18 = .ok (.if_icmp .ne 13, 3) := by decide +kernel
theorem dX4_againstThree_21 : decode cX4_againstThree 21 = .ok (.iload_n 3, 1) := by decide +kernel
theorem dX4_againstThree_22 : decode cX4_againstThree 22 = .ok (.iconst 1, 1) := by decide +kernel
theorem dX4_againstThree_23 : decode cX4_againstThree 23 = .ok (.if_icmp .eq 10, 3) := by decide +kernel
theorem dX4_againstThree_26 : decode cX4_againstThree 26 = .ok (.iload_n 3, 1) := by decide +kernel
theorem dX4_againstThree_27 : decode cX4_againstThree 27 = .ok (.iconst (-1), 1) := by decide +kernel
theorem dX4_againstThree_28 : decode cX4_againstThree 28 = .ok (.if_icmp .eq 5, 3) := by decide +kernel
theorem dX4_againstThree_31 : decode cX4_againstThree 31 = .ok (.iconst 2, 1) := by decide +kernel
theorem dX4_againstThree_32 : decode cX4_againstThree 32 = .ok (.ireturn, 1) := by decide +kernel
theorem dX4_againstThree_33 : decode cX4_againstThree 33 = .ok (.iload_n 0, 1) := by decide +kernel
theorem dX4_againstThree_34 : decode cX4_againstThree 34 = .ok (.invokestatic 32, 3) := by decide +kernel
theorem dX4_againstThree_37 : decode cX4_againstThree 37 = .ok (.iload_n 2, 1) := by decide +kernel
theorem dX4_againstThree_38 : decode cX4_againstThree 38 = .ok (.invokestatic 32, 3) := by decide +kernel
theorem dX4_againstThree_41 : decode cX4_againstThree 41 = .ok (.if_icmp .ne 18, 3) := by decide +kernel
theorem dX4_againstThree_44 : decode cX4_againstThree 44 = .ok (.iload_n 0, 1) := by decide +kernel
theorem dX4_againstThree_45 : decode cX4_againstThree 45 = .ok (.invokestatic 32, 3) := by decide +kernel
theorem dX4_againstThree_48 : decode cX4_againstThree 48 = .ok (.iload_n 1, 1) := by decide +kernel
theorem dX4_againstThree_49 : decode cX4_againstThree 49 = .ok (.invokestatic 32, 3) := by decide +kernel
theorem dX4_againstThree_52 : decode cX4_againstThree 52 = .ok (.if_icmp .eq 7, 3) := by decide +kernel
theorem dX4_againstThree_55 : decode cX4_againstThree 55 = .ok (.iconst 3, 1) := by decide +kernel
theorem dX4_againstThree_56 : decode cX4_againstThree 56 = .ok (.goto 4, 3) := by decide +kernel
theorem dX4_againstThree_59 : decode cX4_againstThree 59 = .ok (.iconst 0, 1) := by decide +kernel
theorem dX4_againstThree_60 : decode cX4_againstThree 60 = .ok (.ireturn, 1) := by decide +kernel
theorem dX4_make_0 : decode cX4_make 0 = .ok (.aload_n 0, 1) := by decide +kernel
theorem dX4_make_1 : decode cX4_make 1 = .ok (.iload_n 2, 1) := by decide +kernel
theorem dX4_make_2 : decode cX4_make 2 = .ok (.invokevirtual 15, 3) := by decide +kernel
theorem dX4_make_5 : decode cX4_make 5 = .ok (.istore_n 3, 1) := by decide +kernel
theorem dX4_make_6 : decode cX4_make 6 = .ok (.aload_n 0, 1) := by decide +kernel
theorem dX4_make_7 : decode cX4_make 7 = .ok (.iload_n 2, 1) := by decide +kernel
theorem dX4_make_8 : decode cX4_make 8 = .ok (.iconst 1, 1) := by decide +kernel
theorem dX4_make_9 : decode cX4_make 9 = .ok (.iadd, 1) := by decide +kernel
theorem dX4_make_10 : decode cX4_make 10 = .ok (.invokevirtual 15, 3) := by decide +kernel
theorem dX4_make_13 : decode cX4_make 13 = .ok (.istore 4, 2) := by decide +kernel
theorem dX4_make_15 : decode cX4_make 15 = .ok (.iload_n 1, 1) := by decide +kernel
theorem dX4_make_16 : decode cX4_make 16 = .ok (.ifCond .ne 11, 3) := by decide +kernel
theorem dX4_make_19 : decode cX4_make 19 = .ok (.aload_n 0, 1) := by decide +kernel
theorem dX4_make_20 : decode cX4_make 20 = .ok (.iload_n 2, 1) := by decide +kernel
theorem dX4_make_21 : decode cX4_make 21 = .ok (.invokevirtual 35, 3) := by decide +kernel
theorem dX4_make_24 : decode cX4_make 24 = .ok (.goto 85, 3) := by decide +kernel
theorem dX4_make_27 : decode cX4_make 27 = .ok (.iload_n 1, 1) := by decide +kernel
theorem dX4_make_28 : decode cX4_make 28 = .ok (.iconst 1, 1) := by decide +kernel
theorem dX4_make_29 : decode cX4_make 29 = .ok (.if_icmp .ne 21, 3) := by decide +kernel
theorem dX4_make_32 : decode cX4_make 32 = .ok (.aload_n 0, 1) := by decide +kernel
theorem dX4_make_33 : decode cX4_make 33 = .ok (.iload_n 2, 1) := by decide +kernel
theorem dX4_make_34 : decode cX4_make 34 = .ok (.iload 4, 2) := by decide +kernel
theorem dX4_make_36 : decode cX4_make 36 = .ok (.invokevirtual 39, 3) := by decide +kernel
theorem dX4_make_39 : decode cX4_make 39 = .ok (.aload_n 0, 1) := by decide +kernel
theorem dX4_make_40 : decode cX4_make 40 = .ok (.iload_n 2, 1) := by decide +kernel
theorem dX4_make_41 : decode cX4_make 41 = .ok (.iconst 1, 1) := by decide +kernel
theorem dX4_make_42 : decode cX4_make 42 = .ok (.iadd, 1) := by decide +kernel
theorem dX4_make_43 : decode cX4_make 43 = .ok (.iload_n 3, 1) := by decide +kernel
theorem dX4_make_44 : decode cX4_make 44 = .ok (.invokevirtual 39, 3) := by decide +kernel
theorem dX4_make_47 : decode cX4_make 47 = .ok (.goto 62, 3) := by decide +kernel
theorem dX4_make_50 : decode cX4_make 50 = .ok (.aload_n 0, 1) := by decide +kernel
theorem dX4_make_51 : decode cX4_make 51 = .ok (.iload_n 2, 1) := by decide +kernel
theorem dX4_make_52 : decode cX4_make 52 = .ok (.iconst 2, 1) := by decide +kernel
theorem dX4_make_53 : decode cX4_make 53 = .ok (.iadd, 1) := by decide +kernel
theorem dX4_make_54 : decode cX4_make 54 = .ok (.invokevirtual 15, 3) := by decide +kernel
theorem dX4_make_57 : decode cX4_make 57 = .ok (.istore 5, 2) := by decide +kernel
theorem dX4_make_59 : decode cX4_make 59 = .ok (.aload_n 0, 1) := by decide +kernel
theorem dX4_make_60 : decode cX4_make 60 = .ok (.iload_n 2, 1) := by decide +kernel
theorem dX4_make_61 : decode cX4_make 61 = .ok (.iload 5, 2) := by decide +kernel
theorem dX4_make_63 : decode cX4_make 63 = .ok (.invokestatic 32, 3) := by decide +kernel
theorem dX4_make_66 : decode cX4_make 66 = .ok (.iload 4, 2) := by decide +kernel
theorem dX4_make_68 : decode cX4_make 68 = .ok (.invokestatic 25, 3) := by decide +kernel
theorem dX4_make_71 : decode cX4_make 71 = .ok (.imul, 1) := by decide +kernel
theorem dX4_make_72 : decode cX4_make 72 = .ok (.invokevirtual 39, 3) := by decide +kernel
theorem dX4_make_75 : decode cX4_make 75 = .ok (.aload_n 0, 1) := by decide +kernel
theorem dX4_make_76 : decode cX4_make 76 = .ok (.iload_n 2, 1) := by decide +kernel
theorem dX4_make_77 : decode cX4_make 77 = .ok (.iconst 1, 1) := by decide +kernel
theorem dX4_make_78 : decode cX4_make 78 = .ok (.iadd, 1) := by decide +kernel
theorem dX4_make_79 : decode cX4_make 79 = .ok (.iload 4, 2) := by decide +kernel
theorem dX4_make_81 : decode cX4_make 81 = .ok (.invokestatic 32, 3) := by decide +kernel
theorem dX4_make_84 : decode cX4_make 84 = .ok (.iload_n 3, 1) := by decide +kernel
theorem dX4_make_85 : decode cX4_make 85 = .ok (.invokestatic 25, 3) := by decide +kernel
theorem dX4_make_88 : decode cX4_make 88 = .ok (.imul, 1) := by decide +kernel
theorem dX4_make_89 : decode cX4_make 89 = .ok (.invokevirtual 39, 3) := by decide +kernel
theorem dX4_make_92 : decode cX4_make 92 = .ok (.aload_n 0, 1) := by decide +kernel
theorem dX4_make_93 : decode cX4_make 93 = .ok (.iload_n 2, 1) := by decide +kernel
theorem dX4_make_94 : decode cX4_make 94 = .ok (.iconst 2, 1) := by decide +kernel
theorem dX4_make_95 : decode cX4_make 95 = .ok (.iadd, 1) := by decide +kernel
theorem dX4_make_96 : decode cX4_make 96 = .ok (.iload_n 3, 1) := by decide +kernel
theorem dX4_make_97 : decode cX4_make 97 = .ok (.invokestatic 32, 3) := by decide +kernel
theorem dX4_make_100 : decode cX4_make 100 = .ok (.iload 4, 2) := by decide +kernel
theorem dX4_make_102 : decode cX4_make 102 = .ok (.invokestatic 25, 3) := by decide +kernel
theorem dX4_make_105 : decode cX4_make 105 = .ok (.imul, 1) := by decide +kernel
theorem dX4_make_106 : decode cX4_make 106 = .ok (.invokevirtual 39, 3) := by decide +kernel
theorem dX4_make_109 : decode cX4_make 109 = .ok (.return_, 1) := by decide +kernel
theorem dX4_placesFor_0 : decode cX4_placesFor 0 = .ok (.iconst 0, 1) := by decide +kernel
theorem dX4_placesFor_1 : decode cX4_placesFor 1 = .ok (.istore_n 2, 1) := by decide +kernel
theorem dX4_placesFor_2 : decode cX4_placesFor 2 = .ok (.iconst 0, 1) := by decide +kernel
theorem dX4_placesFor_3 : decode cX4_placesFor 3 = .ok (.istore_n 3, 1) := by decide +kernel
theorem dX4_placesFor_4 : decode cX4_placesFor 4 = .ok (.iload_n 3, 1) := by decide +kernel
theorem dX4_placesFor_5 : decode cX4_placesFor 5 = .ok (.aload_n 0, 1) := by decide +kernel
theorem dX4_placesFor_6 : decode cX4_placesFor 6 = .ok (.getfield 9, 3) := by decide +kernel
theorem dX4_placesFor_9 : decode cX4_placesFor 9 = .ok (.if_icmp .ge 21, 3) := by decide +kernel
theorem dX4_placesFor_12 : decode cX4_placesFor 12 = .ok (.aload_n 0, 1) := by decide +kernel
theorem dX4_placesFor_13 : decode cX4_placesFor 13 = .ok (.iload_n 1, 1) := by decide +kernel
theorem dX4_placesFor_14 : decode cX4_placesFor 14 = .ok (.iload_n 3, 1) := by decide +kernel
theorem dX4_placesFor_15 : decode cX4_placesFor 15 = .ok (.invokestatic 43, 3) := by decide +kernel
theorem dX4_placesFor_18 : decode cX4_placesFor 18 = .ok (.ifCond .ne 6, 3) := by decide +kernel
theorem dX4_placesFor_21 : decode cX4_placesFor 21 = .ok (.iinc 2 1, 3) := by decide +kernel
theorem dX4_placesFor_24 : decode cX4_placesFor 24 = .ok (.iinc 3 1, 3) := by decide +kernel
theorem dX4_placesFor_27 : decode cX4_placesFor 27 = .ok (.goto (-23), 3) := by decide +kernel
theorem dX4_placesFor_30 : decode cX4_placesFor 30 = .ok (.iload_n 2, 1) := by decide +kernel
theorem dX4_placesFor_31 : decode cX4_placesFor 31 = .ok (.ireturn, 1) := by decide +kernel
theorem dX5_init_0 : decode cX5_init 0 = .ok (.aload_n 0, 1) := by decide +kernel
theorem dX5_init_1 : decode cX5_init 1 = .ok (.invokespecial 1, 3) := by decide +kernel
theorem dX5_init_4 : decode cX5_init 4 = .ok (.aload_n 0, 1) := by decide +kernel
theorem dX5_init_5 : decode cX5_init 5 = .ok (.iload_n 1, 1) := by decide +kernel
theorem dX5_init_6 : decode cX5_init 6 = .ok (.ifCond .ge 7, 3) := by decide +kernel
theorem dX5_init_9 : decode cX5_init 9 = .ok (.iconst 0, 1) := by decide +kernel
theorem dX5_init_10 : decode cX5_init 10 = .ok (.goto 4, 3) := by decide +kernel
theorem dX5_init_13 : decode cX5_init 13 = .ok (.iload_n 1, 1) := by decide +kernel
theorem dX5_init_14 : decode cX5_init 14 = .ok (.newarray .int, 2) := by decide +kernel
theorem dX5_init_16 : decode cX5_init 16 = .ok (.putfield 7, 3) := by decide +kernel
theorem dX5_init_19 : decode cX5_init 19 = .ok (.aload_n 0, 1) := by decide +kernel
theorem dX5_init_20 : decode cX5_init 20 = .ok (.iconst 0, 1) := by decide +kernel
theorem dX5_init_21 : decode cX5_init 21 = .ok (.putfield 13, 3) := by decide +kernel
theorem dX5_init_24 : decode cX5_init 24 = .ok (.return_, 1) := by decide +kernel
theorem dX5_at_0 : decode cX5_at 0 = .ok (.iload_n 1, 1) := by decide +kernel
theorem dX5_at_1 : decode cX5_at 1 = .ok (.ifCond .lt 29, 3) := by decide +kernel
theorem dX5_at_4 : decode cX5_at 4 = .ok (.iload_n 1, 1) := by decide +kernel
theorem dX5_at_5 : decode cX5_at 5 = .ok (.aload_n 0, 1) := by decide +kernel
theorem dX5_at_6 : decode cX5_at 6 = .ok (.getfield 13, 3) := by decide +kernel
theorem dX5_at_9 : decode cX5_at 9 = .ok (.if_icmp .ge 21, 3) := by decide +kernel
theorem dX5_at_12 : decode cX5_at 12 = .ok (.iload_n 1, 1) := by decide +kernel
theorem dX5_at_13 : decode cX5_at 13 = .ok (.aload_n 0, 1) := by decide +kernel
theorem dX5_at_14 : decode cX5_at 14 = .ok (.getfield 7, 3) := by decide +kernel
theorem dX5_at_17 : decode cX5_at 17 = .ok (.arraylength, 1) := by decide +kernel
theorem dX5_at_18 : decode cX5_at 18 = .ok (.if_icmp .ge 12, 3) := by decide +kernel
theorem dX5_at_21 : decode cX5_at 21 = .ok (.aload_n 0, 1) := by decide +kernel
theorem dX5_at_22 : decode cX5_at 22 = .ok (.getfield 7, 3) := by decide +kernel
theorem dX5_at_25 : decode cX5_at 25 = .ok (.iload_n 1, 1) := by decide +kernel
theorem dX5_at_26 : decode cX5_at 26 = .ok (.iaload, 1) := by decide +kernel
theorem dX5_at_27 : decode cX5_at 27 = .ok (.goto 4, 3) := by decide +kernel
theorem dX5_at_30 : decode cX5_at 30 = .ok (.iconst 0, 1) := by decide +kernel
theorem dX5_at_31 : decode cX5_at 31 = .ok (.ireturn, 1) := by decide +kernel
theorem dX5_put_0 : decode cX5_put 0 = .ok (.iload_n 1, 1) := by decide +kernel
theorem dX5_put_1 : decode cX5_put 1 = .ok (.ifCond .lt 27, 3) := by decide +kernel
theorem dX5_put_4 : decode cX5_put 4 = .ok (.iload_n 1, 1) := by decide +kernel
theorem dX5_put_5 : decode cX5_put 5 = .ok (.aload_n 0, 1) := by decide +kernel
theorem dX5_put_6 : decode cX5_put 6 = .ok (.getfield 13, 3) := by decide +kernel
theorem dX5_put_9 : decode cX5_put 9 = .ok (.if_icmp .ge 19, 3) := by decide +kernel
theorem dX5_put_12 : decode cX5_put 12 = .ok (.iload_n 1, 1) := by decide +kernel
theorem dX5_put_13 : decode cX5_put 13 = .ok (.aload_n 0, 1) := by decide +kernel
theorem dX5_put_14 : decode cX5_put 14 = .ok (.getfield 7, 3) := by decide +kernel
theorem dX5_put_17 : decode cX5_put 17 = .ok (.arraylength, 1) := by decide +kernel
theorem dX5_put_18 : decode cX5_put 18 = .ok (.if_icmp .ge 10, 3) := by decide +kernel
theorem dX5_put_21 : decode cX5_put 21 = .ok (.aload_n 0, 1) := by decide +kernel
theorem dX5_put_22 : decode cX5_put 22 = .ok (.getfield 7, 3) := by decide +kernel
theorem dX5_put_25 : decode cX5_put 25 = .ok (.iload_n 1, 1) := by decide +kernel
theorem dX5_put_26 : decode cX5_put 26 = .ok (.iload_n 2, 1) := by decide +kernel
theorem dX5_put_27 : decode cX5_put 27 = .ok (.iastore, 1) := by decide +kernel
theorem dX5_put_28 : decode cX5_put 28 = .ok (.return_, 1) := by decide +kernel
theorem dX5_add_0 : decode cX5_add 0 = .ok (.aload_n 0, 1) := by decide +kernel
theorem dX5_add_1 : decode cX5_add 1 = .ok (.getfield 13, 3) := by decide +kernel
theorem dX5_add_4 : decode cX5_add 4 = .ok (.ifCond .lt 15, 3) := by decide +kernel
theorem dX5_add_7 : decode cX5_add 7 = .ok (.aload_n 0, 1) := by decide +kernel
theorem dX5_add_8 : decode cX5_add 8 = .ok (.getfield 13, 3) := by decide +kernel
theorem dX5_add_11 : decode cX5_add 11 = .ok (.aload_n 0, 1) := by decide +kernel
theorem dX5_add_12 : decode cX5_add 12 = .ok (.getfield 7, 3) := by decide +kernel
theorem dX5_add_15 : decode cX5_add 15 = .ok (.arraylength, 1) := by decide +kernel
theorem dX5_add_16 : decode cX5_add 16 = .ok (.if_icmp .lt 5, 3) := by decide +kernel
theorem dX5_add_19 : decode cX5_add 19 = .ok (.iconst 0, 1) := by decide +kernel
theorem dX5_add_20 : decode cX5_add 20 = .ok (.ireturn, 1) := by decide +kernel
theorem dX5_add_21 : decode cX5_add 21 = .ok (.aload_n 0, 1) := by decide +kernel
theorem dX5_add_22 : decode cX5_add 22 = .ok (.getfield 7, 3) := by decide +kernel
theorem dX5_add_25 : decode cX5_add 25 = .ok (.aload_n 0, 1) := by decide +kernel
theorem dX5_add_26 : decode cX5_add 26 = .ok (.getfield 13, 3) := by decide +kernel
theorem dX5_add_29 : decode cX5_add 29 = .ok (.iload_n 1, 1) := by decide +kernel
theorem dX5_add_30 : decode cX5_add 30 = .ok (.iastore, 1) := by decide +kernel
theorem dX5_add_31 : decode cX5_add 31 = .ok (.aload_n 0, 1) := by decide +kernel
theorem dX5_add_32 : decode cX5_add 32 = .ok (.dup, 1) := by decide +kernel
theorem dX5_add_33 : decode cX5_add 33 = .ok (.getfield 13, 3) := by decide +kernel
theorem dX5_add_36 : decode cX5_add 36 = .ok (.iconst 1, 1) := by decide +kernel
theorem dX5_add_37 : decode cX5_add 37 = .ok (.iadd, 1) := by decide +kernel
theorem dX5_add_38 : decode cX5_add 38 = .ok (.putfield 13, 3) := by decide +kernel
theorem dX5_add_41 : decode cX5_add 41 = .ok (.iconst 1, 1) := by decide +kernel
theorem dX5_add_42 : decode cX5_add 42 = .ok (.ireturn, 1) := by decide +kernel
theorem dX5_addAll_0 : decode cX5_addAll 0 = .ok (.iconst 0, 1) := by decide +kernel
theorem dX5_addAll_1 : decode cX5_addAll 1 = .ok (.istore_n 2, 1) := by decide +kernel
theorem dX5_addAll_2 : decode cX5_addAll 2 = .ok (.iload_n 2, 1) := by decide +kernel
theorem dX5_addAll_3 : decode cX5_addAll 3 = .ok (.aload_n 1, 1) := by decide +kernel
theorem dX5_addAll_4 : decode cX5_addAll 4 = .ok (.getfield 13, 3) := by decide +kernel
theorem dX5_addAll_7 : decode cX5_addAll 7 = .ok (.if_icmp .ge 19, 3) := by decide +kernel
theorem dX5_addAll_10 : decode cX5_addAll 10 = .ok (.aload_n 0, 1) := by decide +kernel
theorem dX5_addAll_11 : decode cX5_addAll 11 = .ok (.aload_n 1, 1) := by decide +kernel
theorem dX5_addAll_12 : decode cX5_addAll 12 = .ok (.iload_n 2, 1) := by decide +kernel
theorem dX5_addAll_13 : decode cX5_addAll 13 = .ok (.invokevirtual 17, 3) := by decide +kernel
theorem dX5_addAll_16 : decode cX5_addAll 16 = .ok (.invokevirtual 21, 3) := by decide +kernel
theorem dX5_addAll_19 : decode cX5_addAll 19 = .ok (.pop, 1) := by decide +kernel
theorem dX5_addAll_20 : decode cX5_addAll 20 = .ok (.iinc 2 1, 3) := by decide +kernel
theorem dX5_addAll_23 : decode cX5_addAll 23 = .ok (.goto (-21), 3) := by decide +kernel
theorem dX5_addAll_26 : decode cX5_addAll 26 = .ok (.return_, 1) := by decide +kernel
theorem dX5_addTurned_0 : decode cX5_addTurned 0 = .ok (.aload_n 1, 1) := by decide +kernel
theorem dX5_addTurned_1 : decode cX5_addTurned 1 = .ok (.getfield 13, 3) := by decide +kernel
theorem dX5_addTurned_4 : decode cX5_addTurned 4 = .ok (.iconst 1, 1) := by decide +kernel
theorem dX5_addTurned_5 : decode cX5_addTurned 5 = .ok (.isub, 1) := by decide +kernel
theorem dX5_addTurned_6 : decode cX5_addTurned 6 = .ok (.istore_n 2, 1) := by decide +kernel
theorem dX5_addTurned_7 : decode cX5_addTurned 7 = .ok (.iload_n 2, 1) := by decide +kernel
theorem dX5_addTurned_8 : decode cX5_addTurned 8 = .ok (.ifCond .lt 20, 3) := by decide +kernel
theorem dX5_addTurned_11 : decode cX5_addTurned 11 = .ok (.aload_n 0, 1) := by decide +kernel
theorem dX5_addTurned_12 : decode cX5_addTurned 12 = .ok (.aload_n 1, 1) := by decide +kernel
theorem dX5_addTurned_13 : decode cX5_addTurned 13 = .ok (.iload_n 2, 1) := by decide +kernel
theorem dX5_addTurned_14 : decode cX5_addTurned 14 = .ok (.invokevirtual 17, 3) := by decide +kernel
theorem dX5_addTurned_17 : decode cX5_addTurned 17 = .ok (.ineg, 1) := by decide +kernel
theorem dX5_addTurned_18 : decode cX5_addTurned 18 = .ok (.invokevirtual 21, 3) := by decide +kernel
theorem dX5_addTurned_21 : decode cX5_addTurned 21 = .ok (.pop, 1) := by decide +kernel
theorem dX5_addTurned_22 : decode cX5_addTurned 22 = .ok (.iinc 2 (-1), 3) := by decide +kernel
theorem dX5_addTurned_25 : decode cX5_addTurned 25 = .ok (.goto (-18), 3) := by decide +kernel
theorem dX5_addTurned_28 : decode cX5_addTurned 28 = .ok (.return_, 1) := by decide +kernel
theorem dX5_empty_0 : decode cX5_empty 0 = .ok (.aload_n 0, 1) := by decide +kernel
theorem dX5_empty_1 : decode cX5_empty 1 = .ok (.iconst 0, 1) := by decide +kernel
theorem dX5_empty_2 : decode cX5_empty 2 = .ok (.putfield 13, 3) := by decide +kernel
theorem dX5_empty_5 : decode cX5_empty 5 = .ok (.return_, 1) := by decide +kernel
theorem dX5_become_0 : decode cX5_become 0 = .ok (.aload_n 0, 1) := by decide +kernel
theorem dX5_become_1 : decode cX5_become 1 = .ok (.invokevirtual 25, 3) := by decide +kernel
theorem dX5_become_4 : decode cX5_become 4 = .ok (.aload_n 0, 1) := by decide +kernel
theorem dX5_become_5 : decode cX5_become 5 = .ok (.aload_n 1, 1) := by decide +kernel
theorem dX5_become_6 : decode cX5_become 6 = .ok (.invokevirtual 28, 3) := by decide +kernel
theorem dX5_become_9 : decode cX5_become 9 = .ok (.return_, 1) := by decide +kernel
theorem dX5_insertPair_0 : decode cX5_insertPair 0 = .ok (.aload_n 0, 1) := by decide +kernel
theorem dX5_insertPair_1 : decode cX5_insertPair 1 = .ok (.iconst 0, 1) := by decide +kernel
theorem dX5_insertPair_2 : decode cX5_insertPair 2 = .ok (.invokevirtual 21, 3) := by decide +kernel
theorem dX5_insertPair_5 : decode cX5_insertPair 5 = .ok (.ifCond .eq 11, 3) := by decide +kernel
theorem dX5_insertPair_8 : decode cX5_insertPair 8 = .ok (.aload_n 0, 1) := by decide +kernel
theorem dX5_insertPair_9 : decode cX5_insertPair 9 = .ok (.iconst 0, 1) := by decide +kernel
theorem dX5_insertPair_10 : decode cX5_insertPair 10 = .ok (.invokevirtual 21, 3) := by decide +kernel
theorem dX5_insertPair_13 : decode cX5_insertPair 13 = .ok (.ifCond .ne 4, 3) := by decide +kernel
theorem dX5_insertPair_16 : decode cX5_insertPair 16 = .ok (.return_, 1) := by decide +kernel
theorem dX5_insertPair_17 : decode cX5_insertPair 17 = .ok (.aload_n 0, 1) := by decide +kernel
theorem dX5_insertPair_18 : decode cX5_insertPair 18 = .ok (.getfield 13, 3) := by decide +kernel
theorem dX5_insertPair_21 : decode cX5_insertPair 21 = .ok (.iconst 1, 1) := by decide +kernel
theorem dX5_insertPair_22 : decode cX5_insertPair 22 = .ok (.isub, 1) := by decide +kernel
theorem dX5_insertPair_23 : decode cX5_insertPair 23 = .ok (.istore_n 3, 1) := by decide +kernel
theorem dX5_insertPair_24 : decode cX5_insertPair 24 = .ok (.iload_n 3, 1) := by decide +kernel
theorem dX5_insertPair_25 : decode cX5_insertPair 25 = .ok (.iload_n 1, 1) := by decide +kernel
theorem dX5_insertPair_26 : decode cX5_insertPair 26 = .ok (.iconst 2, 1) := by decide +kernel
theorem dX5_insertPair_27 : decode cX5_insertPair 27 = .ok (.iadd, 1) := by decide +kernel
theorem dX5_insertPair_28 : decode cX5_insertPair 28 = .ok (.if_icmp .lt 21, 3) := by decide +kernel
theorem dX5_insertPair_31 : decode cX5_insertPair 31 = .ok (.aload_n 0, 1) := by decide +kernel
theorem dX5_insertPair_32 : decode cX5_insertPair 32 = .ok (.iload_n 3, 1) := by decide +kernel
theorem dX5_insertPair_33 : decode cX5_insertPair 33 = .ok (.aload_n 0, 1) := by decide +kernel
theorem dX5_insertPair_34 : decode cX5_insertPair 34 = .ok (.iload_n 3, 1) := by decide +kernel
theorem dX5_insertPair_35 : decode cX5_insertPair 35 = .ok (.iconst 2, 1) := by decide +kernel
theorem dX5_insertPair_36 : decode cX5_insertPair 36 = .ok (.isub, 1) := by decide +kernel
theorem dX5_insertPair_37 : decode cX5_insertPair 37 = .ok (.invokevirtual 17, 3) := by decide +kernel
theorem dX5_insertPair_40 : decode cX5_insertPair 40 = .ok (.invokevirtual 32, 3) := by decide +kernel
theorem dX5_insertPair_43 : decode cX5_insertPair 43 = .ok (.iinc 3 (-1), 3) := by decide +kernel
theorem dX5_insertPair_46 : decode cX5_insertPair 46 = .ok (.goto (-22), 3) := by decide +kernel
theorem dX5_insertPair_49 : decode cX5_insertPair 49 = .ok (.aload_n 0, 1) := by decide +kernel
theorem dX5_insertPair_50 : decode cX5_insertPair 50 = .ok (.iload_n 1, 1) := by decide +kernel
theorem dX5_insertPair_51 : decode cX5_insertPair 51 = .ok (.iload_n 2, 1) := by decide +kernel
theorem dX5_insertPair_52 : decode cX5_insertPair 52 = .ok (.invokevirtual 32, 3) := by decide +kernel
theorem dX5_insertPair_55 : decode cX5_insertPair 55 = .ok (.aload_n 0, 1) := by decide +kernel
theorem dX5_insertPair_56 : decode cX5_insertPair 56 = .ok (.iload_n 1, 1) := by decide +kernel
theorem dX5_insertPair_57 : decode cX5_insertPair 57 = .ok (.iconst 1, 1) := by decide +kernel
theorem dX5_insertPair_58 : decode cX5_insertPair 58 = .ok (.iadd, 1) := by decide +kernel
theorem dX5_insertPair_59 : decode cX5_insertPair 59 = .ok (.iload_n 2, 1) := by decide +kernel
theorem dX5_insertPair_60 : decode cX5_insertPair 60 = .ok (.ineg, 1) := by decide +kernel
theorem dX5_insertPair_61 : decode cX5_insertPair 61 = .ok (.invokevirtual 32, 3) := by decide +kernel
theorem dX5_insertPair_64 : decode cX5_insertPair 64 = .ok (.return_, 1) := by decide +kernel
theorem dX5_removePair_0 : decode cX5_removePair 0 = .ok (.iload_n 1, 1) := by decide +kernel
theorem dX5_removePair_1 : decode cX5_removePair 1 = .ok (.istore_n 2, 1) := by decide +kernel
theorem dX5_removePair_2 : decode cX5_removePair 2 = .ok (.iload_n 2, 1) := by decide +kernel
theorem dX5_removePair_3 : decode cX5_removePair 3 = .ok (.iconst 2, 1) := by decide +kernel
theorem dX5_removePair_4 : decode cX5_removePair 4 = .ok (.iadd, 1) := by decide +kernel
theorem dX5_removePair_5 : decode cX5_removePair 5 = .ok (.aload_n 0, 1) := by decide +kernel
theorem dX5_removePair_6 : decode cX5_removePair 6 = .ok (.getfield 13, 3) := by decide +kernel
theorem dX5_removePair_9 : decode cX5_removePair 9 = .ok (.if_icmp .ge 21, 3) := by decide +kernel
theorem dX5_removePair_12 : decode cX5_removePair 12 = .ok (.aload_n 0, 1) := by decide +kernel
theorem dX5_removePair_13 : decode cX5_removePair 13 = .ok (.iload_n 2, 1) := by decide +kernel
theorem dX5_removePair_14 : decode cX5_removePair 14 = .ok (.aload_n 0, 1) := by decide +kernel
theorem dX5_removePair_15 : decode cX5_removePair 15 = .ok (.iload_n 2, 1) := by decide +kernel
theorem dX5_removePair_16 : decode cX5_removePair 16 = .ok (.iconst 2, 1) := by decide +kernel
theorem dX5_removePair_17 : decode cX5_removePair 17 = .ok (.iadd, 1) := by decide +kernel
theorem dX5_removePair_18 : decode cX5_removePair 18 = .ok (.invokevirtual 17, 3) := by decide +kernel
theorem dX5_removePair_21 : decode cX5_removePair 21 = .ok (.invokevirtual 32, 3) := by decide +kernel
theorem dX5_removePair_24 : decode cX5_removePair 24 = .ok (.iinc 2 1, 3) := by decide +kernel
theorem dX5_removePair_27 : decode cX5_removePair 27 = .ok (.goto (-25), 3) := by decide +kernel
theorem dX5_removePair_30 : decode cX5_removePair 30 = .ok (.aload_n 0, 1) := by decide +kernel
theorem dX5_removePair_31 : decode cX5_removePair 31 = .ok (.aload_n 0, 1) := by decide +kernel
theorem dX5_removePair_32 : decode cX5_removePair 32 = .ok (.getfield 13, 3) := by decide +kernel
theorem dX5_removePair_35 : decode cX5_removePair 35 = .ok (.iconst 2, 1) := by decide +kernel
theorem dX5_removePair_36 : decode cX5_removePair 36 = .ok (.if_icmp .ge 7, 3) := by decide +kernel
theorem dX5_removePair_39 : decode cX5_removePair 39 = .ok (.iconst 0, 1) := by decide +kernel
theorem dX5_removePair_40 : decode cX5_removePair 40 = .ok (.goto 9, 3) := by decide +kernel
theorem dX5_removePair_43 : decode cX5_removePair 43 = .ok (.aload_n 0, 1) := by decide +kernel
theorem dX5_removePair_44 : decode cX5_removePair 44 = .ok (.getfield 13, 3) := by decide +kernel
theorem dX5_removePair_47 : decode cX5_removePair 47 = .ok (.iconst 2, 1) := by decide +kernel
theorem dX5_removePair_48 : decode cX5_removePair 48 = .ok (.isub, 1) := by decide +kernel
theorem dX5_removePair_49 : decode cX5_removePair 49 = .ok (.putfield 13, 3) := by decide +kernel
theorem dX5_removePair_52 : decode cX5_removePair 52 = .ok (.return_, 1) := by decide +kernel
theorem dX5_cancelAll_0 : decode cX5_cancelAll 0 = .ok (.aload_n 0, 1) := by decide +kernel
theorem dX5_cancelAll_1 : decode cX5_cancelAll 1 = .ok (.getfield 13, 3) := by decide +kernel
theorem dX5_cancelAll_4 : decode cX5_cancelAll 4 = .ok (.istore_n 1, 1) := by decide +kernel
theorem dX5_cancelAll_5 : decode cX5_cancelAll 5 = .ok (.aload_n 0, 1) := by decide +kernel
theorem dX5_cancelAll_6 : decode cX5_cancelAll 6 = .ok (.invokevirtual 25, 3) := by decide +kernel
theorem dX5_cancelAll_9 : decode cX5_cancelAll 9 = .ok (.iconst 0, 1) := by decide +kernel
theorem dX5_cancelAll_10 : decode cX5_cancelAll 10 = .ok (.istore_n 2, 1) := by decide +kernel
theorem dX5_cancelAll_11 : decode cX5_cancelAll 11 = .ok (.iload_n 2, 1) := by decide +kernel
theorem dX5_cancelAll_12 : decode cX5_cancelAll 12 = .ok (.iload_n 1, 1) := by decide +kernel
theorem dX5_cancelAll_13 : decode cX5_cancelAll 13 = .ok (.if_icmp .ge 66, 3) := by decide +kernel
theorem dX5_cancelAll_16 : decode cX5_cancelAll 16 = .ok (.iload_n 2, 1) := by decide +kernel
theorem dX5_cancelAll_17 : decode cX5_cancelAll 17 = .ok (.aload_n 0, 1) := by decide +kernel
theorem dX5_cancelAll_18 : decode cX5_cancelAll 18 = .ok (.getfield 7, 3) := by decide +kernel
theorem dX5_cancelAll_21 : decode cX5_cancelAll 21 = .ok (.arraylength, 1) := by decide +kernel
theorem dX5_cancelAll_22 : decode cX5_cancelAll 22 = .ok (.if_icmp .ge 57, 3) := by decide +kernel
theorem dX5_cancelAll_25 : decode cX5_cancelAll 25 = .ok (.aload_n 0, 1) := by decide +kernel
theorem dX5_cancelAll_26 : decode cX5_cancelAll 26 = .ok (.getfield 7, 3) := by decide +kernel
theorem dX5_cancelAll_29 : decode cX5_cancelAll 29 = .ok (.iload_n 2, 1) := by decide +kernel
theorem dX5_cancelAll_30 : decode cX5_cancelAll 30 = .ok (.iaload, 1) := by decide +kernel
theorem dX5_cancelAll_31 : decode cX5_cancelAll 31 = .ok (.istore_n 3, 1) := by decide +kernel
theorem dX5_cancelAll_32 : decode cX5_cancelAll 32 = .ok (.aload_n 0, 1) := by decide +kernel
theorem dX5_cancelAll_33 : decode cX5_cancelAll 33 = .ok (.getfield 13, 3) := by decide +kernel
theorem dX5_cancelAll_36 : decode cX5_cancelAll 36 = .ok (.ifCond .le 31, 3) := by decide +kernel
theorem dX5_cancelAll_39 : decode cX5_cancelAll 39 = .ok (.aload_n 0, 1) := by decide +kernel
theorem dX5_cancelAll_40 : decode cX5_cancelAll 40 = .ok (.aload_n 0, 1) := by decide +kernel
theorem dX5_cancelAll_41 : decode cX5_cancelAll 41 = .ok (.getfield 13, 3) := by decide +kernel
theorem dX5_cancelAll_44 : decode cX5_cancelAll 44 = .ok (.iconst 1, 1) := by decide +kernel
theorem dX5_cancelAll_45 : decode cX5_cancelAll 45 = .ok (.isub, 1) := by decide +kernel
theorem dX5_cancelAll_46 : decode cX5_cancelAll 46 = .ok (.invokevirtual 17, 3) := by decide +kernel
theorem dX5_cancelAll_49 : decode cX5_cancelAll 49 = .ok (.iload_n 3, 1) := by decide +kernel
theorem dX5_cancelAll_50 : decode cX5_cancelAll 50 = .ok (.ineg, 1) := by decide +kernel
theorem dX5_cancelAll_51 : decode cX5_cancelAll 51 = .ok (.if_icmp .ne 16, 3) := by decide +kernel
theorem dX5_cancelAll_54 : decode cX5_cancelAll 54 = .ok (.aload_n 0, 1) := by decide +kernel
theorem dX5_cancelAll_55 : decode cX5_cancelAll 55 = .ok (.dup, 1) := by decide +kernel
theorem dX5_cancelAll_56 : decode cX5_cancelAll 56 = .ok (.getfield 13, 3) := by decide +kernel
theorem dX5_cancelAll_59 : decode cX5_cancelAll 59 = .ok (.iconst 1, 1) := by decide +kernel
theorem dX5_cancelAll_60 : decode cX5_cancelAll 60 = .ok (.isub, 1) := by decide +kernel
theorem dX5_cancelAll_61 : decode cX5_cancelAll 61 = .ok (.putfield 13, 3) := by decide +kernel
theorem dX5_cancelAll_64 : decode cX5_cancelAll 64 = .ok (.goto 9, 3) := by decide +kernel
theorem dX5_cancelAll_67 : decode cX5_cancelAll 67 = .ok (.aload_n 0, 1) := by decide +kernel
theorem dX5_cancelAll_68 : decode cX5_cancelAll 68 = .ok (.iload_n 3, 1) := by decide +kernel
theorem dX5_cancelAll_69 : decode cX5_cancelAll 69 = .ok (.invokevirtual 21, 3) := by decide +kernel
theorem dX5_cancelAll_72 : decode cX5_cancelAll 72 = .ok (.pop, 1) := by decide +kernel
theorem dX5_cancelAll_73 : decode cX5_cancelAll 73 = .ok (.iinc 2 1, 3) := by decide +kernel
theorem dX5_cancelAll_76 : decode cX5_cancelAll 76 = .ok (.goto (-65), 3) := by decide +kernel
theorem dX5_cancelAll_79 : decode cX5_cancelAll 79 = .ok (.iload_n 1, 1) := by decide +kernel
theorem dX5_cancelAll_80 : decode cX5_cancelAll 80 = .ok (.aload_n 0, 1) := by decide +kernel
theorem dX5_cancelAll_81 : decode cX5_cancelAll 81 = .ok (.getfield 13, 3) := by decide +kernel
theorem dX5_cancelAll_84 : decode cX5_cancelAll 84 = .ok (.isub, 1) := by decide +kernel
theorem dX5_cancelAll_85 : decode cX5_cancelAll 85 = .ok (.ireturn, 1) := by decide +kernel
theorem dX5_twist_0 : decode cX5_twist 0 = .ok (.iconst 2, 1) := by decide +kernel
theorem dX5_twist_1 : decode cX5_twist 1 = .ok (.aload_n 0, 1) := by decide +kernel
theorem dX5_twist_2 : decode cX5_twist 2 = .ok (.invokevirtual 36, 3) := by decide +kernel
theorem dX5_twist_5 : decode cX5_twist 5 = .ok (.imul, 1) := by decide +kernel
theorem dX5_twist_6 : decode cX5_twist 6 = .ok (.aload_n 0, 1) := by decide +kernel
theorem dX5_twist_7 : decode cX5_twist 7 = .ok (.getfield 13, 3) := by decide +kernel
theorem dX5_twist_10 : decode cX5_twist 10 = .ok (.isub, 1) := by decide +kernel
theorem dX5_twist_11 : decode cX5_twist 11 = .ok (.ireturn, 1) := by decide +kernel
theorem dX5_overFromLeft_0 : decode cX5_overFromLeft 0 = .ok (.iconst 0, 1) := by decide +kernel
theorem dX5_overFromLeft_1 : decode cX5_overFromLeft 1 = .ok (.istore_n 1, 1) := by decide +kernel
theorem dX5_overFromLeft_2 : decode cX5_overFromLeft 2 = .ok (.iconst 0, 1) := by decide +kernel
theorem dX5_overFromLeft_3 : decode cX5_overFromLeft 3 = .ok (.istore_n 2, 1) := by decide +kernel
theorem dX5_overFromLeft_4 : decode cX5_overFromLeft 4 = .ok (.iload_n 2, 1) := by decide +kernel
theorem dX5_overFromLeft_5 : decode cX5_overFromLeft 5 = .ok (.aload_n 0, 1) := by decide +kernel
theorem dX5_overFromLeft_6 : decode cX5_overFromLeft 6 = .ok (.getfield 13, 3) := by decide +kernel
theorem dX5_overFromLeft_9 : decode cX5_overFromLeft 9 = .ok (.if_icmp .ge 20, 3) := by decide +kernel
theorem dX5_overFromLeft_12 : decode cX5_overFromLeft 12 = .ok (.aload_n 0, 1) := by decide +kernel
theorem dX5_overFromLeft_13 : decode cX5_overFromLeft 13 = .ok (.iload_n 2, 1) := by decide +kernel
theorem dX5_overFromLeft_14 : decode cX5_overFromLeft 14 = .ok (.invokevirtual 17, 3) := by decide +kernel
theorem dX5_overFromLeft_17 : decode cX5_overFromLeft 17 = .ok (.ifCond .le 6, 3) := by decide +kernel
theorem dX5_overFromLeft_20 : decode cX5_overFromLeft 20 = .ok (.iinc 1 1, 3) := by decide +kernel
theorem dX5_overFromLeft_23 : decode cX5_overFromLeft 23 = .ok (.iinc 2 1, 3) := by decide +kernel
theorem dX5_overFromLeft_26 : decode cX5_overFromLeft 26 = .ok (.goto (-22), 3) := by decide +kernel
theorem dX5_overFromLeft_29 : decode cX5_overFromLeft 29 = .ok (.iload_n 1, 1) := by decide +kernel
theorem dX5_overFromLeft_30 : decode cX5_overFromLeft 30 = .ok (.ireturn, 1) := by decide +kernel
theorem dX5_rankMask_0 : decode cX5_rankMask 0 = .ok (.iconst 0, 1) := by decide +kernel
theorem dX5_rankMask_1 : decode cX5_rankMask 1 = .ok (.istore_n 1, 1) := by decide +kernel
theorem dX5_rankMask_2 : decode cX5_rankMask 2 = .ok (.iconst 0, 1) := by decide +kernel
theorem dX5_rankMask_3 : decode cX5_rankMask 3 = .ok (.istore_n 2, 1) := by decide +kernel
theorem dX5_rankMask_4 : decode cX5_rankMask 4 = .ok (.iload_n 2, 1) := by decide +kernel
theorem dX5_rankMask_5 : decode cX5_rankMask 5 = .ok (.aload_n 0, 1) := by decide +kernel
theorem dX5_rankMask_6 : decode cX5_rankMask 6 = .ok (.getfield 13, 3) := by decide +kernel
theorem dX5_rankMask_9 : decode cX5_rankMask 9 = .ok (.if_icmp .ge 22, 3) := by decide +kernel
theorem dX5_rankMask_12 : decode cX5_rankMask 12 = .ok (.iload_n 1, 1) := by decide +kernel
theorem dX5_rankMask_13 : decode cX5_rankMask 13 = .ok (.iconst 1, 1) := by decide +kernel
theorem dX5_rankMask_14 : decode cX5_rankMask 14 = .ok (.aload_n 0, 1) := by decide +kernel
theorem dX5_rankMask_15 : decode cX5_rankMask 15 = .ok (.iload_n 2, 1) := by decide +kernel
theorem dX5_rankMask_16 : decode cX5_rankMask 16 = .ok (.invokevirtual 17, 3) := by decide +kernel
theorem dX5_rankMask_19 : decode cX5_rankMask 19 = .ok (.invokestatic 40, 3) := by decide +kernel
theorem dX5_rankMask_22 : decode cX5_rankMask 22 = .ok (.ishl, 1) := by decide +kernel
theorem dX5_rankMask_23 : decode cX5_rankMask 23 = .ok (.ior, 1) := by decide +kernel
theorem dX5_rankMask_24 : decode cX5_rankMask 24 = .ok (.istore_n 1, 1) := by decide +kernel
theorem dX5_rankMask_25 : decode cX5_rankMask 25 = .ok (.iinc 2 1, 3) := by decide +kernel
theorem dX5_rankMask_28 : decode cX5_rankMask 28 = .ok (.goto (-24), 3) := by decide +kernel
theorem dX5_rankMask_31 : decode cX5_rankMask 31 = .ok (.iload_n 1, 1) := by decide +kernel
theorem dX5_rankMask_32 : decode cX5_rankMask 32 = .ok (.ireturn, 1) := by decide +kernel
theorem dX6_init_0 : decode cX6_init 0 = .ok (.aload_n 0, 1) := by decide +kernel
theorem dX6_init_1 : decode cX6_init 1 = .ok (.invokespecial 3, 3) := by decide +kernel
theorem dX6_init_4 : decode cX6_init 4 = .ok (.aload_n 0, 1) := by decide +kernel
theorem dX6_init_5 : decode cX6_init 5 = .ok (.new 9, 3) := by decide +kernel
theorem dX6_init_8 : decode cX6_init 8 = .ok (.dup, 1) := by decide +kernel
theorem dX6_init_9 : decode cX6_init 9 = .ok (.bipush 30, 2) := by decide +kernel
theorem dX6_init_11 : decode cX6_init 11 = .ok (.invokespecial 11, 3) := by decide +kernel
theorem dX6_init_14 : decode cX6_init 14 = .ok (.putfield 14, 3) := by decide +kernel
theorem dX6_init_17 : decode cX6_init 17 = .ok (.aload_n 0, 1) := by decide +kernel
theorem dX6_init_18 : decode cX6_init 18 = .ok (.iconst 0, 1) := by decide +kernel
theorem dX6_init_19 : decode cX6_init 19 = .ok (.putfield 20, 3) := by decide +kernel
theorem dX6_init_22 : decode cX6_init 22 = .ok (.return_, 1) := by decide +kernel
theorem dX6_become_0 : decode cX6_become 0 = .ok (.aload_n 0, 1) := by decide +kernel
theorem dX6_become_1 : decode cX6_become 1 = .ok (.getfield 14, 3) := by decide +kernel
theorem dX6_become_4 : decode cX6_become 4 = .ok (.aload_n 1, 1) := by decide +kernel
theorem dX6_become_5 : decode cX6_become 5 = .ok (.getfield 14, 3) := by decide +kernel
theorem dX6_become_8 : decode cX6_become 8 = .ok (.invokevirtual 24, 3) := by decide +kernel
theorem dX6_become_11 : decode cX6_become 11 = .ok (.aload_n 0, 1) := by decide +kernel
theorem dX6_become_12 : decode cX6_become 12 = .ok (.aload_n 1, 1) := by decide +kernel
theorem dX6_become_13 : decode cX6_become 13 = .ok (.getfield 20, 3) := by decide +kernel
theorem dX6_become_16 : decode cX6_become 16 = .ok (.putfield 20, 3) := by decide +kernel
theorem dX6_become_19 : decode cX6_become 19 = .ok (.return_, 1) := by decide +kernel
theorem dX7_init_0 : decode cX7_init 0 = .ok (.aload_n 0, 1) := by decide +kernel
theorem dX7_init_1 : decode cX7_init 1 = .ok (.invokespecial 3, 3) := by decide +kernel
theorem dX7_init_4 : decode cX7_init 4 = .ok (.aload_n 0, 1) := by decide +kernel
theorem dX7_init_5 : decode cX7_init 5 = .ok (.bipush 60, 2) := by decide +kernel
theorem dX7_init_7 : decode cX7_init 7 = .ok (.newarray .int, 2) := by decide +kernel
theorem dX7_init_9 : decode cX7_init 9 = .ok (.putfield 9, 3) := by decide +kernel
theorem dX7_init_12 : decode cX7_init 12 = .ok (.aload_n 0, 1) := by decide +kernel
theorem dX7_init_13 : decode cX7_init 13 = .ok (.iconst 0, 1) := by decide +kernel
theorem dX7_init_14 : decode cX7_init 14 = .ok (.putfield 15, 3) := by decide +kernel
theorem dX7_init_17 : decode cX7_init 17 = .ok (.return_, 1) := by decide +kernel
theorem dX8_init_0 : decode cX8_init 0 = .ok (.aload_n 0, 1) := by decide +kernel
theorem dX8_init_1 : decode cX8_init 1 = .ok (.invokespecial 3, 3) := by decide +kernel
theorem dX8_init_4 : decode cX8_init 4 = .ok (.aload_n 0, 1) := by decide +kernel
theorem dX8_init_5 : decode cX8_init 5 = .ok (.new 9, 3) := by decide +kernel
theorem dX8_init_8 : decode cX8_init 8 = .ok (.dup, 1) := by decide +kernel
theorem dX8_init_9 : decode cX8_init 9 = .ok (.sipush 400, 3) := by decide +kernel
theorem dX8_init_12 : decode cX8_init 12 = .ok (.invokespecial 11, 3) := by decide +kernel
theorem dX8_init_15 : decode cX8_init 15 = .ok (.putfield 14, 3) := by decide +kernel
theorem dX8_init_18 : decode cX8_init 18 = .ok (.aload_n 0, 1) := by decide +kernel
theorem dX8_init_19 : decode cX8_init 19 = .ok (.new 9, 3) := by decide +kernel
theorem dX8_init_22 : decode cX8_init 22 = .ok (.dup, 1) := by decide +kernel
theorem dX8_init_23 : decode cX8_init 23 = .ok (.sipush 400, 3) := by decide +kernel
theorem dX8_init_26 : decode cX8_init 26 = .ok (.invokespecial 11, 3) := by decide +kernel
theorem dX8_init_29 : decode cX8_init 29 = .ok (.putfield 20, 3) := by decide +kernel
theorem dX8_init_32 : decode cX8_init 32 = .ok (.aload_n 0, 1) := by decide +kernel
theorem dX8_init_33 : decode cX8_init 33 = .ok (.new 23, 3) := by decide +kernel
theorem dX8_init_36 : decode cX8_init 36 = .ok (.dup, 1) := by decide +kernel
theorem dX8_init_37 : decode cX8_init 37 = .ok (.invokespecial 25, 3) := by decide +kernel
theorem dX8_init_40 : decode cX8_init 40 = .ok (.putfield 26, 3) := by decide +kernel
theorem dX8_init_43 : decode cX8_init 43 = .ok (.aload_n 0, 1) := by decide +kernel
theorem dX8_init_44 : decode cX8_init 44 = .ok (.iconst 0, 1) := by decide +kernel
theorem dX8_init_45 : decode cX8_init 45 = .ok (.putfield 30, 3) := by decide +kernel
theorem dX8_init_48 : decode cX8_init 48 = .ok (.aload_n 0, 1) := by decide +kernel
theorem dX8_init_49 : decode cX8_init 49 = .ok (.iconst 0, 1) := by decide +kernel
theorem dX8_init_50 : decode cX8_init 50 = .ok (.putfield 34, 3) := by decide +kernel
theorem dX8_init_53 : decode cX8_init 53 = .ok (.aload_n 0, 1) := by decide +kernel
theorem dX8_init_54 : decode cX8_init 54 = .ok (.iconst 0, 1) := by decide +kernel
theorem dX8_init_55 : decode cX8_init 55 = .ok (.putfield 37, 3) := by decide +kernel
theorem dX8_init_58 : decode cX8_init 58 = .ok (.return_, 1) := by decide +kernel
