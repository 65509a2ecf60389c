theorem dX10_init_0 : decode cX10_init 0 = .ok (.aload_n 0, 1) := by decide +kernel
theorem dX10_init_1 : decode cX10_init 1 = .ok (.invokespecial 1, 3) := by decide +kernel
theorem dX10_init_4 : decode cX10_init 4 = .ok (.aload_n 0, 1) := by decide +kernel
theorem dX10_init_5 : decode cX10_init 5 = .ok (.sipush 242, 3) := by decide +kernel
theorem dX10_init_8 : decode cX10_init 8 = .ok (.newarray .int, 2) := by decide +kernel
theorem dX10_init_10 : decode cX10_init 10 = .ok (.putfield 7, 3) := by decide +kernel
theorem dX10_init_13 : decode cX10_init 13 = .ok (.aload_n 0, 1) := by decide +kernel
theorem dX10_init_14 : decode cX10_init 14 = .ok (.sipush 242, 3) := by decide +kernel
theorem dX10_init_17 : decode cX10_init 17 = .ok (.newarray .int, 2) := by decide +kernel
theorem dX10_init_19 : decode cX10_init 19 = .ok (.putfield 13, 3) := by decide +kernel
theorem dX10_init_22 : decode cX10_init 22 = .ok (.aload_n 0, 1) := by decide +kernel
theorem dX10_init_23 : decode cX10_init 23 = .ok (.sipush 242, 3) := by decide +kernel
theorem dX10_init_26 : decode cX10_init 26 = .ok (.newarray .int, 2) := by decide +kernel
theorem dX10_init_28 : decode cX10_init 28 = .ok (.putfield 16, 3) := by decide +kernel
theorem dX10_init_31 : decode cX10_init 31 = .ok (.aload_n 0, 1) := by decide +kernel
theorem dX10_init_32 : decode cX10_init 32 = .ok (.bipush 6, 2) := by decide +kernel
theorem dX10_init_34 : decode cX10_init 34 = .ok (.newarray .int, 2) := by decide +kernel
theorem dX10_init_36 : decode cX10_init 36 = .ok (.putfield 19, 3) := by decide +kernel
theorem dX10_init_39 : decode cX10_init 39 = .ok (.aload_n 0, 1) := by decide +kernel
theorem dX10_init_40 : decode cX10_init 40 = .ok (.bipush 50, 2) := by decide +kernel
theorem dX10_init_42 : decode cX10_init 42 = .ok (.newarray .int, 2) := by decide +kernel
theorem dX10_init_44 : decode cX10_init 44 = .ok (.putfield 22, 3) := by decide +kernel
theorem dX10_init_47 : decode cX10_init 47 = .ok (.aload_n 0, 1) := by decide +kernel
theorem dX10_init_48 : decode cX10_init 48 = .ok (.bipush 50, 2) := by decide +kernel
theorem dX10_init_50 : decode cX10_init 50 = .ok (.newarray .int, 2) := by decide +kernel
theorem dX10_init_52 : decode cX10_init 52 = .ok (.putfield 25, 3) := by decide +kernel
theorem dX10_init_55 : decode cX10_init 55 = .ok (.aload_n 0, 1) := by decide +kernel
theorem dX10_init_56 : decode cX10_init 56 = .ok (.iconst 3, 1) := by decide +kernel
theorem dX10_init_57 : decode cX10_init 57 = .ok (.newarray .int, 2) := by decide +kernel
theorem dX10_init_59 : decode cX10_init 59 = .ok (.putfield 28, 3) := by decide +kernel
theorem dX10_init_62 : decode cX10_init 62 = .ok (.aload_n 0, 1) := by decide +kernel
theorem dX10_init_63 : decode cX10_init 63 = .ok (.bipush 6, 2) := by decide +kernel
theorem dX10_init_65 : decode cX10_init 65 = .ok (.newarray .int, 2) := by decide +kernel
theorem dX10_init_67 : decode cX10_init 67 = .ok (.putfield 31, 3) := by decide +kernel
theorem dX10_init_70 : decode cX10_init 70 = .ok (.aload_n 0, 1) := by decide +kernel
theorem dX10_init_71 : decode cX10_init 71 = .ok (.iconst 4, 1) := by decide +kernel
theorem dX10_init_72 : decode cX10_init 72 = .ok (.newarray .int, 2) := by decide +kernel
theorem dX10_init_74 : decode cX10_init 74 = .ok (.putfield 34, 3) := by decide +kernel
theorem dX10_init_77 : decode cX10_init 77 = .ok (.aload_n 0, 1) := by decide +kernel
theorem dX10_init_78 : decode cX10_init 78 = .ok (.iconst 4, 1) := by decide +kernel
theorem dX10_init_79 : decode cX10_init 79 = .ok (.newarray .int, 2) := by decide +kernel
theorem dX10_init_81 : decode cX10_init 81 = .ok (.putfield 37, 3) := by decide +kernel
theorem dX10_init_84 : decode cX10_init 84 = .ok (.aload_n 0, 1) := by decide +kernel
theorem dX10_init_85 : decode cX10_init 85 = .ok (.sipush 160, 3) := by decide +kernel
theorem dX10_init_88 : decode cX10_init 88 = .ok (.newarray .int, 2) := by decide +kernel
theorem dX10_init_90 : decode cX10_init 90 = .ok (.putfield 40, 3) := by decide +kernel
theorem dX10_init_93 : decode cX10_init 93 = .ok (.aload_n 0, 1) := by decide +kernel
theorem dX10_init_94 : decode cX10_init 94 = .ok (.bipush 40, 2) := by decide +kernel
theorem dX10_init_96 : decode cX10_init 96 = .ok (.newarray .int, 2) := by decide +kernel
theorem dX10_init_98 : decode cX10_init 98 = .ok (.putfield 43, 3) := by decide +kernel
theorem dX10_init_101 : decode cX10_init 101 = .ok (.aload_n 0, 1) := by decide +kernel
theorem dX10_init_102 : decode cX10_init 102 = .ok (.bipush 40, 2) := by decide +kernel
theorem dX10_init_104 : decode cX10_init 104 = .ok (.newarray .int, 2) := by decide +kernel
theorem dX10_init_106 : decode cX10_init 106 = .ok (.putfield 46, 3) := by decide +kernel
theorem dX10_init_109 : decode cX10_init 109 = .ok (.aload_n 0, 1) := by decide +kernel
theorem dX10_init_110 : decode cX10_init 110 = .ok (.getfield 7, 3) := by decide +kernel
theorem dX10_init_113 : decode cX10_init 113 = .ok (.iconst 1, 1) := by decide +kernel
theorem dX10_init_114 : decode cX10_init 114 = .ok (.iconst 1, 1) := by decide +kernel
theorem dX10_init_115 : decode cX10_init 115 = .ok (.iastore, 1) := by decide +kernel
theorem dX10_init_116 : decode cX10_init 116 = .ok (.aload_n 0, 1) := by decide +kernel
theorem dX10_init_117 : decode cX10_init 117 = .ok (.getfield 7, 3) := by decide +kernel
theorem dX10_init_120 : decode cX10_init 120 = .ok (.bipush 6, 2) := by decide +kernel
theorem dX10_init_122 : decode cX10_init 122 = .ok (.iconst (-1), 1) := by decide +kernel
theorem dX10_init_123 : decode cX10_init 123 = .ok (.iastore, 1) := by decide +kernel
theorem dX10_init_124 : decode cX10_init 124 = .ok (.aload_n 0, 1) := by decide +kernel
theorem dX10_init_125 : decode cX10_init 125 = .ok (.getfield 7, 3) := by decide +kernel
theorem dX10_init_128 : decode cX10_init 128 = .ok (.bipush 7, 2) := by decide +kernel
theorem dX10_init_130 : decode cX10_init 130 = .ok (.iconst (-1), 1) := by decide +kernel
theorem dX10_init_131 : decode cX10_init 131 = .ok (.iastore, 1) := by decide +kernel
theorem dX10_init_132 : decode cX10_init 132 = .ok (.return_, 1) := by decide +kernel
theorem dX10_in_0 : decode cX10_in 0 = .ok (.iload_n 0, 1) := by decide +kernel
theorem dX10_in_1 : decode cX10_in 1 = .ok (.iload_n 1, 1) := by decide +kernel
theorem dX10_in_2 : decode cX10_in 2 = .ok (.if_icmp .lt 12, 3) := by decide +kernel
theorem dX10_in_5 : decode cX10_in 5 = .ok (.iload_n 0, 1) := by decide +kernel
theorem dX10_in_6 : decode cX10_in 6 = .ok (.iload_n 2, 1) := by decide +kernel
theorem dX10_in_7 : decode cX10_in 7 = .ok (.if_icmp .gt 7, 3) := by decide +kernel
theorem dX10_in_10 : decode cX10_in 10 = .ok (.iconst 1, 1) := by decide +kernel
theorem dX10_in_11 : decode cX10_in 11 = .ok (.goto 4, 3) := by decide +kernel
theorem dX10_in_14 : decode cX10_in 14 = .ok (.iconst 0, 1) := by decide +kernel
theorem dX10_in_15 : decode cX10_in 15 = .ok (.ireturn, 1) := by decide +kernel
theorem dX10_errs_0 : decode cX10_errs 0 = .ok (.aload_n 0, 1) := by decide +kernel
theorem dX10_errs_1 : decode cX10_errs 1 = .ok (.getfield 19, 3) := by decide +kernel
theorem dX10_errs_4 : decode cX10_errs 4 = .ok (.ldc 49, 2) := by decide +kernel
theorem dX10_errs_6 : decode cX10_errs 6 = .ok (.iload_n 1, 1) := by decide +kernel
theorem dX10_errs_7 : decode cX10_errs 7 = .ok (.isub, 1) := by decide +kernel
theorem dX10_errs_8 : decode cX10_errs 8 = .ok (.dup2, 1) := by decide +kernel
theorem dX10_errs_9 : decode cX10_errs 9 = .ok (.iaload, 1) := by decide +kernel
theorem dX10_errs_10 : decode cX10_errs 10 = .ok (.iconst 1, 1) := by decide +kernel
theorem dX10_errs_11 : decode cX10_errs 11 = .ok (.iadd, 1) := by decide +kernel
theorem dX10_errs_12 : decode cX10_errs 12 = .ok (.iastore, 1) := by decide +kernel
theorem dX10_errs_13 : decode cX10_errs 13 = .ok (.iload_n 1, 1) := by decide +kernel
theorem dX10_errs_14 : decode cX10_errs 14 = .ok (.ireturn, 1) := by decide +kernel
theorem dX10_held_0 : decode cX10_held 0 = .ok (.iload_n 0, 1) := by decide +kernel
theorem dX10_held_1 : decode cX10_held 1 = .ok (.iload_n 1, 1) := by decide +kernel
theorem dX10_held_2 : decode cX10_held 2 = .ok (.if_icmp .ge 7, 3) := by decide +kernel
theorem dX10_held_5 : decode cX10_held 5 = .ok (.iload_n 1, 1) := by decide +kernel
theorem dX10_held_6 : decode cX10_held 6 = .ok (.goto 13, 3) := by decide +kernel
theorem dX10_held_9 : decode cX10_held 9 = .ok (.iload_n 0, 1) := by decide +kernel
theorem dX10_held_10 : decode cX10_held 10 = .ok (.iload_n 2, 1) := by decide +kernel
theorem dX10_held_11 : decode cX10_held 11 = .ok (.if_icmp .le 7, 3) := by decide +kernel
theorem dX10_held_14 : decode cX10_held 14 = .ok (.iload_n 2, 1) := by decide +kernel
theorem dX10_held_15 : decode cX10_held 15 = .ok (.goto 4, 3) := by decide +kernel
theorem dX10_held_18 : decode cX10_held 18 = .ok (.iload_n 0, 1) := by decide +kernel
theorem dX10_held_19 : decode cX10_held 19 = .ok (.ireturn, 1) := by decide +kernel
theorem dX10_moveAll_0 : decode cX10_moveAll 0 = .ok (.iconst 0, 1) := by decide +kernel
theorem dX10_moveAll_1 : decode cX10_moveAll 1 = .ok (.istore_n 3, 1) := by decide +kernel
theorem dX10_moveAll_2 : decode cX10_moveAll 2 = .ok (.iload_n 3, 1) := by decide +kernel
theorem dX10_moveAll_3 : decode cX10_moveAll 3 = .ok (.sipush 242, 3) := by decide +kernel
theorem dX10_moveAll_6 : decode cX10_moveAll 6 = .ok (.if_icmp .ge 15, 3) := by decide +kernel
theorem dX10_moveAll_9 : decode cX10_moveAll 9 = .ok (.aload_n 2, 1) := by decide +kernel
theorem dX10_moveAll_10 : decode cX10_moveAll 10 = .ok (.iload_n 3, 1) := by decide +kernel
theorem dX10_moveAll_11 : decode cX10_moveAll 11 = .ok (.aload_n 1, 1) := by decide +kernel
theorem dX10_moveAll_12 : decode cX10_moveAll 12 = .ok (.iload_n 3, 1) := by decide +kernel
theorem dX10_moveAll_13 : decode cX10_moveAll 13 = .ok (.iaload, 1) := by decide +kernel
theorem dX10_moveAll_14 : decode cX10_moveAll 14 = .ok (.iastore, 1) := by decide +kernel
theorem dX10_moveAll_15 : decode cX10_moveAll 15 = .ok (.iinc 3 1, 3) := by decide +kernel
theorem dX10_moveAll_18 : decode cX10_moveAll 18 = .ok (.goto (-16), 3) := by decide +kernel
theorem dX10_moveAll_21 : decode cX10_moveAll 21 = .ok (.return_, 1) := by decide +kernel
theorem dX10_bits_0 : decode cX10_bits 0 = .ok (.iconst 0, 1) := by decide +kernel
theorem dX10_bits_1 : decode cX10_bits 1 = .ok (.istore_n 1, 1) := by decide +kernel
theorem dX10_bits_2 : decode cX10_bits 2 = .ok (.iload_n 0, 1) := by decide +kernel
theorem dX10_bits_3 : decode cX10_bits 3 = .ok (.istore_n 2, 1) := by decide +kernel
theorem dX10_bits_4 : decode cX10_bits 4 = .ok (.iload_n 2, 1) := by decide +kernel
theorem dX10_bits_5 : decode cX10_bits 5 = .ok (.ifCond .eq 15, 3) := by decide +kernel
theorem dX10_bits_8 : decode cX10_bits 8 = .ok (.iinc 1 1, 3) := by decide +kernel
theorem dX10_bits_11 : decode cX10_bits 11 = .ok (.iload_n 2, 1) := by decide +kernel
theorem dX10_bits_12 : decode cX10_bits 12 = .ok (.iload_n 2, 1) := by decide +kernel
theorem dX10_bits_13 : decode cX10_bits 13 = .ok (.iconst 1, 1) := by decide +kernel
theorem dX10_bits_14 : decode cX10_bits 14 = .ok (.isub, 1) := by decide +kernel
theorem dX10_bits_15 : decode cX10_bits 15 = .ok (.iand, 1) := by decide +kernel
theorem dX10_bits_16 : decode cX10_bits 16 = .ok (.istore_n 2, 1) := by decide +kernel
theorem dX10_bits_17 : decode cX10_bits 17 = .ok (.goto (-13), 3) := by decide +kernel
theorem dX10_bits_20 : decode cX10_bits 20 = .ok (.iload_n 1, 1) := by decide +kernel
theorem dX10_bits_21 : decode cX10_bits 21 = .ok (.ireturn, 1) := by decide +kernel
theorem dX10_its_0 : decode cX10_its 0 = .ok (.aload_n 0, 1) := by decide +kernel
theorem dX10_its_1 : decode cX10_its 1 = .ok (.getfield 7, 3) := by decide +kernel
theorem dX10_its_4 : decode cX10_its 4 = .ok (.bipush 30, 2) := by decide +kernel
theorem dX10_its_6 : decode cX10_its 6 = .ok (.bipush 6, 2) := by decide +kernel
theorem dX10_its_8 : decode cX10_its 8 = .ok (.iload_n 1, 1) := by decide +kernel
theorem dX10_its_9 : decode cX10_its 9 = .ok (.imul, 1) := by decide +kernel
theorem dX10_its_10 : decode cX10_its 10 = .ok (.iadd, 1) := by decide +kernel
theorem dX10_its_11 : decode cX10_its 11 = .ok (.iload_n 2, 1) := by decide +kernel
theorem dX10_its_12 : decode cX10_its 12 = .ok (.iadd, 1) := by decide +kernel
theorem dX10_its_13 : decode cX10_its 13 = .ok (.iaload, 1) := by decide +kernel
theorem dX10_its_14 : decode cX10_its 14 = .ok (.ireturn, 1) := by decide +kernel
theorem dX10_gets_0 : decode cX10_gets 0 = .ok (.aload_n 0, 1) := by decide +kernel
theorem dX10_gets_1 : decode cX10_gets 1 = .ok (.getfield 7, 3) := by decide +kernel
theorem dX10_gets_4 : decode cX10_gets 4 = .ok (.bipush 30, 2) := by decide +kernel
theorem dX10_gets_6 : decode cX10_gets 6 = .ok (.bipush 6, 2) := by decide +kernel
theorem dX10_gets_8 : decode cX10_gets 8 = .ok (.iload_n 1, 1) := by decide +kernel
theorem dX10_gets_9 : decode cX10_gets 9 = .ok (.imul, 1) := by decide +kernel
theorem dX10_gets_10 : decode cX10_gets 10 = .ok (.iadd, 1) := by decide +kernel
theorem dX10_gets_11 : decode cX10_gets 11 = .ok (.iload_n 2, 1) := by decide +kernel
theorem dX10_gets_12 : decode cX10_gets 12 = .ok (.iadd, 1) := by decide +kernel
theorem dX10_gets_13 : decode cX10_gets 13 = .ok (.iload_n 3, 1) := by decide +kernel
theorem dX10_gets_14 : decode cX10_gets 14 = .ok (.iastore, 1) := by decide +kernel
theorem dX10_gets_15 : decode cX10_gets 15 = .ok (.return_, 1) := by decide +kernel
theorem dX10_at_0 : decode cX10_at 0 = .ok (.aload_n 0, 1) := by decide +kernel
theorem dX10_at_1 : decode cX10_at 1 = .ok (.getfield 7, 3) := by decide +kernel
theorem dX10_at_4 : decode cX10_at 4 = .ok (.bipush 18, 2) := by decide +kernel
theorem dX10_at_6 : decode cX10_at 6 = .ok (.iconst 2, 1) := by decide +kernel
theorem dX10_at_7 : decode cX10_at 7 = .ok (.iload_n 1, 1) := by decide +kernel
theorem dX10_at_8 : decode cX10_at 8 = .ok (.imul, 1) := by decide +kernel
theorem dX10_at_9 : decode cX10_at 9 = .ok (.iadd, 1) := by decide +kernel
theorem dX10_at_10 : decode cX10_at 10 = .ok (.iaload, 1) := by decide +kernel
theorem dX10_at_11 : decode cX10_at 11 = .ok (.ireturn, 1) := by decide +kernel
theorem dX10_isCell_0 : decode cX10_isCell 0 = .ok (.iload_n 0, 1) := by decide +kernel
theorem dX10_isCell_1 : decode cX10_isCell 1 = .ok (.iconst 0, 1) := by decide +kernel
theorem dX10_isCell_2 : decode cX10_isCell 2 = .ok (.bipush 9, 2) := by decide +kernel
theorem dX10_isCell_4 : decode cX10_isCell 4 = .ok (.invokestatic 50, 3) := by decide +kernel
theorem dX10_isCell_7 : decode cX10_isCell 7 = .ok (.ireturn, 1) := by decide +kernel
theorem dX10_isSeeker_0 : decode cX10_isSeeker 0 = .ok (.iload_n 1, 1) := by decide +kernel
theorem dX10_isSeeker_1 : decode cX10_isSeeker 1 = .ok (.iconst 0, 1) := by decide +kernel
theorem dX10_isSeeker_2 : decode cX10_isSeeker 2 = .ok (.aload_n 0, 1) := by decide +kernel
theorem dX10_isSeeker_3 : decode cX10_isSeeker 3 = .ok (.getfield 7, 3) := by decide +kernel
theorem dX10_isSeeker_6 : decode cX10_isSeeker 6 = .ok (.iconst 3, 1) := by decide +kernel
theorem dX10_isSeeker_7 : decode cX10_isSeeker 7 = .ok (.iaload, 1) := by decide +kernel
theorem dX10_isSeeker_8 : decode cX10_isSeeker 8 = .ok (.iconst 1, 1) := by decide +kernel
theorem dX10_isSeeker_9 : decode cX10_isSeeker 9 = .ok (.isub, 1) := by decide +kernel
theorem dX10_isSeeker_10 : decode cX10_isSeeker 10 = .ok (.invokestatic 50, 3) := by decide +kernel
theorem dX10_isSeeker_13 : decode cX10_isSeeker 13 = .ok (.ireturn, 1) := by decide +kernel
theorem dX10_isSheep_0 : decode cX10_isSheep 0 = .ok (.iload_n 1, 1) := by decide +kernel
theorem dX10_isSheep_1 : decode cX10_isSheep 1 = .ok (.iconst 0, 1) := by decide +kernel
theorem dX10_isSheep_2 : decode cX10_isSheep 2 = .ok (.aload_n 0, 1) := by decide +kernel
theorem dX10_isSheep_3 : decode cX10_isSheep 3 = .ok (.getfield 7, 3) := by decide +kernel
theorem dX10_isSheep_6 : decode cX10_isSheep 6 = .ok (.iconst 2, 1) := by decide +kernel
theorem dX10_isSheep_7 : decode cX10_isSheep 7 = .ok (.iaload, 1) := by decide +kernel
theorem dX10_isSheep_8 : decode cX10_isSheep 8 = .ok (.iconst 1, 1) := by decide +kernel
theorem dX10_isSheep_9 : decode cX10_isSheep 9 = .ok (.isub, 1) := by decide +kernel
theorem dX10_isSheep_10 : decode cX10_isSheep 10 = .ok (.invokestatic 50, 3) := by decide +kernel
theorem dX10_isSheep_13 : decode cX10_isSheep 13 = .ok (.ireturn, 1) := by decide +kernel
theorem dX10_isMark_0 : decode cX10_isMark 0 = .ok (.iload_n 1, 1) := by decide +kernel
theorem dX10_isMark_1 : decode cX10_isMark 1 = .ok (.iconst 0, 1) := by decide +kernel
theorem dX10_isMark_2 : decode cX10_isMark 2 = .ok (.iconst 1, 1) := by decide +kernel
theorem dX10_isMark_3 : decode cX10_isMark 3 = .ok (.aload_n 0, 1) := by decide +kernel
theorem dX10_isMark_4 : decode cX10_isMark 4 = .ok (.getfield 7, 3) := by decide +kernel
theorem dX10_isMark_7 : decode cX10_isMark 7 = .ok (.iconst 3, 1) := by decide +kernel
theorem dX10_isMark_8 : decode cX10_isMark 8 = .ok (.iaload, 1) := by decide +kernel
theorem dX10_isMark_9 : decode cX10_isMark 9 = .ok (.ishl, 1) := by decide +kernel
theorem dX10_isMark_10 : decode cX10_isMark 10 = .ok (.iconst 1, 1) := by decide +kernel
theorem dX10_isMark_11 : decode cX10_isMark 11 = .ok (.isub, 1) := by decide +kernel
theorem dX10_isMark_12 : decode cX10_isMark 12 = .ok (.invokestatic 50, 3) := by decide +kernel
theorem dX10_isMark_15 : decode cX10_isMark 15 = .ok (.ireturn, 1) := by decide +kernel
theorem dX10_becomes_0 : decode cX10_becomes 0 = .ok (.aload_n 0, 1) := by decide +kernel
theorem dX10_becomes_1 : decode cX10_becomes 1 = .ok (.getfield 7, 3) := by decide +kernel
theorem dX10_becomes_4 : decode cX10_becomes 4 = .ok (.iload_n 1, 1) := by decide +kernel
theorem dX10_becomes_5 : decode cX10_becomes 5 = .ok (.iaload, 1) := by decide +kernel
theorem dX10_becomes_6 : decode cX10_becomes 6 = .ok (.istore_n 3, 1) := by decide +kernel
theorem dX10_becomes_7 : decode cX10_becomes 7 = .ok (.aload_n 0, 1) := by decide +kernel
theorem dX10_becomes_8 : decode cX10_becomes 8 = .ok (.getfield 7, 3) := by decide +kernel
theorem dX10_becomes_11 : decode cX10_becomes 11 = .ok (.iload_n 1, 1) := by decide +kernel
theorem dX10_becomes_12 : decode cX10_becomes 12 = .ok (.iload_n 2, 1) := by decide +kernel
theorem dX10_becomes_13 : decode cX10_becomes 13 = .ok (.iastore, 1) := by decide +kernel
theorem dX10_becomes_14 : decode cX10_becomes 14 = .ok (.iload_n 3, 1) := by decide +kernel
theorem dX10_becomes_15 : decode cX10_becomes 15 = .ok (.ireturn, 1) := by decide +kernel
theorem dX10_snow_0 : decode cX10_snow 0 = .ok (.iload_n 1, 1) := by decide +kernel
theorem dX10_snow_1 : decode cX10_snow 1 = .ok (.invokestatic 54, 3) := by decide +kernel
theorem dX10_snow_4 : decode cX10_snow 4 = .ok (.ifCond .eq 26, 3) := by decide +kernel
theorem dX10_snow_7 : decode cX10_snow 7 = .ok (.iload_n 2, 1) := by decide +kernel
theorem dX10_snow_8 : decode cX10_snow 8 = .ok (.iconst 0, 1) := by decide +kernel
theorem dX10_snow_9 : decode cX10_snow 9 = .ok (.sipush 999, 3) := by decide +kernel
theorem dX10_snow_12 : decode cX10_snow 12 = .ok (.invokestatic 50, 3) := by decide +kernel
theorem dX10_snow_15 : decode cX10_snow 15 = .ok (.ifCond .eq 15, 3) := by decide +kernel
theorem dX10_snow_18 : decode cX10_snow 18 = .ok (.aload_n 0, 1) := by decide +kernel
theorem dX10_snow_19 : decode cX10_snow 19 = .ok (.bipush 8, 2) := by decide +kernel
theorem dX10_snow_21 : decode cX10_snow 21 = .ok (.iload_n 1, 1) := by decide +kernel
theorem dX10_snow_22 : decode cX10_snow 22 = .ok (.iadd, 1) := by decide +kernel
theorem dX10_snow_23 : decode cX10_snow 23 = .ok (.iload_n 2, 1) := by decide +kernel
theorem dX10_snow_24 : decode cX10_snow 24 = .ok (.invokevirtual 58, 3) := by decide +kernel
theorem dX10_snow_27 : decode cX10_snow 27 = .ok (.goto 9, 3) := by decide +kernel
theorem dX10_snow_30 : decode cX10_snow 30 = .ok (.aload_n 0, 1) := by decide +kernel
theorem dX10_snow_31 : decode cX10_snow 31 = .ok (.ldc 62, 2) := by decide +kernel
theorem dX10_snow_33 : decode cX10_snow 33 = .ok (.invokevirtual 63, 3) := by decide +kernel
theorem dX10_snow_36 : decode cX10_snow 36 = .ok (.ireturn, 1) := by decide +kernel
theorem dX10_thereIn_0 : decode cX10_thereIn 0 = .ok (.iconst 0, 1) := by decide +kernel
theorem dX10_thereIn_1 : decode cX10_thereIn 1 = .ok (.istore_n 3, 1) := by decide +kernel
theorem dX10_thereIn_2 : decode cX10_thereIn 2 = .ok (.iconst 0, 1) := by decide +kernel
theorem dX10_thereIn_3 : decode cX10_thereIn 3 = .ok (.istore 4, 2) := by decide +kernel
theorem dX10_thereIn_5 : decode cX10_thereIn 5 = .ok (.iload 4, 2) := by decide +kernel
theorem dX10_thereIn_7 : decode cX10_thereIn 7 = .ok (.iload_n 2, 1) := by decide +kernel
theorem dX10_thereIn_8 : decode cX10_thereIn 8 = .ok (.ifCond .eq 12, 3) := by decide +kernel
theorem dX10_thereIn_11 : decode cX10_thereIn 11 = .ok (.aload_n 0, 1) := by decide +kernel
theorem dX10_thereIn_12 : decode cX10_thereIn 12 = .ok (.getfield 7, 3) := by decide +kernel
theorem dX10_thereIn_15 : decode cX10_thereIn 15 = .ok (.iconst 2, 1) := by decide +kernel
theorem dX10_thereIn_16 : decode cX10_thereIn 16 = .ok (.iaload, 1) := by decide +kernel
theorem dX10_thereIn_17 : decode cX10_thereIn 17 = .ok (.goto 9, 3) := by decide +kernel
theorem dX10_thereIn_20 : decode cX10_thereIn 20 = .ok (.aload_n 0, 1) := by decide +kernel
theorem dX10_thereIn_21 : decode cX10_thereIn 21 = .ok (.getfield 7, 3) := by decide +kernel
theorem dX10_thereIn_24 : decode cX10_thereIn 24 = .ok (.iconst 3, 1) := by decide +kernel
theorem dX10_thereIn_25 : decode cX10_thereIn 25 = .ok (.iaload, 1) := by decide +kernel
theorem dX10_thereIn_26 : decode cX10_thereIn 26 = .ok (.if_icmp .ge 44, 3) := by decide +kernel
theorem dX10_thereIn_29 : decode cX10_thereIn 29 = .ok (.iload_n 3, 1) := by decide +kernel
theorem dX10_thereIn_30 : decode cX10_thereIn 30 = .ok (.iload_n 2, 1) := by decide +kernel
theorem dX10_thereIn_31 : decode cX10_thereIn 31 = .ok (.ifCond .eq 13, 3) := by decide +kernel
theorem dX10_thereIn_34 : decode cX10_thereIn 34 = .ok (.aload_n 0, 1) := by decide +kernel
theorem dX10_thereIn_35 : decode cX10_thereIn 35 = .ok (.iload 4, 2) := by decide +kernel
theorem dX10_thereIn_37 : decode cX10_thereIn 37 = .ok (.iconst 2, 1) := by decide +kernel
theorem dX10_thereIn_38 : decode cX10_thereIn 38 = .ok (.invokevirtual 67, 3) := by decide +kernel
theorem dX10_thereIn_41 : decode cX10_thereIn 41 = .ok (.goto 9, 3) := by decide +kernel
theorem dX10_thereIn_44 : decode cX10_thereIn 44 = .ok (.aload_n 0, 1) := by decide +kernel
theorem dX10_thereIn_45 : decode cX10_thereIn 45 = .ok (.iload 4, 2) := by decide +kernel
theorem dX10_thereIn_47 : decode cX10_thereIn 47 = .ok (.invokevirtual 70, 3) := by decide +kernel
theorem dX10_thereIn_50 : decode cX10_thereIn 50 = .ok (.iload_n 1, 1) := by decide +kernel
theorem dX10_thereIn_51 : decode cX10_thereIn 51 = .ok (.if_icmp .ne 10, 3) := by decide +kernel
theorem dX10_thereIn_54 : decode cX10_thereIn 54 = .ok (.iconst 1, 1) := by decide +kernel
theorem dX10_thereIn_55 : decode cX10_thereIn 55 = .ok (.iload 4, 2) := by decide +kernel
theorem dX10_thereIn_57 : decode cX10_thereIn 57 = .ok (.ishl, 1) := by decide +kernel
theorem dX10_thereIn_58 : decode cX10_thereIn 58 = .ok (.goto 4, 3) := by decide +kernel
theorem dX10_thereIn_61 : decode cX10_thereIn 61 = .ok (.iconst 0, 1) := by decide +kernel
theorem dX10_thereIn_62 : decode cX10_thereIn 62 = .ok (.ior, 1) := by decide +kernel
theorem dX10_thereIn_63 : decode cX10_thereIn 63 = .ok (.istore_n 3, 1) := by decide +kernel
theorem dX10_thereIn_64 : decode cX10_thereIn 64 = .ok (.iinc 4 1, 3) := by decide +kernel
theorem dX10_thereIn_67 : decode cX10_thereIn 67 = .ok (.goto (-62), 3) := by decide +kernel
theorem dX10_thereIn_70 : decode cX10_thereIn 70 = .ok (.iload_n 3, 1) := by decide +kernel
theorem dX10_thereIn_71 : decode cX10_thereIn 71 = .ok (.ireturn, 1) := by decide +kernel
theorem dX10_ofCell_0 : decode cX10_ofCell 0 = .ok (.iload_n 1, 1) := by decide +kernel
theorem dX10_ofCell_1 : decode cX10_ofCell 1 = .ok (.invokestatic 54, 3) := by decide +kernel
theorem dX10_ofCell_4 : decode cX10_ofCell 4 = .ok (.ifCond .eq 12, 3) := by decide +kernel
theorem dX10_ofCell_7 : decode cX10_ofCell 7 = .ok (.iload_n 2, 1) := by decide +kernel
theorem dX10_ofCell_8 : decode cX10_ofCell 8 = .ok (.iconst 0, 1) := by decide +kernel
theorem dX10_ofCell_9 : decode cX10_ofCell 9 = .ok (.iconst 2, 1) := by decide +kernel
theorem dX10_ofCell_10 : decode cX10_ofCell 10 = .ok (.invokestatic 50, 3) := by decide +kernel
theorem dX10_ofCell_13 : decode cX10_ofCell 13 = .ok (.ifCond .ne 10, 3) := by decide +kernel
theorem dX10_ofCell_16 : decode cX10_ofCell 16 = .ok (.aload_n 0, 1) := by decide +kernel
theorem dX10_ofCell_17 : decode cX10_ofCell 17 = .ok (.ldc 62, 2) := by decide +kernel
theorem dX10_ofCell_19 : decode cX10_ofCell 19 = .ok (.invokevirtual 63, 3) := by decide +kernel
theorem dX10_ofCell_22 : decode cX10_ofCell 22 = .ok (.ireturn, 1) := by decide +kernel
theorem dX10_ofCell_23 : decode cX10_ofCell 23 = .ok (.iload_n 2, 1) := by decide +kernel
theorem dX10_ofCell_24 : decode cX10_ofCell 24 = .ok (.ifCond .ne 15, 3) := by decide +kernel
theorem dX10_ofCell_27 : decode cX10_ofCell 27 = .ok (.aload_n 0, 1) := by decide +kernel
theorem dX10_ofCell_28 : decode cX10_ofCell 28 = .ok (.getfield 7, 3) := by decide +kernel
theorem dX10_ofCell_31 : decode cX10_ofCell 31 = .ok (.bipush 8, 2) := by decide +kernel
theorem dX10_ofCell_33 : decode cX10_ofCell 33 = .ok (.iload_n 1, 1) := by decide +kernel
theorem dX10_ofCell_34 : decode cX10_ofCell 34 = .ok (.iadd, 1) := by decide +kernel
theorem dX10_ofCell_35 : decode cX10_ofCell 35 = .ok (.iaload, 1) := by decide +kernel
theorem dX10_ofCell_36 : decode cX10_ofCell 36 = .ok (.goto 18, 3) := by decide +kernel
theorem dX10_ofCell_39 : decode cX10_ofCell 39 = .ok (.aload_n 0, 1) := by decide +kernel
theorem dX10_ofCell_40 : decode cX10_ofCell 40 = .ok (.iload_n 1, 1) := by decide +kernel
theorem dX10_ofCell_41 : decode cX10_ofCell 41 = .ok (.iload_n 2, 1) := by decide +kernel
theorem dX10_ofCell_42 : decode cX10_ofCell 42 = .ok (.iconst 2, 1) := by decide +kernel
theorem dX10_ofCell_43 : decode cX10_ofCell 43 = .ok (.if_icmp .ne 7, 3) := by decide +kernel
theorem dX10_ofCell_46 : decode cX10_ofCell 46 = .ok (.iconst 1, 1) := by decide +kernel
theorem dX10_ofCell_47 : decode cX10_ofCell 47 = .ok (.goto 4, 3) := by decide +kernel
theorem dX10_ofCell_50 : decode cX10_ofCell 50 = .ok (.iconst 0, 1) := by decide +kernel
theorem dX10_ofCell_51 : decode cX10_ofCell 51 = .ok (.invokevirtual 73, 3) := by decide +kernel
theorem dX10_ofCell_54 : decode cX10_ofCell 54 = .ok (.ireturn, 1) := by decide +kernel
theorem dX10_seeker_0 : decode cX10_seeker 0 = .ok (.iload_n 1, 1) := by decide +kernel
theorem dX10_seeker_1 : decode cX10_seeker 1 = .ok (.invokestatic 54, 3) := by decide +kernel
theorem dX10_seeker_4 : decode cX10_seeker 4 = .ok (.ifCond .eq 13, 3) := by decide +kernel
theorem dX10_seeker_7 : decode cX10_seeker 7 = .ok (.iload_n 2, 1) := by decide +kernel
theorem dX10_seeker_8 : decode cX10_seeker 8 = .ok (.iconst 0, 1) := by decide +kernel
theorem dX10_seeker_9 : decode cX10_seeker 9 = .ok (.bipush 99, 2) := by decide +kernel
theorem dX10_seeker_11 : decode cX10_seeker 11 = .ok (.invokestatic 50, 3) := by decide +kernel
theorem dX10_seeker_14 : decode cX10_seeker 14 = .ok (.ifCond .ne 10, 3) := by decide +kernel
theorem dX10_seeker_17 : decode cX10_seeker 17 = .ok (.aload_n 0, 1) := by decide +kernel
theorem dX10_seeker_18 : decode cX10_seeker 18 = .ok (.ldc 62, 2) := by decide +kernel
theorem dX10_seeker_20 : decode cX10_seeker 20 = .ok (.invokevirtual 63, 3) := by decide +kernel
theorem dX10_seeker_23 : decode cX10_seeker 23 = .ok (.ireturn, 1) := by decide +kernel
theorem dX10_seeker_24 : decode cX10_seeker 24 = .ok (.aload_n 0, 1) := by decide +kernel
theorem dX10_seeker_25 : decode cX10_seeker 25 = .ok (.getfield 7, 3) := by decide +kernel
theorem dX10_seeker_28 : decode cX10_seeker 28 = .ok (.iconst 3, 1) := by decide +kernel
theorem dX10_seeker_29 : decode cX10_seeker 29 = .ok (.iaload, 1) := by decide +kernel
theorem dX10_seeker_30 : decode cX10_seeker 30 = .ok (.bipush 6, 2) := by decide +kernel
theorem dX10_seeker_32 : decode cX10_seeker 32 = .ok (.if_icmp .ne 10, 3) := by decide +kernel
theorem dX10_seeker_35 : decode cX10_seeker 35 = .ok (.aload_n 0, 1) := by decide +kernel
theorem dX10_seeker_36 : decode cX10_seeker 36 = .ok (.ldc 77, 2) := by decide +kernel
theorem dX10_seeker_38 : decode cX10_seeker 38 = .ok (.invokevirtual 63, 3) := by decide +kernel
theorem dX10_seeker_41 : decode cX10_seeker 41 = .ok (.ireturn, 1) := by decide +kernel
theorem dX10_seeker_42 : decode cX10_seeker 42 = .ok (.aload_n 0, 1) := by decide +kernel
theorem dX10_seeker_43 : decode cX10_seeker 43 = .ok (.getfield 7, 3) := by decide +kernel
theorem dX10_seeker_46 : decode cX10_seeker 46 = .ok (.iconst 3, 1) := by decide +kernel
theorem dX10_seeker_47 : decode cX10_seeker 47 = .ok (.iaload, 1) := by decide +kernel
theorem dX10_seeker_48 : decode cX10_seeker 48 = .ok (.istore_n 3, 1) := by decide +kernel
theorem dX10_seeker_49 : decode cX10_seeker 49 = .ok (.aload_n 0, 1) := by decide +kernel
theorem dX10_seeker_50 : decode cX10_seeker 50 = .ok (.getfield 7, 3) := by decide +kernel
theorem dX10_seeker_53 : decode cX10_seeker 53 = .ok (.bipush 18, 2) := by decide +kernel
theorem dX10_seeker_55 : decode cX10_seeker 55 = .ok (.iconst 2, 1) := by decide +kernel
theorem dX10_seeker_56 : decode cX10_seeker 56 = .ok (.iload_n 3, 1) := by decide +kernel
theorem dX10_seeker_57 : decode cX10_seeker 57 = .ok (.imul, 1) := by decide +kernel
theorem dX10_seeker_58 : decode cX10_seeker 58 = .ok (.iadd, 1) := by decide +kernel
theorem dX10_seeker_59 : decode cX10_seeker 59 = .ok (.iload_n 1, 1) := by decide +kernel
theorem dX10_seeker_60 : decode cX10_seeker 60 = .ok (.iastore, 1) := by decide +kernel
theorem dX10_seeker_61 : decode cX10_seeker 61 = .ok (.aload_n 0, 1) := by decide +kernel
theorem dX10_seeker_62 : decode cX10_seeker 62 = .ok (.getfield 7, 3) := by decide +kernel
theorem dX10_seeker_65 : decode cX10_seeker 65 = .ok (.bipush 18, 2) := by decide +kernel
theorem dX10_seeker_67 : decode cX10_seeker 67 = .ok (.iconst 2, 1) := by decide +kernel
theorem dX10_seeker_68 : decode cX10_seeker 68 = .ok (.iload_n 3, 1) := by decide +kernel
theorem dX10_seeker_69 : decode cX10_seeker 69 = .ok (.imul, 1) := by decide +kernel
theorem dX10_seeker_70 : decode cX10_seeker 70 = .ok (.iadd, 1) := by decide +kernel
theorem dX10_seeker_71 : decode cX10_seeker 71 = .ok (.iconst 1, 1) := by decide +kernel
theorem dX10_seeker_72 : decode cX10_seeker 72 = .ok (.iadd, 1) := by decide +kernel
theorem dX10_seeker_73 : decode cX10_seeker 73 = .ok (.iload_n 2, 1) := by decide +kernel
theorem dX10_seeker_74 : decode cX10_seeker 74 = .ok (.iastore, 1) := by decide +kernel
theorem dX10_seeker_75 : decode cX10_seeker 75 = .ok (.aload_n 0, 1) := by decide +kernel
theorem dX10_seeker_76 : decode cX10_seeker 76 = .ok (.getfield 7, 3) := by decide +kernel
theorem dX10_seeker_79 : decode cX10_seeker 79 = .ok (.iconst 3, 1) := by decide +kernel
theorem dX10_seeker_80 : decode cX10_seeker 80 = .ok (.dup2, 1) := by decide +kernel
theorem dX10_seeker_81 : decode cX10_seeker 81 = .ok (.iaload, 1) := by decide +kernel
theorem dX10_seeker_82 : decode cX10_seeker 82 = .ok (.iconst 1, 1) := by decide +kernel
theorem dX10_seeker_83 : decode cX10_seeker 83 = .ok (.iadd, 1) := by decide +kernel
theorem dX10_seeker_84 : decode cX10_seeker 84 = .ok (.iastore, 1) := by decide +kernel
theorem dX10_seeker_85 : decode cX10_seeker 85 = .ok (.iload_n 3, 1) := by decide +kernel
theorem dX10_seeker_86 : decode cX10_seeker 86 = .ok (.ireturn, 1) := by decide +kernel
theorem dX10_ofSeeker_0 : decode cX10_ofSeeker 0 = .ok (.aload_n 0, 1) := by decide +kernel
theorem dX10_ofSeeker_1 : decode cX10_ofSeeker 1 = .ok (.iload_n 1, 1) := by decide +kernel
theorem dX10_ofSeeker_2 : decode cX10_ofSeeker 2 = .ok (.invokevirtual 78, 3) := by decide +kernel
theorem dX10_ofSeeker_5 : decode cX10_ofSeeker 5 = .ok (.ifCond .eq 12, 3) := by decide +kernel
theorem dX10_ofSeeker_8 : decode cX10_ofSeeker 8 = .ok (.iload_n 2, 1) := by decide +kernel
theorem dX10_ofSeeker_9 : decode cX10_ofSeeker 9 = .ok (.iconst 0, 1) := by decide +kernel
theorem dX10_ofSeeker_10 : decode cX10_ofSeeker 10 = .ok (.iconst 2, 1) := by decide +kernel
theorem dX10_ofSeeker_11 : decode cX10_ofSeeker 11 = .ok (.invokestatic 50, 3) := by decide +kernel
theorem dX10_ofSeeker_14 : decode cX10_ofSeeker 14 = .ok (.ifCond .ne 10, 3) := by decide +kernel
theorem dX10_ofSeeker_17 : decode cX10_ofSeeker 17 = .ok (.aload_n 0, 1) := by decide +kernel
theorem dX10_ofSeeker_18 : decode cX10_ofSeeker 18 = .ok (.ldc 62, 2) := by decide +kernel
theorem dX10_ofSeeker_20 : decode cX10_ofSeeker 20 = .ok (.invokevirtual 63, 3) := by decide +kernel
theorem dX10_ofSeeker_23 : decode cX10_ofSeeker 23 = .ok (.ireturn, 1) := by decide +kernel
theorem dX10_ofSeeker_24 : decode cX10_ofSeeker 24 = .ok (.iload_n 2, 1) := by decide +kernel
theorem dX10_ofSeeker_25 : decode cX10_ofSeeker 25 = .ok (.iconst 2, 1) := by decide +kernel
theorem dX10_ofSeeker_26 : decode cX10_ofSeeker 26 = .ok (.if_icmp .ge 19, 3) := by decide +kernel
theorem dX10_ofSeeker_29 : decode cX10_ofSeeker 29 = .ok (.aload_n 0, 1) := by decide +kernel
theorem dX10_ofSeeker_30 : decode cX10_ofSeeker 30 = .ok (.getfield 7, 3) := by decide +kernel
theorem dX10_ofSeeker_33 : decode cX10_ofSeeker 33 = .ok (.bipush 18, 2) := by decide +kernel
theorem dX10_ofSeeker_35 : decode cX10_ofSeeker 35 = .ok (.iconst 2, 1) := by decide +kernel
theorem dX10_ofSeeker_36 : decode cX10_ofSeeker 36 = .ok (.iload_n 1, 1) := by decide +kernel
theorem dX10_ofSeeker_37 : decode cX10_ofSeeker 37 = .ok (.imul, 1) := by decide +kernel
theorem dX10_ofSeeker_38 : decode cX10_ofSeeker 38 = .ok (.iadd, 1) := by decide +kernel
theorem dX10_ofSeeker_39 : decode cX10_ofSeeker 39 = .ok (.iload_n 2, 1) := by decide +kernel
theorem dX10_ofSeeker_40 : decode cX10_ofSeeker 40 = .ok (.iadd, 1) := by decide +kernel
theorem dX10_ofSeeker_41 : decode cX10_ofSeeker 41 = .ok (.iaload, 1) := by decide +kernel
theorem dX10_ofSeeker_42 : decode cX10_ofSeeker 42 = .ok (.goto 8, 3) := by decide +kernel
theorem dX10_ofSeeker_45 : decode cX10_ofSeeker 45 = .ok (.aload_n 0, 1) := by decide +kernel
theorem dX10_ofSeeker_46 : decode cX10_ofSeeker 46 = .ok (.iload_n 1, 1) := by decide +kernel
theorem dX10_ofSeeker_47 : decode cX10_ofSeeker 47 = .ok (.invokevirtual 81, 3) := by decide +kernel
theorem dX10_ofSeeker_50 : decode cX10_ofSeeker 50 = .ok (.ireturn, 1) := by decide +kernel
theorem dX10_send_0 : decode cX10_send 0 = .ok (.iload_n 2, 1) := by decide +kernel
theorem dX10_send_1 : decode cX10_send 1 = .ok (.ifCond .ne 10, 3) := by decide +kernel
theorem dX10_send_4 : decode cX10_send 4 = .ok (.iload_n 3, 1) := by decide +kernel
theorem dX10_send_5 : decode cX10_send 5 = .ok (.invokestatic 54, 3) := by decide +kernel
theorem dX10_send_8 : decode cX10_send 8 = .ok (.goto 23, 3) := by decide +kernel
theorem dX10_send_11 : decode cX10_send 11 = .ok (.iload_n 2, 1) := by decide +kernel
theorem dX10_send_12 : decode cX10_send 12 = .ok (.iconst 1, 1) := by decide +kernel
theorem dX10_send_13 : decode cX10_send 13 = .ok (.if_icmp .ne 17, 3) := by decide +kernel
theorem dX10_send_16 : decode cX10_send 16 = .ok (.iload_n 3, 1) := by decide +kernel
theorem dX10_send_17 : decode cX10_send 17 = .ok (.iconst 0, 1) := by decide +kernel
theorem dX10_send_18 : decode cX10_send 18 = .ok (.bipush 99, 2) := by decide +kernel
theorem dX10_send_20 : decode cX10_send 20 = .ok (.invokestatic 50, 3) := by decide +kernel
theorem dX10_send_23 : decode cX10_send 23 = .ok (.ifCond .eq 7, 3) := by decide +kernel
theorem dX10_send_26 : decode cX10_send 26 = .ok (.iconst 1, 1) := by decide +kernel
theorem dX10_send_27 : decode cX10_send 27 = .ok (.goto 4, 3) := by decide +kernel
theorem dX10_send_30 : decode cX10_send 30 = .ok (.iconst 0, 1) := by decide +kernel
theorem dX10_send_31 : decode cX10_send 31 = .ok (.istore 4, 2) := by decide +kernel
theorem dX10_send_33 : decode cX10_send 33 = .ok (.aload_n 0, 1) := by decide +kernel
theorem dX10_send_34 : decode cX10_send 34 = .ok (.iload_n 1, 1) := by decide +kernel
theorem dX10_send_35 : decode cX10_send 35 = .ok (.invokevirtual 78, 3) := by decide +kernel
theorem dX10_send_38 : decode cX10_send 38 = .ok (.ifCond .eq 24, 3) := by decide +kernel
theorem dX10_send_41 : decode cX10_send 41 = .ok (.iload 4, 2) := by decide +kernel
theorem dX10_send_43 : decode cX10_send 43 = .ok (.ifCond .eq 19, 3) := by decide +kernel
theorem dX10_send_46 : decode cX10_send 46 = .ok (.aload_n 0, 1) := by decide +kernel
theorem dX10_send_47 : decode cX10_send 47 = .ok (.bipush 18, 2) := by decide +kernel
theorem dX10_send_49 : decode cX10_send 49 = .ok (.iconst 2, 1) := by decide +kernel
theorem dX10_send_50 : decode cX10_send 50 = .ok (.iload_n 1, 1) := by decide +kernel
theorem dX10_send_51 : decode cX10_send 51 = .ok (.imul, 1) := by decide +kernel
theorem dX10_send_52 : decode cX10_send 52 = .ok (.iadd, 1) := by decide +kernel
theorem dX10_send_53 : decode cX10_send 53 = .ok (.iload_n 2, 1) := by decide +kernel
theorem dX10_send_54 : decode cX10_send 54 = .ok (.iadd, 1) := by decide +kernel
theorem dX10_send_55 : decode cX10_send 55 = .ok (.iload_n 3, 1) := by decide +kernel
theorem dX10_send_56 : decode cX10_send 56 = .ok (.invokevirtual 58, 3) := by decide +kernel
theorem dX10_send_59 : decode cX10_send 59 = .ok (.goto 9, 3) := by decide +kernel
theorem dX10_send_62 : decode cX10_send 62 = .ok (.aload_n 0, 1) := by decide +kernel
theorem dX10_send_63 : decode cX10_send 63 = .ok (.ldc 62, 2) := by decide +kernel
theorem dX10_send_65 : decode cX10_send 65 = .ok (.invokevirtual 63, 3) := by decide +kernel
theorem dX10_send_68 : decode cX10_send 68 = .ok (.ireturn, 1) := by decide +kernel
theorem dX10_sheep_0 : decode cX10_sheep 0 = .ok (.iload_n 1, 1) := by decide +kernel
theorem dX10_sheep_1 : decode cX10_sheep 1 = .ok (.iconst 0, 1) := by decide +kernel
theorem dX10_sheep_2 : decode cX10_sheep 2 = .ok (.bipush 69, 2) := by decide +kernel
theorem dX10_sheep_4 : decode cX10_sheep 4 = .ok (.invokestatic 50, 3) := by decide +kernel
theorem dX10_sheep_7 : decode cX10_sheep 7 = .ok (.ifCond .eq 29, 3) := by decide +kernel
theorem dX10_sheep_10 : decode cX10_sheep 10 = .ok (.iload_n 2, 1) := by decide +kernel
theorem dX10_sheep_11 : decode cX10_sheep 11 = .ok (.invokestatic 54, 3) := by decide +kernel
theorem dX10_sheep_14 : decode cX10_sheep 14 = .ok (.ifCond .eq 22, 3) := by decide +kernel
theorem dX10_sheep_17 : decode cX10_sheep 17 = .ok (.iload_n 3, 1) := by decide +kernel
theorem dX10_sheep_18 : decode cX10_sheep 18 = .ok (.iconst 0, 1) := by decide +kernel
theorem dX10_sheep_19 : decode cX10_sheep 19 = .ok (.bipush 99, 2) := by decide +kernel
theorem dX10_sheep_21 : decode cX10_sheep 21 = .ok (.invokestatic 50, 3) := by decide +kernel
theorem dX10_sheep_24 : decode cX10_sheep 24 = .ok (.ifCond .eq 12, 3) := by decide +kernel
theorem dX10_sheep_27 : decode cX10_sheep 27 = .ok (.aload_n 0, 1) := by decide +kernel
theorem dX10_sheep_28 : decode cX10_sheep 28 = .ok (.iload 4, 2) := by decide +kernel
theorem dX10_sheep_30 : decode cX10_sheep 30 = .ok (.invokevirtual 84, 3) := by decide +kernel
theorem dX10_sheep_33 : decode cX10_sheep 33 = .ok (.ifCond .ne 10, 3) := by decide +kernel
theorem dX10_sheep_36 : decode cX10_sheep 36 = .ok (.aload_n 0, 1) := by decide +kernel
theorem dX10_sheep_37 : decode cX10_sheep 37 = .ok (.ldc 62, 2) := by decide +kernel
theorem dX10_sheep_39 : decode cX10_sheep 39 = .ok (.invokevirtual 63, 3) := by decide +kernel
theorem dX10_sheep_42 : decode cX10_sheep 42 = .ok (.ireturn, 1) := by decide +kernel
theorem dX10_sheep_43 : decode cX10_sheep 43 = .ok (.aload_n 0, 1) := by decide +kernel
theorem dX10_sheep_44 : decode cX10_sheep 44 = .ok (.getfield 7, 3) := by decide +kernel
theorem dX10_sheep_47 : decode cX10_sheep 47 = .ok (.iconst 2, 1) := by decide +kernel
theorem dX10_sheep_48 : decode cX10_sheep 48 = .ok (.iaload, 1) := by decide +kernel
theorem dX10_sheep_49 : decode cX10_sheep 49 = .ok (.bipush 7, 2) := by decide +kernel
theorem dX10_sheep_51 : decode cX10_sheep 51 = .ok (.if_icmp .ne 10, 3) := by decide +kernel
theorem dX10_sheep_54 : decode cX10_sheep 54 = .ok (.aload_n 0, 1) := by decide +kernel
theorem dX10_sheep_55 : decode cX10_sheep 55 = .ok (.ldc 77, 2) := by decide +kernel
theorem dX10_sheep_57 : decode cX10_sheep 57 = .ok (.invokevirtual 63, 3) := by decide +kernel
theorem dX10_sheep_60 : decode cX10_sheep 60 = .ok (.ireturn, 1) := by decide +kernel
theorem dX10_sheep_61 : decode cX10_sheep 61 = .ok (.aload_n 0, 1) := by decide +kernel
theorem dX10_sheep_62 : decode cX10_sheep 62 = .ok (.getfield 7, 3) := by decide +kernel
theorem dX10_sheep_65 : decode cX10_sheep 65 = .ok (.iconst 2, 1) := by decide +kernel
theorem dX10_sheep_66 : decode cX10_sheep 66 = .ok (.iaload, 1) := by decide +kernel
theorem dX10_sheep_67 : decode cX10_sheep 67 = .ok (.istore 5, 2) := by decide +kernel
theorem dX10_sheep_69 : decode cX10_sheep 69 = .ok (.aload_n 0, 1) := by decide +kernel
theorem dX10_sheep_70 : decode cX10_sheep 70 = .ok (.iload 5, 2) := by decide +kernel
theorem dX10_sheep_72 : decode cX10_sheep 72 = .ok (.iconst 0, 1) := by decide +kernel
theorem dX10_sheep_73 : decode cX10_sheep 73 = .ok (.iload_n 1, 1) := by decide +kernel
theorem dX10_sheep_74 : decode cX10_sheep 74 = .ok (.bipush 10, 2) := by decide +kernel
theorem dX10_sheep_76 : decode cX10_sheep 76 = .ok (.idiv, 1) := by decide +kernel
theorem dX10_sheep_77 : decode cX10_sheep 77 = .ok (.invokevirtual 87, 3) := by decide +kernel
theorem dX10_sheep_80 : decode cX10_sheep 80 = .ok (.aload_n 0, 1) := by decide +kernel
theorem dX10_sheep_81 : decode cX10_sheep 81 = .ok (.iload 5, 2) := by decide +kernel
theorem dX10_sheep_83 : decode cX10_sheep 83 = .ok (.iconst 1, 1) := by decide +kernel
theorem dX10_sheep_84 : decode cX10_sheep 84 = .ok (.iload_n 1, 1) := by decide +kernel
theorem dX10_sheep_85 : decode cX10_sheep 85 = .ok (.bipush 10, 2) := by decide +kernel
theorem dX10_sheep_87 : decode cX10_sheep 87 = .ok (.irem, 1) := by decide +kernel
theorem dX10_sheep_88 : decode cX10_sheep 88 = .ok (.invokevirtual 87, 3) := by decide +kernel
theorem dX10_sheep_91 : decode cX10_sheep 91 = .ok (.aload_n 0, 1) := by decide +kernel
theorem dX10_sheep_92 : decode cX10_sheep 92 = .ok (.iload 5, 2) := by decide +kernel
theorem dX10_sheep_94 : decode cX10_sheep 94 = .ok (.iconst 2, 1) := by decide +kernel
theorem dX10_sheep_95 : decode cX10_sheep 95 = .ok (.iload_n 2, 1) := by decide +kernel
theorem dX10_sheep_96 : decode cX10_sheep 96 = .ok (.invokevirtual 87, 3) := by decide +kernel
theorem dX10_sheep_99 : decode cX10_sheep 99 = .ok (.aload_n 0, 1) := by decide +kernel
theorem dX10_sheep_100 : decode cX10_sheep 100 = .ok (.iload 5, 2) := by decide +kernel
theorem dX10_sheep_102 : decode cX10_sheep 102 = .ok (.iconst 3, 1) := by decide +kernel
theorem dX10_sheep_103 : decode cX10_sheep 103 = .ok (.iload_n 3, 1) := by decide +kernel
theorem dX10_sheep_104 : decode cX10_sheep 104 = .ok (.invokevirtual 87, 3) := by decide +kernel
theorem dX10_sheep_107 : decode cX10_sheep 107 = .ok (.aload_n 0, 1) := by decide +kernel
theorem dX10_sheep_108 : decode cX10_sheep 108 = .ok (.iload 5, 2) := by decide +kernel
theorem dX10_sheep_110 : decode cX10_sheep 110 = .ok (.iconst 4, 1) := by decide +kernel
theorem dX10_sheep_111 : decode cX10_sheep 111 = .ok (.iload 4, 2) := by decide +kernel
theorem dX10_sheep_113 : decode cX10_sheep 113 = .ok (.invokevirtual 87, 3) := by decide +kernel
theorem dX10_sheep_116 : decode cX10_sheep 116 = .ok (.aload_n 0, 1) := by decide +kernel
theorem dX10_sheep_117 : decode cX10_sheep 117 = .ok (.iload 5, 2) := by decide +kernel
theorem dX10_sheep_119 : decode cX10_sheep 119 = .ok (.iconst 5, 1) := by decide +kernel
theorem dX10_sheep_120 : decode cX10_sheep 120 = .ok (.iconst 0, 1) := by decide +kernel
theorem dX10_sheep_121 : decode cX10_sheep 121 = .ok (.invokevirtual 87, 3) := by decide +kernel
theorem dX10_sheep_124 : decode cX10_sheep 124 = .ok (.aload_n 0, 1) := by decide +kernel
theorem dX10_sheep_125 : decode cX10_sheep 125 = .ok (.getfield 7, 3) := by decide +kernel
theorem dX10_sheep_128 : decode cX10_sheep 128 = .ok (.iconst 2, 1) := by decide +kernel
theorem dX10_sheep_129 : decode cX10_sheep 129 = .ok (.dup2, 1) := by decide +kernel
theorem dX10_sheep_130 : decode cX10_sheep 130 = .ok (.iaload, 1) := by decide +kernel
theorem dX10_sheep_131 : decode cX10_sheep 131 = .ok (.iconst 1, 1) := by decide +kernel
theorem dX10_sheep_132 : decode cX10_sheep 132 = .ok (.iadd, 1) := by decide +kernel
theorem dX10_sheep_133 : decode cX10_sheep 133 = .ok (.iastore, 1) := by decide +kernel
theorem dX10_sheep_134 : decode cX10_sheep 134 = .ok (.iload 5, 2) := by decide +kernel
theorem dX10_sheep_136 : decode cX10_sheep 136 = .ok (.ireturn, 1) := by decide +kernel
theorem dX10_ofSheep_0 : decode cX10_ofSheep 0 = .ok (.aload_n 0, 1) := by decide +kernel
theorem dX10_ofSheep_1 : decode cX10_ofSheep 1 = .ok (.iload_n 1, 1) := by decide +kernel
theorem dX10_ofSheep_2 : decode cX10_ofSheep 2 = .ok (.invokevirtual 91, 3) := by decide +kernel
theorem dX10_ofSheep_5 : decode cX10_ofSheep 5 = .ok (.ifCond .eq 13, 3) := by decide +kernel
theorem dX10_ofSheep_8 : decode cX10_ofSheep 8 = .ok (.iload_n 2, 1) := by decide +kernel
theorem dX10_ofSheep_9 : decode cX10_ofSheep 9 = .ok (.iconst 0, 1) := by decide +kernel
theorem dX10_ofSheep_10 : decode cX10_ofSheep 10 = .ok (.bipush 7, 2) := by decide +kernel
theorem dX10_ofSheep_12 : decode cX10_ofSheep 12 = .ok (.invokestatic 50, 3) := by decide +kernel
theorem dX10_ofSheep_15 : decode cX10_ofSheep 15 = .ok (.ifCond .ne 10, 3) := by decide +kernel
theorem dX10_ofSheep_18 : decode cX10_ofSheep 18 = .ok (.aload_n 0, 1) := by decide +kernel
theorem dX10_ofSheep_19 : decode cX10_ofSheep 19 = .ok (.ldc 62, 2) := by decide +kernel
theorem dX10_ofSheep_21 : decode cX10_ofSheep 21 = .ok (.invokevirtual 63, 3) := by decide +kernel
theorem dX10_ofSheep_24 : decode cX10_ofSheep 24 = .ok (.ireturn, 1) := by decide +kernel
theorem dX10_ofSheep_25 : decode cX10_ofSheep 25 = .ok (.iload_n 2, 1) := by decide +kernel
theorem dX10_ofSheep_26 : decode cX10_ofSheep 26 = .ok (.bipush 6, 2) := by decide +kernel
theorem dX10_ofSheep_28 : decode cX10_ofSheep 28 = .ok (.if_icmp .ge 12, 3) := by decide +kernel
theorem dX10_ofSheep_31 : decode cX10_ofSheep 31 = .ok (.aload_n 0, 1) := by decide +kernel
theorem dX10_ofSheep_32 : decode cX10_ofSheep 32 = .ok (.iload_n 1, 1) := by decide +kernel
theorem dX10_ofSheep_33 : decode cX10_ofSheep 33 = .ok (.iload_n 2, 1) := by decide +kernel
theorem dX10_ofSheep_34 : decode cX10_ofSheep 34 = .ok (.invokevirtual 67, 3) := by decide +kernel
theorem dX10_ofSheep_37 : decode cX10_ofSheep 37 = .ok (.goto 22, 3) := by decide +kernel
theorem dX10_ofSheep_40 : decode cX10_ofSheep 40 = .ok (.iload_n 2, 1) := by decide +kernel
theorem dX10_ofSheep_41 : decode cX10_ofSheep 41 = .ok (.bipush 6, 2) := by decide +kernel
theorem dX10_ofSheep_43 : decode cX10_ofSheep 43 = .ok (.if_icmp .ne 11, 3) := by decide +kernel
theorem dX10_ofSheep_46 : decode cX10_ofSheep 46 = .ok (.aload_n 0, 1) := by decide +kernel
theorem dX10_ofSheep_47 : decode cX10_ofSheep 47 = .ok (.iload_n 1, 1) := by decide +kernel
theorem dX10_ofSheep_48 : decode cX10_ofSheep 48 = .ok (.invokevirtual 94, 3) := by decide +kernel
theorem dX10_ofSheep_51 : decode cX10_ofSheep 51 = .ok (.goto 8, 3) := by decide +kernel
theorem dX10_ofSheep_54 : decode cX10_ofSheep 54 = .ok (.aload_n 0, 1) := by decide +kernel
theorem dX10_ofSheep_55 : decode cX10_ofSheep 55 = .ok (.iload_n 1, 1) := by decide +kernel
theorem dX10_ofSheep_56 : decode cX10_ofSheep 56 = .ok (.invokevirtual 97, 3) := by decide +kernel
theorem dX10_ofSheep_59 : decode cX10_ofSheep 59 = .ok (.ireturn, 1) := by decide +kernel
theorem dX10_change_0 : decode cX10_change 0 = .ok (.iload_n 2, 1) := by decide +kernel
theorem dX10_change_1 : decode cX10_change 1 = .ok (.ifCond .ne 10, 3) := by decide +kernel
theorem dX10_change_4 : decode cX10_change 4 = .ok (.iload_n 3, 1) := by decide +kernel
theorem dX10_change_5 : decode cX10_change 5 = .ok (.invokestatic 54, 3) := by decide +kernel
theorem dX10_change_8 : decode cX10_change 8 = .ok (.goto 50, 3) := by decide +kernel
theorem dX10_change_11 : decode cX10_change 11 = .ok (.iload_n 2, 1) := by decide +kernel
theorem dX10_change_12 : decode cX10_change 12 = .ok (.iconst 1, 1) := by decide +kernel
theorem dX10_change_13 : decode cX10_change 13 = .ok (.if_icmp .ne 13, 3) := by decide +kernel
theorem dX10_change_16 : decode cX10_change 16 = .ok (.iload_n 3, 1) := by decide +kernel
theorem dX10_change_17 : decode cX10_change 17 = .ok (.iconst 0, 1) := by decide +kernel
theorem dX10_change_18 : decode cX10_change 18 = .ok (.bipush 99, 2) := by decide +kernel
theorem dX10_change_20 : decode cX10_change 20 = .ok (.invokestatic 50, 3) := by decide +kernel
theorem dX10_change_23 : decode cX10_change 23 = .ok (.goto 35, 3) := by decide +kernel
theorem dX10_change_26 : decode cX10_change 26 = .ok (.iload_n 2, 1) := by decide +kernel
theorem dX10_change_27 : decode cX10_change 27 = .ok (.iconst 2, 1) := by decide +kernel
theorem dX10_change_28 : decode cX10_change 28 = .ok (.if_icmp .ne 11, 3) := by decide +kernel
theorem dX10_change_31 : decode cX10_change 31 = .ok (.aload_n 0, 1) := by decide +kernel
theorem dX10_change_32 : decode cX10_change 32 = .ok (.iload_n 3, 1) := by decide +kernel
theorem dX10_change_33 : decode cX10_change 33 = .ok (.invokevirtual 84, 3) := by decide +kernel
theorem dX10_change_36 : decode cX10_change 36 = .ok (.goto 22, 3) := by decide +kernel
theorem dX10_change_39 : decode cX10_change 39 = .ok (.iload_n 2, 1) := by decide +kernel
theorem dX10_change_40 : decode cX10_change 40 = .ok (.iconst 3, 1) := by decide +kernel
theorem dX10_change_41 : decode cX10_change 41 = .ok (.if_icmp .ne 16, 3) := by decide +kernel
theorem dX10_change_44 : decode cX10_change 44 = .ok (.iload_n 3, 1) := by decide +kernel
theorem dX10_change_45 : decode cX10_change 45 = .ok (.iconst 0, 1) := by decide +kernel
theorem dX10_change_46 : decode cX10_change 46 = .ok (.iconst 1, 1) := by decide +kernel
theorem dX10_change_47 : decode cX10_change 47 = .ok (.invokestatic 50, 3) := by decide +kernel
theorem dX10_change_50 : decode cX10_change 50 = .ok (.ifCond .eq 7, 3) := by decide +kernel
theorem dX10_change_53 : decode cX10_change 53 = .ok (.iconst 1, 1) := by decide +kernel
theorem dX10_change_54 : decode cX10_change 54 = .ok (.goto 4, 3) := by decide +kernel
theorem dX10_change_57 : decode cX10_change 57 = .ok (.iconst 0, 1) := by decide +kernel
theorem dX10_change_58 : decode cX10_change 58 = .ok (.istore 4, 2) := by decide +kernel
theorem dX10_change_60 : decode cX10_change 60 = .ok (.aload_n 0, 1) := by decide +kernel
theorem dX10_change_61 : decode cX10_change 61 = .ok (.iload_n 1, 1) := by decide +kernel
theorem dX10_change_62 : decode cX10_change 62 = .ok (.invokevirtual 91, 3) := by decide +kernel
theorem dX10_change_65 : decode cX10_change 65 = .ok (.ifCond .eq 27, 3) := by decide +kernel
theorem dX10_change_68 : decode cX10_change 68 = .ok (.iload 4, 2) := by decide +kernel
theorem dX10_change_70 : decode cX10_change 70 = .ok (.ifCond .eq 22, 3) := by decide +kernel
theorem dX10_change_73 : decode cX10_change 73 = .ok (.aload_n 0, 1) := by decide +kernel
theorem dX10_change_74 : decode cX10_change 74 = .ok (.bipush 30, 2) := by decide +kernel
theorem dX10_change_76 : decode cX10_change 76 = .ok (.bipush 6, 2) := by decide +kernel
theorem dX10_change_78 : decode cX10_change 78 = .ok (.iload_n 1, 1) := by decide +kernel
theorem dX10_change_79 : decode cX10_change 79 = .ok (.imul, 1) := by decide +kernel
theorem dX10_change_80 : decode cX10_change 80 = .ok (.iadd, 1) := by decide +kernel
theorem dX10_change_81 : decode cX10_change 81 = .ok (.iconst 2, 1) := by decide +kernel
theorem dX10_change_82 : decode cX10_change 82 = .ok (.iadd, 1) := by decide +kernel
theorem dX10_change_83 : decode cX10_change 83 = .ok (.iload_n 2, 1) := by decide +kernel
theorem dX10_change_84 : decode cX10_change 84 = .ok (.iadd, 1) := by decide +kernel
theorem dX10_change_85 : decode cX10_change 85 = .ok (.iload_n 3, 1) := by decide +kernel
theorem dX10_change_86 : decode cX10_change 86 = .ok (.invokevirtual 58, 3) := by decide +kernel
theorem dX10_change_89 : decode cX10_change 89 = .ok (.goto 9, 3) := by decide +kernel
theorem dX10_change_92 : decode cX10_change 92 = .ok (.aload_n 0, 1) := by decide +kernel
theorem dX10_change_93 : decode cX10_change 93 = .ok (.ldc 62, 2) := by decide +kernel
theorem dX10_change_95 : decode cX10_change 95 = .ok (.invokevirtual 63, 3) := by decide +kernel
theorem dX10_change_98 : decode cX10_change 98 = .ok (.ireturn, 1) := by decide +kernel
theorem dX10_become_0 : decode cX10_become 0 = .ok (.aload_n 0, 1) := by decide +kernel
theorem dX10_become_1 : decode cX10_become 1 = .ok (.iload_n 1, 1) := by decide +kernel
theorem dX10_become_2 : decode cX10_become 2 = .ok (.invokevirtual 91, 3) := by decide +kernel
theorem dX10_become_5 : decode cX10_become 5 = .ok (.ifCond .eq 13, 3) := by decide +kernel
theorem dX10_become_8 : decode cX10_become 8 = .ok (.iload_n 2, 1) := by decide +kernel
theorem dX10_become_9 : decode cX10_become 9 = .ok (.iconst 0, 1) := by decide +kernel
theorem dX10_become_10 : decode cX10_become 10 = .ok (.bipush 69, 2) := by decide +kernel
theorem dX10_become_12 : decode cX10_become 12 = .ok (.invokestatic 50, 3) := by decide +kernel
theorem dX10_become_15 : decode cX10_become 15 = .ok (.ifCond .ne 10, 3) := by decide +kernel
theorem dX10_become_18 : decode cX10_become 18 = .ok (.aload_n 0, 1) := by decide +kernel
theorem dX10_become_19 : decode cX10_become 19 = .ok (.ldc 62, 2) := by decide +kernel
theorem dX10_become_21 : decode cX10_become 21 = .ok (.invokevirtual 63, 3) := by decide +kernel
theorem dX10_become_24 : decode cX10_become 24 = .ok (.ireturn, 1) := by decide +kernel
theorem dX10_become_25 : decode cX10_become 25 = .ok (.aload_n 0, 1) := by decide +kernel
theorem dX10_become_26 : decode cX10_become 26 = .ok (.iload_n 1, 1) := by decide +kernel
theorem dX10_become_27 : decode cX10_become 27 = .ok (.iconst 1, 1) := by decide +kernel
theorem dX10_become_28 : decode cX10_become 28 = .ok (.iload_n 2, 1) := by decide +kernel
theorem dX10_become_29 : decode cX10_become 29 = .ok (.bipush 10, 2) := by decide +kernel
theorem dX10_become_31 : decode cX10_become 31 = .ok (.irem, 1) := by decide +kernel
theorem dX10_become_32 : decode cX10_become 32 = .ok (.invokevirtual 87, 3) := by decide +kernel
theorem dX10_become_35 : decode cX10_become 35 = .ok (.aload_n 0, 1) := by decide +kernel
theorem dX10_become_36 : decode cX10_become 36 = .ok (.bipush 30, 2) := by decide +kernel
theorem dX10_become_38 : decode cX10_become 38 = .ok (.bipush 6, 2) := by decide +kernel
theorem dX10_become_40 : decode cX10_become 40 = .ok (.iload_n 1, 1) := by decide +kernel
theorem dX10_become_41 : decode cX10_become 41 = .ok (.imul, 1) := by decide +kernel
theorem dX10_become_42 : decode cX10_become 42 = .ok (.iadd, 1) := by decide +kernel
theorem dX10_become_43 : decode cX10_become 43 = .ok (.iload_n 2, 1) := by decide +kernel
theorem dX10_become_44 : decode cX10_become 44 = .ok (.bipush 10, 2) := by decide +kernel
theorem dX10_become_46 : decode cX10_become 46 = .ok (.idiv, 1) := by decide +kernel
theorem dX10_become_47 : decode cX10_become 47 = .ok (.invokevirtual 58, 3) := by decide +kernel
theorem dX10_become_50 : decode cX10_become 50 = .ok (.ireturn, 1) := by decide +kernel
theorem dX10_above_0 : decode cX10_above 0 = .ok (.iload_n 0, 1) := by decide +kernel
theorem dX10_above_1 : decode cX10_above 1 = .ok (.ifCond .ne 7, 3) := by decide +kernel
theorem dX10_above_4 : decode cX10_above 4 = .ok (.iconst (-1), 1) := by decide +kernel
theorem dX10_above_5 : decode cX10_above 5 = .ok (.goto 15, 3) := by decide +kernel
theorem dX10_above_8 : decode cX10_above 8 = .ok (.iload_n 0, 1) := by decide +kernel
theorem dX10_above_9 : decode cX10_above 9 = .ok (.iconst 3, 1) := by decide +kernel
theorem dX10_above_10 : decode cX10_above 10 = .ok (.if_icmp .le 9, 3) := by decide +kernel
theorem dX10_above_13 : decode cX10_above 13 = .ok (.iload_n 0, 1) := by decide +kernel
theorem dX10_above_14 : decode cX10_above 14 = .ok (.iconst 3, 1) := by decide +kernel
theorem dX10_above_15 : decode cX10_above 15 = .ok (.isub, 1) := by decide +kernel
theorem dX10_above_16 : decode cX10_above 16 = .ok (.goto 4, 3) := by decide +kernel
theorem dX10_above_19 : decode cX10_above 19 = .ok (.iconst 0, 1) := by decide +kernel
theorem dX10_above_20 : decode cX10_above 20 = .ok (.ireturn, 1) := by decide +kernel
theorem dX10_as_0 : decode cX10_as 0 = .ok (.aload_n 0, 1) := by decide +kernel
theorem dX10_as_1 : decode cX10_as 1 = .ok (.iload_n 1, 1) := by decide +kernel
theorem dX10_as_2 : decode cX10_as 2 = .ok (.invokevirtual 91, 3) := by decide +kernel
theorem dX10_as_5 : decode cX10_as 5 = .ok (.ifCond .eq 13, 3) := by decide +kernel
theorem dX10_as_8 : decode cX10_as 8 = .ok (.iload_n 2, 1) := by decide +kernel
theorem dX10_as_9 : decode cX10_as 9 = .ok (.iconst 0, 1) := by decide +kernel
theorem dX10_as_10 : decode cX10_as 10 = .ok (.bipush 6, 2) := by decide +kernel
theorem dX10_as_12 : decode cX10_as 12 = .ok (.invokestatic 50, 3) := by decide +kernel
theorem dX10_as_15 : decode cX10_as 15 = .ok (.ifCond .ne 10, 3) := by decide +kernel
theorem dX10_as_18 : decode cX10_as 18 = .ok (.aload_n 0, 1) := by decide +kernel
theorem dX10_as_19 : decode cX10_as 19 = .ok (.ldc 62, 2) := by decide +kernel
theorem dX10_as_21 : decode cX10_as 21 = .ok (.invokevirtual 63, 3) := by decide +kernel
theorem dX10_as_24 : decode cX10_as 24 = .ok (.ireturn, 1) := by decide +kernel
theorem dX10_as_25 : decode cX10_as 25 = .ok (.aload_n 0, 1) := by decide +kernel
theorem dX10_as_26 : decode cX10_as 26 = .ok (.iload_n 1, 1) := by decide +kernel
theorem dX10_as_27 : decode cX10_as 27 = .ok (.iconst 0, 1) := by decide +kernel
theorem dX10_as_28 : decode cX10_as 28 = .ok (.invokevirtual 67, 3) := by decide +kernel
theorem dX10_as_31 : decode cX10_as 31 = .ok (.istore_n 3, 1) := by decide +kernel
theorem dX10_as_32 : decode cX10_as 32 = .ok (.iload_n 3, 1) := by decide +kernel
theorem dX10_as_33 : decode cX10_as 33 = .ok (.ifCond .lt 16, 3) := by decide +kernel
theorem dX10_as_36 : decode cX10_as 36 = .ok (.iload_n 3, 1) := by decide +kernel
theorem dX10_as_37 : decode cX10_as 37 = .ok (.iload_n 2, 1) := by decide +kernel
theorem dX10_as_38 : decode cX10_as 38 = .ok (.if_icmp .eq 11, 3) := by decide +kernel
theorem dX10_as_41 : decode cX10_as 41 = .ok (.iload_n 3, 1) := by decide +kernel
theorem dX10_as_42 : decode cX10_as 42 = .ok (.invokestatic 100, 3) := by decide +kernel
theorem dX10_as_45 : decode cX10_as 45 = .ok (.istore_n 3, 1) := by decide +kernel
theorem dX10_as_46 : decode cX10_as 46 = .ok (.goto (-14), 3) := by decide +kernel
theorem dX10_as_49 : decode cX10_as 49 = .ok (.iload_n 3, 1) := by decide +kernel
theorem dX10_as_50 : decode cX10_as 50 = .ok (.ifCond .ge 12, 3) := by decide +kernel
theorem dX10_as_53 : decode cX10_as 53 = .ok (.aload_n 0, 1) := by decide +kernel
theorem dX10_as_54 : decode cX10_as 54 = .ok (.ldc 103, 2) := by decide +kernel
theorem dX10_as_56 : decode cX10_as 56 = .ok (.invokevirtual 63, 3) := by decide +kernel
theorem dX10_as_59 : decode cX10_as 59 = .ok (.goto 9, 3) := by decide +kernel
theorem dX10_as_62 : decode cX10_as 62 = .ok (.aload_n 0, 1) := by decide +kernel
theorem dX10_as_63 : decode cX10_as 63 = .ok (.iload_n 1, 1) := by decide +kernel
theorem dX10_as_64 : decode cX10_as 64 = .ok (.iconst 1, 1) := by decide +kernel
theorem dX10_as_65 : decode cX10_as 65 = .ok (.invokevirtual 67, 3) := by decide +kernel
theorem dX10_as_68 : decode cX10_as 68 = .ok (.ireturn, 1) := by decide +kernel
theorem dX10_byteAt_0 : decode cX10_byteAt 0 = .ok (.iload_n 1, 1) := by decide +kernel
theorem dX10_byteAt_1 : decode cX10_byteAt 1 = .ok (.aload_n 0, 1) := by decide +kernel
theorem dX10_byteAt_2 : decode cX10_byteAt 2 = .ok (.getfield 104, 3) := by decide +kernel
theorem dX10_byteAt_5 : decode cX10_byteAt 5 = .ok (.if_icmp .ge 15, 3) := by decide +kernel
theorem dX10_byteAt_8 : decode cX10_byteAt 8 = .ok (.aload_n 0, 1) := by decide +kernel
theorem dX10_byteAt_9 : decode cX10_byteAt 9 = .ok (.getfield 7, 3) := by decide +kernel
theorem dX10_byteAt_12 : decode cX10_byteAt 12 = .ok (.bipush 72, 2) := by decide +kernel
theorem dX10_byteAt_14 : decode cX10_byteAt 14 = .ok (.iload_n 1, 1) := by decide +kernel
theorem dX10_byteAt_15 : decode cX10_byteAt 15 = .ok (.iadd, 1) := by decide +kernel
theorem dX10_byteAt_16 : decode cX10_byteAt 16 = .ok (.iaload, 1) := by decide +kernel
theorem dX10_byteAt_17 : decode cX10_byteAt 17 = .ok (.goto 4, 3) := by decide +kernel
theorem dX10_byteAt_20 : decode cX10_byteAt 20 = .ok (.iconst (-1), 1) := by decide +kernel
theorem dX10_byteAt_21 : decode cX10_byteAt 21 = .ok (.ireturn, 1) := by decide +kernel
theorem dX10_isDigit_0 : decode cX10_isDigit 0 = .ok (.iload_n 0, 1) := by decide +kernel
theorem dX10_isDigit_1 : decode cX10_isDigit 1 = .ok (.bipush 48, 2) := by decide +kernel
theorem dX10_isDigit_3 : decode cX10_isDigit 3 = .ok (.bipush 57, 2) := by decide +kernel
theorem dX10_isDigit_5 : decode cX10_isDigit 5 = .ok (.invokestatic 50, 3) := by decide +kernel
theorem dX10_isDigit_8 : decode cX10_isDigit 8 = .ok (.ireturn, 1) := by decide +kernel
theorem dX10_adds_0 : decode cX10_adds 0 = .ok (.aload_n 0, 1) := by decide +kernel
theorem dX10_adds_1 : decode cX10_adds 1 = .ok (.getfield 108, 3) := by decide +kernel
theorem dX10_adds_4 : decode cX10_adds 4 = .ok (.ifCond .eq 23, 3) := by decide +kernel
theorem dX10_adds_7 : decode cX10_adds 7 = .ok (.aload_n 0, 1) := by decide +kernel
theorem dX10_adds_8 : decode cX10_adds 8 = .ok (.getfield 22, 3) := by decide +kernel
theorem dX10_adds_11 : decode cX10_adds 11 = .ok (.aload_n 0, 1) := by decide +kernel
theorem dX10_adds_12 : decode cX10_adds 12 = .ok (.getfield 112, 3) := by decide +kernel
theorem dX10_adds_15 : decode cX10_adds 15 = .ok (.iload_n 1, 1) := by decide +kernel
theorem dX10_adds_16 : decode cX10_adds 16 = .ok (.iastore, 1) := by decide +kernel
theorem dX10_adds_17 : decode cX10_adds 17 = .ok (.aload_n 0, 1) := by decide +kernel
theorem dX10_adds_18 : decode cX10_adds 18 = .ok (.dup, 1) := by decide +kernel
theorem dX10_adds_19 : decode cX10_adds 19 = .ok (.getfield 112, 3) := by decide +kernel
theorem dX10_adds_22 : decode cX10_adds 22 = .ok (.iconst 1, 1) := by decide +kernel
theorem dX10_adds_23 : decode cX10_adds 23 = .ok (.iadd, 1) := by decide +kernel
theorem dX10_adds_24 : decode cX10_adds 24 = .ok (.putfield 112, 3) := by decide +kernel
theorem dX10_adds_27 : decode cX10_adds 27 = .ok (.return_, 1) := by decide +kernel
theorem dX10_number_0 : decode cX10_number 0 = .ok (.iconst 0, 1) := by decide +kernel
theorem dX10_number_1 : decode cX10_number 1 = .ok (.istore_n 1, 1) := by decide +kernel
theorem dX10_number_2 : decode cX10_number 2 = .ok (.iconst 0, 1) := by decide +kernel
theorem dX10_number_3 : decode cX10_number 3 = .ok (.istore_n 2, 1) := by decide +kernel
theorem dX10_number_4 : decode cX10_number 4 = .ok (.iload_n 2, 1) := by decide +kernel
theorem dX10_number_5 : decode cX10_number 5 = .ok (.iconst 4, 1) := by decide +kernel
theorem dX10_number_6 : decode cX10_number 6 = .ok (.if_icmp .ge 50, 3) := by decide +kernel
theorem dX10_number_9 : decode cX10_number 9 = .ok (.aload_n 0, 1) := by decide +kernel
theorem dX10_number_10 : decode cX10_number 10 = .ok (.aload_n 0, 1) := by decide +kernel
theorem dX10_number_11 : decode cX10_number 11 = .ok (.getfield 115, 3) := by decide +kernel
theorem dX10_number_14 : decode cX10_number 14 = .ok (.invokevirtual 117, 3) := by decide +kernel
theorem dX10_number_17 : decode cX10_number 17 = .ok (.invokestatic 120, 3) := by decide +kernel
theorem dX10_number_20 : decode cX10_number 20 = .ok (.ifCond .eq 36, 3) := by decide +kernel
theorem dX10_number_23 : decode cX10_number 23 = .ok (.bipush 10, 2) := by decide +kernel
theorem dX10_number_25 : decode cX10_number 25 = .ok (.iload_n 1, 1) := by decide +kernel
theorem dX10_number_26 : decode cX10_number 26 = .ok (.imul, 1) := by decide +kernel
theorem dX10_number_27 : decode cX10_number 27 = .ok (.aload_n 0, 1) := by decide +kernel
theorem dX10_number_28 : decode cX10_number 28 = .ok (.aload_n 0, 1) := by decide +kernel
theorem dX10_number_29 : decode cX10_number 29 = .ok (.getfield 115, 3) := by decide +kernel
theorem dX10_number_32 : decode cX10_number 32 = .ok (.invokevirtual 117, 3) := by decide +kernel
theorem dX10_number_35 : decode cX10_number 35 = .ok (.iadd, 1) := by decide +kernel
theorem dX10_number_36 : decode cX10_number 36 = .ok (.bipush 48, 2) := by decide +kernel
theorem dX10_number_38 : decode cX10_number 38 = .ok (.isub, 1) := by decide +kernel
theorem dX10_number_39 : decode cX10_number 39 = .ok (.istore_n 1, 1) := by decide +kernel
theorem dX10_number_40 : decode cX10_number 40 = .ok (.aload_n 0, 1) := by decide +kernel
theorem dX10_number_41 : decode cX10_number 41 = .ok (.dup, 1) := by decide +kernel
theorem dX10_number_42 : decode cX10_number 42 = .ok (.getfield 115, 3) := by decide +kernel
theorem dX10_number_45 : decode cX10_number 45 = .ok (.iconst 1, 1) := by decide +kernel
theorem dX10_number_46 : decode cX10_number 46 = .ok (.iadd, 1) := by decide +kernel
theorem dX10_number_47 : decode cX10_number 47 = .ok (.putfield 115, 3) := by decide +kernel
theorem dX10_number_50 : decode cX10_number 50 = .ok (.iinc 2 1, 3) := by decide +kernel
theorem dX10_number_53 : decode cX10_number 53 = .ok (.goto (-49), 3) := by decide +kernel
theorem dX10_number_56 : decode cX10_number 56 = .ok (.aload_n 0, 1) := by decide +kernel
theorem dX10_number_57 : decode cX10_number 57 = .ok (.iload_n 1, 1) := by decide +kernel
theorem dX10_number_58 : decode cX10_number 58 = .ok (.invokevirtual 123, 3) := by decide +kernel
theorem dX10_number_61 : decode cX10_number 61 = .ok (.return_, 1) := by decide +kernel
theorem dX10_named_0 : decode cX10_named 0 = .ok (.iload_n 1, 1) := by decide +kernel
theorem dX10_named_1 : decode cX10_named 1 = .ok (.aload_n 0, 1) := by decide +kernel
theorem dX10_named_2 : decode cX10_named 2 = .ok (.getfield 127, 3) := by decide +kernel
theorem dX10_named_5 : decode cX10_named 5 = .ok (.ifCond .ne 8, 3) := by decide +kernel
theorem dX10_named_8 : decode cX10_named 8 = .ok (.bipush 99, 2) := by decide +kernel
theorem dX10_named_10 : decode cX10_named 10 = .ok (.goto 5, 3) := by decide +kernel
theorem dX10_named_13 : decode cX10_named 13 = .ok (.bipush 100, 2) := by decide +kernel
theorem dX10_named_15 : decode cX10_named 15 = .ok (.if_icmp .ne 7, 3) := by decide +kernel
theorem dX10_named_18 : decode cX10_named 18 = .ok (.iconst 1, 1) := by decide +kernel
theorem dX10_named_19 : decode cX10_named 19 = .ok (.goto 4, 3) := by decide +kernel
theorem dX10_named_22 : decode cX10_named 22 = .ok (.iconst 0, 1) := by decide +kernel
theorem dX10_named_23 : decode cX10_named 23 = .ok (.istore_n 2, 1) := by decide +kernel
theorem dX10_named_24 : decode cX10_named 24 = .ok (.iload_n 1, 1) := by decide +kernel
theorem dX10_named_25 : decode cX10_named 25 = .ok (.aload_n 0, 1) := by decide +kernel
theorem dX10_named_26 : decode cX10_named 26 = .ok (.getfield 127, 3) := by decide +kernel
theorem dX10_named_29 : decode cX10_named 29 = .ok (.ifCond .ne 8, 3) := by decide +kernel
theorem dX10_named_32 : decode cX10_named 32 = .ok (.bipush 115, 2) := by decide +kernel
theorem dX10_named_34 : decode cX10_named 34 = .ok (.goto 5, 3) := by decide +kernel
theorem dX10_named_37 : decode cX10_named 37 = .ok (.bipush 119, 2) := by decide +kernel
theorem dX10_named_39 : decode cX10_named 39 = .ok (.if_icmp .ne 7, 3) := by decide +kernel
theorem dX10_named_42 : decode cX10_named 42 = .ok (.iconst 1, 1) := by decide +kernel
theorem dX10_named_43 : decode cX10_named 43 = .ok (.goto 4, 3) := by decide +kernel
theorem dX10_named_46 : decode cX10_named 46 = .ok (.iconst 0, 1) := by decide +kernel
theorem dX10_named_47 : decode cX10_named 47 = .ok (.istore_n 3, 1) := by decide +kernel
theorem dX10_named_48 : decode cX10_named 48 = .ok (.iload_n 1, 1) := by decide +kernel
theorem dX10_named_49 : decode cX10_named 49 = .ok (.aload_n 0, 1) := by decide +kernel
theorem dX10_named_50 : decode cX10_named 50 = .ok (.getfield 127, 3) := by decide +kernel
theorem dX10_named_53 : decode cX10_named 53 = .ok (.ifCond .ne 8, 3) := by decide +kernel
theorem dX10_named_56 : decode cX10_named 56 = .ok (.bipush 104, 2) := by decide +kernel
theorem dX10_named_58 : decode cX10_named 58 = .ok (.goto 5, 3) := by decide +kernel
theorem dX10_named_61 : decode cX10_named 61 = .ok (.bipush 109, 2) := by decide +kernel
theorem dX10_named_63 : decode cX10_named 63 = .ok (.if_icmp .ne 7, 3) := by decide +kernel
theorem dX10_named_66 : decode cX10_named 66 = .ok (.iconst 1, 1) := by decide +kernel
theorem dX10_named_67 : decode cX10_named 67 = .ok (.goto 4, 3) := by decide +kernel
theorem dX10_named_70 : decode cX10_named 70 = .ok (.iconst 0, 1) := by decide +kernel
theorem dX10_named_71 : decode cX10_named 71 = .ok (.istore 4, 2) := by decide +kernel
theorem dX10_named_73 : decode cX10_named 73 = .ok (.aload_n 0, 1) := by decide +kernel
theorem dX10_named_74 : decode cX10_named 74 = .ok (.iload_n 2, 1) := by decide +kernel
theorem dX10_named_75 : decode cX10_named 75 = .ok (.ifCond .ne 12, 3) := by decide +kernel
theorem dX10_named_78 : decode cX10_named 78 = .ok (.iload_n 3, 1) := by decide +kernel
theorem dX10_named_79 : decode cX10_named 79 = .ok (.ifCond .ne 8, 3) := by decide +kernel
theorem dX10_named_82 : decode cX10_named 82 = .ok (.iload 4, 2) := by decide +kernel
theorem dX10_named_84 : decode cX10_named 84 = .ok (.ifCond .eq 7, 3) := by decide +kernel
theorem dX10_named_87 : decode cX10_named 87 = .ok (.iconst 1, 1) := by decide +kernel
theorem dX10_named_88 : decode cX10_named 88 = .ok (.goto 4, 3) := by decide +kernel
theorem dX10_named_91 : decode cX10_named 91 = .ok (.iconst 0, 1) := by decide +kernel
theorem dX10_named_92 : decode cX10_named 92 = .ok (.putfield 108, 3) := by decide +kernel
theorem dX10_named_95 : decode cX10_named 95 = .ok (.aload_n 0, 1) := by decide +kernel
theorem dX10_named_96 : decode cX10_named 96 = .ok (.getfield 108, 3) := by decide +kernel
theorem dX10_named_99 : decode cX10_named 99 = .ok (.ifCond .eq 38, 3) := by decide +kernel
theorem dX10_named_102 : decode cX10_named 102 = .ok (.aload_n 0, 1) := by decide +kernel
theorem dX10_named_103 : decode cX10_named 103 = .ok (.dup, 1) := by decide +kernel
theorem dX10_named_104 : decode cX10_named 104 = .ok (.getfield 115, 3) := by decide +kernel
theorem dX10_named_107 : decode cX10_named 107 = .ok (.iconst 1, 1) := by decide +kernel
theorem dX10_named_108 : decode cX10_named 108 = .ok (.iadd, 1) := by decide +kernel
theorem dX10_named_109 : decode cX10_named 109 = .ok (.putfield 115, 3) := by decide +kernel
theorem dX10_named_112 : decode cX10_named 112 = .ok (.aload_n 0, 1) := by decide +kernel
theorem dX10_named_113 : decode cX10_named 113 = .ok (.sipush 10000, 3) := by decide +kernel
theorem dX10_named_116 : decode cX10_named 116 = .ok (.iload_n 2, 1) := by decide +kernel
theorem dX10_named_117 : decode cX10_named 117 = .ok (.ifCond .eq 7, 3) := by decide +kernel
theorem dX10_named_120 : decode cX10_named 120 = .ok (.iconst 0, 1) := by decide +kernel
theorem dX10_named_121 : decode cX10_named 121 = .ok (.goto 12, 3) := by decide +kernel
theorem dX10_named_124 : decode cX10_named 124 = .ok (.iload_n 3, 1) := by decide +kernel
theorem dX10_named_125 : decode cX10_named 125 = .ok (.ifCond .eq 7, 3) := by decide +kernel
theorem dX10_named_128 : decode cX10_named 128 = .ok (.iconst 1, 1) := by decide +kernel
theorem dX10_named_129 : decode cX10_named 129 = .ok (.goto 4, 3) := by decide +kernel
theorem dX10_named_132 : decode cX10_named 132 = .ok (.iconst 2, 1) := by decide +kernel
theorem dX10_named_133 : decode cX10_named 133 = .ok (.iadd, 1) := by decide +kernel
theorem dX10_named_134 : decode cX10_named 134 = .ok (.invokevirtual 123, 3) := by decide +kernel
theorem dX10_named_137 : decode cX10_named 137 = .ok (.return_, 1) := by decide +kernel
theorem dX10_factor_0 : decode cX10_factor 0 = .ok (.aload_n 0, 1) := by decide +kernel
theorem dX10_factor_1 : decode cX10_factor 1 = .ok (.aload_n 0, 1) := by decide +kernel
theorem dX10_factor_2 : decode cX10_factor 2 = .ok (.getfield 115, 3) := by decide +kernel
theorem dX10_factor_5 : decode cX10_factor 5 = .ok (.invokevirtual 117, 3) := by decide +kernel
theorem dX10_factor_8 : decode cX10_factor 8 = .ok (.istore_n 1, 1) := by decide +kernel
theorem dX10_factor_9 : decode cX10_factor 9 = .ok (.iload_n 1, 1) := by decide +kernel
theorem dX10_factor_10 : decode cX10_factor 10 = .ok (.invokestatic 120, 3) := by decide +kernel
theorem dX10_factor_13 : decode cX10_factor 13 = .ok (.ifCond .eq 10, 3) := by decide +kernel
theorem dX10_factor_16 : decode cX10_factor 16 = .ok (.aload_n 0, 1) := by decide +kernel
theorem dX10_factor_17 : decode cX10_factor 17 = .ok (.invokevirtual 130, 3) := by decide +kernel
theorem dX10_factor_20 : decode cX10_factor 20 = .ok (.goto 143, 3) := by decide +kernel
theorem dX10_factor_23 : decode cX10_factor 23 = .ok (.iload_n 1, 1) := by decide +kernel
theorem dX10_factor_24 : decode cX10_factor 24 = .ok (.bipush 33, 2) := by decide +kernel
theorem dX10_factor_26 : decode cX10_factor 26 = .ok (.if_icmp .eq 17, 3) := by decide +kernel
theorem dX10_factor_29 : decode cX10_factor 29 = .ok (.iload_n 1, 1) := by decide +kernel
theorem dX10_factor_30 : decode cX10_factor 30 = .ok (.bipush 40, 2) := by decide +kernel
theorem dX10_factor_32 : decode cX10_factor 32 = .ok (.if_icmp .eq 11, 3) := by decide +kernel
theorem dX10_factor_35 : decode cX10_factor 35 = .ok (.aload_n 0, 1) := by decide +kernel
theorem dX10_factor_36 : decode cX10_factor 36 = .ok (.iload_n 1, 1) := by decide +kernel
theorem dX10_factor_37 : decode cX10_factor 37 = .ok (.invokevirtual 133, 3) := by decide +kernel
theorem dX10_factor_40 : decode cX10_factor 40 = .ok (.goto 123, 3) := by decide +kernel
theorem dX10_factor_43 : decode cX10_factor 43 = .ok (.aload_n 0, 1) := by decide +kernel
theorem dX10_factor_44 : decode cX10_factor 44 = .ok (.getfield 136, 3) := by decide +kernel
theorem dX10_factor_47 : decode cX10_factor 47 = .ok (.iconst 5, 1) := by decide +kernel
theorem dX10_factor_48 : decode cX10_factor 48 = .ok (.if_icmp .ne 11, 3) := by decide +kernel
theorem dX10_factor_51 : decode cX10_factor 51 = .ok (.aload_n 0, 1) := by decide +kernel
theorem dX10_factor_52 : decode cX10_factor 52 = .ok (.iconst 0, 1) := by decide +kernel
theorem dX10_factor_53 : decode cX10_factor 53 = .ok (.putfield 108, 3) := by decide +kernel
theorem dX10_factor_56 : decode cX10_factor 56 = .ok (.goto 107, 3) := by decide +kernel
theorem dX10_factor_59 : decode cX10_factor 59 = .ok (.aload_n 0, 1) := by decide +kernel
theorem dX10_factor_60 : decode cX10_factor 60 = .ok (.dup, 1) := by decide +kernel
theorem dX10_factor_61 : decode cX10_factor 61 = .ok (.getfield 136, 3) := by decide +kernel
theorem dX10_factor_64 : decode cX10_factor 64 = .ok (.iconst 1, 1) := by decide +kernel
theorem dX10_factor_65 : decode cX10_factor 65 = .ok (.iadd, 1) := by decide +kernel
theorem dX10_factor_66 : decode cX10_factor 66 = .ok (.putfield 136, 3) := by decide +kernel
theorem dX10_factor_69 : decode cX10_factor 69 = .ok (.aload_n 0, 1) := by decide +kernel
theorem dX10_factor_70 : decode cX10_factor 70 = .ok (.dup, 1) := by decide +kernel
theorem dX10_factor_71 : decode cX10_factor 71 = .ok (.getfield 115, 3) := by decide +kernel
theorem dX10_factor_74 : decode cX10_factor 74 = .ok (.iconst 1, 1) := by decide +kernel
theorem dX10_factor_75 : decode cX10_factor 75 = .ok (.iadd, 1) := by decide +kernel
theorem dX10_factor_76 : decode cX10_factor 76 = .ok (.putfield 115, 3) := by decide +kernel
theorem dX10_factor_79 : decode cX10_factor 79 = .ok (.iload_n 1, 1) := by decide +kernel
theorem dX10_factor_80 : decode cX10_factor 80 = .ok (.bipush 33, 2) := by decide +kernel
theorem dX10_factor_82 : decode cX10_factor 82 = .ok (.if_icmp .ne 17, 3) := by decide +kernel
theorem dX10_factor_85 : decode cX10_factor 85 = .ok (.aload_n 0, 1) := by decide +kernel
theorem dX10_factor_86 : decode cX10_factor 86 = .ok (.invokevirtual 139, 3) := by decide +kernel
theorem dX10_factor_89 : decode cX10_factor 89 = .ok (.aload_n 0, 1) := by decide +kernel
theorem dX10_factor_90 : decode cX10_factor 90 = .ok (.sipush 20033, 3) := by decide +kernel
theorem dX10_factor_93 : decode cX10_factor 93 = .ok (.invokevirtual 123, 3) := by decide +kernel
theorem dX10_factor_96 : decode cX10_factor 96 = .ok (.goto 57, 3) := by decide +kernel
theorem dX10_factor_99 : decode cX10_factor 99 = .ok (.aload_n 0, 1) := by decide +kernel
theorem dX10_factor_100 : decode cX10_factor 100 = .ok (.invokevirtual 142, 3) := by decide +kernel
theorem dX10_factor_103 : decode cX10_factor 103 = .ok (.aload_n 0, 1) := by decide +kernel
theorem dX10_factor_104 : decode cX10_factor 104 = .ok (.aload_n 0, 1) := by decide +kernel
theorem dX10_factor_105 : decode cX10_factor 105 = .ok (.getfield 108, 3) := by decide +kernel
theorem dX10_factor_108 : decode cX10_factor 108 = .ok (.ifCond .eq 20, 3) := by decide +kernel
theorem dX10_factor_111 : decode cX10_factor 111 = .ok (.aload_n 0, 1) := by decide +kernel
theorem dX10_factor_112 : decode cX10_factor 112 = .ok (.aload_n 0, 1) := by decide +kernel
theorem dX10_factor_113 : decode cX10_factor 113 = .ok (.getfield 115, 3) := by decide +kernel
theorem dX10_factor_116 : decode cX10_factor 116 = .ok (.invokevirtual 117, 3) := by decide +kernel
theorem dX10_factor_119 : decode cX10_factor 119 = .ok (.bipush 41, 2) := by decide +kernel
theorem dX10_factor_121 : decode cX10_factor 121 = .ok (.if_icmp .ne 7, 3) := by decide +kernel
theorem dX10_factor_124 : decode cX10_factor 124 = .ok (.iconst 1, 1) := by decide +kernel
theorem dX10_factor_125 : decode cX10_factor 125 = .ok (.goto 4, 3) := by decide +kernel
theorem dX10_factor_128 : decode cX10_factor 128 = .ok (.iconst 0, 1) := by decide +kernel
theorem dX10_factor_129 : decode cX10_factor 129 = .ok (.putfield 108, 3) := by decide +kernel
theorem dX10_factor_132 : decode cX10_factor 132 = .ok (.aload_n 0, 1) := by decide +kernel
theorem dX10_factor_133 : decode cX10_factor 133 = .ok (.dup, 1) := by decide +kernel
theorem dX10_factor_134 : decode cX10_factor 134 = .ok (.getfield 115, 3) := by decide +kernel
theorem dX10_factor_137 : decode cX10_factor 137 = .ok (.aload_n 0, 1) := by decide +kernel
theorem dX10_factor_138 : decode cX10_factor 138 = .ok (.getfield 108, 3) := by decide +kernel
theorem dX10_factor_141 : decode cX10_factor 141 = .ok (.ifCond .eq 7, 3) := by decide +kernel
theorem dX10_factor_144 : decode cX10_factor 144 = .ok (.iconst 1, 1) := by decide +kernel
theorem dX10_factor_145 : decode cX10_factor 145 = .ok (.goto 4, 3) := by decide +kernel
theorem dX10_factor_148 : decode cX10_factor 148 = .ok (.iconst 0, 1) := by decide +kernel
theorem dX10_factor_149 : decode cX10_factor 149 = .ok (.iadd, 1) := by decide +kernel
theorem dX10_factor_150 : decode cX10_factor 150 = .ok (.putfield 115, 3) := by decide +kernel
theorem dX10_factor_153 : decode cX10_factor 153 = .ok (.aload_n 0, 1) := by decide +kernel
theorem dX10_factor_154 : decode cX10_factor 154 = .ok (.dup, 1) := by decide +kernel
theorem dX10_factor_155 : decode cX10_factor 155 = .ok (.getfield 136, 3) := by decide +kernel
theorem dX10_factor_158 : decode cX10_factor 158 = .ok (.iconst 1, 1) := by decide +kernel
theorem dX10_factor_159 : decode cX10_factor 159 = .ok (.isub, 1) := by decide +kernel
theorem dX10_factor_160 : decode cX10_factor 160 = .ok (.putfield 136, 3) := by decide +kernel
theorem dX10_factor_163 : decode cX10_factor 163 = .ok (.return_, 1) := by decide +kernel
theorem dX10_product_0 : decode cX10_product 0 = .ok (.aload_n 0, 1) := by decide +kernel
theorem dX10_product_1 : decode cX10_product 1 = .ok (.invokevirtual 139, 3) := by decide +kernel
theorem dX10_product_4 : decode cX10_product 4 = .ok (.aload_n 0, 1) := by decide +kernel
theorem dX10_product_5 : decode cX10_product 5 = .ok (.getfield 108, 3) := by decide +kernel
theorem dX10_product_8 : decode cX10_product 8 = .ok (.ifCond .eq 77, 3) := by decide +kernel
theorem dX10_product_11 : decode cX10_product 11 = .ok (.aload_n 0, 1) := by decide +kernel
theorem dX10_product_12 : decode cX10_product 12 = .ok (.aload_n 0, 1) := by decide +kernel
theorem dX10_product_13 : decode cX10_product 13 = .ok (.getfield 115, 3) := by decide +kernel
theorem dX10_product_16 : decode cX10_product 16 = .ok (.invokevirtual 117, 3) := by decide +kernel
theorem dX10_product_19 : decode cX10_product 19 = .ok (.bipush 42, 2) := by decide +kernel
theorem dX10_product_21 : decode cX10_product 21 = .ok (.if_icmp .eq 29, 3) := by decide +kernel
theorem dX10_product_24 : decode cX10_product 24 = .ok (.aload_n 0, 1) := by decide +kernel
theorem dX10_product_25 : decode cX10_product 25 = .ok (.aload_n 0, 1) := by decide +kernel
theorem dX10_product_26 : decode cX10_product 26 = .ok (.getfield 115, 3) := by decide +kernel
theorem dX10_product_29 : decode cX10_product 29 = .ok (.invokevirtual 117, 3) := by decide +kernel
theorem dX10_product_32 : decode cX10_product 32 = .ok (.bipush 47, 2) := by decide +kernel
theorem dX10_product_34 : decode cX10_product 34 = .ok (.if_icmp .eq 16, 3) := by decide +kernel
theorem dX10_product_37 : decode cX10_product 37 = .ok (.aload_n 0, 1) := by decide +kernel
theorem dX10_product_38 : decode cX10_product 38 = .ok (.aload_n 0, 1) := by decide +kernel
theorem dX10_product_39 : decode cX10_product 39 = .ok (.getfield 115, 3) := by decide +kernel
theorem dX10_product_42 : decode cX10_product 42 = .ok (.invokevirtual 117, 3) := by decide +kernel
theorem dX10_product_45 : decode cX10_product 45 = .ok (.bipush 37, 2) := by decide +kernel
theorem dX10_product_47 : decode cX10_product 47 = .ok (.if_icmp .ne 38, 3) := by decide +kernel
theorem dX10_product_50 : decode cX10_product 50 = .ok (.aload_n 0, 1) := by decide +kernel
theorem dX10_product_51 : decode cX10_product 51 = .ok (.aload_n 0, 1) := by decide +kernel
theorem dX10_product_52 : decode cX10_product 52 = .ok (.getfield 115, 3) := by decide +kernel
theorem dX10_product_55 : decode cX10_product 55 = .ok (.invokevirtual 117, 3) := by decide +kernel
theorem dX10_product_58 : decode cX10_product 58 = .ok (.istore_n 1, 1) := by decide +kernel
theorem dX10_product_59 : decode cX10_product 59 = .ok (.aload_n 0, 1) := by decide +kernel
theorem dX10_product_60 : decode cX10_product 60 = .ok (.dup, 1) := by decide +kernel
theorem dX10_product_61 : decode cX10_product 61 = .ok (.getfield 115, 3) := by decide +kernel
theorem dX10_product_64 : decode cX10_product 64 = .ok (.iconst 1, 1) := by decide +kernel
theorem dX10_product_65 : decode cX10_product 65 = .ok (.iadd, 1) := by decide +kernel
theorem dX10_product_66 : decode cX10_product 66 = .ok (.putfield 115, 3) := by decide +kernel
theorem dX10_product_69 : decode cX10_product 69 = .ok (.aload_n 0, 1) := by decide +kernel
theorem dX10_product_70 : decode cX10_product 70 = .ok (.invokevirtual 139, 3) := by decide +kernel
theorem dX10_product_73 : decode cX10_product 73 = .ok (.aload_n 0, 1) := by decide +kernel
theorem dX10_product_74 : decode cX10_product 74 = .ok (.sipush 20000, 3) := by decide +kernel
theorem dX10_product_77 : decode cX10_product 77 = .ok (.iload_n 1, 1) := by decide +kernel
theorem dX10_product_78 : decode cX10_product 78 = .ok (.iadd, 1) := by decide +kernel
theorem dX10_product_79 : decode cX10_product 79 = .ok (.invokevirtual 123, 3) := by decide +kernel
theorem dX10_product_82 : decode cX10_product 82 = .ok (.goto (-78), 3) := by decide +kernel
theorem dX10_product_85 : decode cX10_product 85 = .ok (.return_, 1) := by decide +kernel
theorem dX10_sum_0 : decode cX10_sum 0 = .ok (.aload_n 0, 1) := by decide +kernel
theorem dX10_sum_1 : decode cX10_sum 1 = .ok (.invokevirtual 145, 3) := by decide +kernel
