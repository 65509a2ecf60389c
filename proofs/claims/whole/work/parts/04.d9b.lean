theorem dX9_missed_99 : decode cX9_missed 99 = .ok (.iload 6, 2) := by decide +kernel
theorem dX9_missed_101 : decode cX9_missed 101 = .ok (.iload 4, 2) := by decide +kernel
theorem dX9_missed_103 : decode cX9_missed 103 = .ok (.if_icmp .ge 10, 3) := by decide +kernel
theorem dX9_missed_106 : decode cX9_missed 106 = .ok (.iload 5, 2) := by decide +kernel
theorem dX9_missed_108 : decode cX9_missed 108 = .ok (.istore_n 3, 1) := by decide +kernel
theorem dX9_missed_109 : decode cX9_missed 109 = .ok (.iload 6, 2) := by decide +kernel
theorem dX9_missed_111 : decode cX9_missed 111 = .ok (.istore 4, 2) := by decide +kernel
theorem dX9_missed_113 : decode cX9_missed 113 = .ok (.iinc 5 1, 3) := by decide +kernel
theorem dX9_missed_116 : decode cX9_missed 116 = .ok (.goto (-65), 3) := by decide +kernel
theorem dX9_missed_119 : decode cX9_missed 119 = .ok (.iload_n 2, 1) := by decide +kernel
theorem dX9_missed_120 : decode cX9_missed 120 = .ok (.ifCond .ne 7, 3) := by decide +kernel
theorem dX9_missed_123 : decode cX9_missed 123 = .ok (.iload_n 3, 1) := by decide +kernel
theorem dX9_missed_124 : decode cX9_missed 124 = .ok (.goto 5, 3) := by decide +kernel
theorem dX9_missed_127 : decode cX9_missed 127 = .ok (.iload 4, 2) := by decide +kernel
theorem dX9_missed_129 : decode cX9_missed 129 = .ok (.ireturn, 1) := by decide +kernel
theorem dX9_nobody_0 : decode cX9_nobody 0 = .ok (.aload_n 0, 1) := by decide +kernel
theorem dX9_nobody_1 : decode cX9_nobody 1 = .ok (.getfield 10, 3) := by decide +kernel
theorem dX9_nobody_4 : decode cX9_nobody 4 = .ok (.getfield 63, 3) := by decide +kernel
theorem dX9_nobody_7 : decode cX9_nobody 7 = .ok (.invokevirtual 218, 3) := by decide +kernel
theorem dX9_nobody_10 : decode cX9_nobody 10 = .ok (.istore_n 1, 1) := by decide +kernel
theorem dX9_nobody_11 : decode cX9_nobody 11 = .ok (.iconst 0, 1) := by decide +kernel
theorem dX9_nobody_12 : decode cX9_nobody 12 = .ok (.istore_n 2, 1) := by decide +kernel
theorem dX9_nobody_13 : decode cX9_nobody 13 = .ok (.iload_n 2, 1) := by decide +kernel
theorem dX9_nobody_14 : decode cX9_nobody 14 = .ok (.aload_n 0, 1) := by decide +kernel
theorem dX9_nobody_15 : decode cX9_nobody 15 = .ok (.getfield 10, 3) := by decide +kernel
theorem dX9_nobody_18 : decode cX9_nobody 18 = .ok (.getfield 63, 3) := by decide +kernel
theorem dX9_nobody_21 : decode cX9_nobody 21 = .ok (.getfield 75, 3) := by decide +kernel
theorem dX9_nobody_24 : decode cX9_nobody 24 = .ok (.if_icmp .ge 33, 3) := by decide +kernel
theorem dX9_nobody_27 : decode cX9_nobody 27 = .ok (.aload_n 0, 1) := by decide +kernel
theorem dX9_nobody_28 : decode cX9_nobody 28 = .ok (.getfield 10, 3) := by decide +kernel
theorem dX9_nobody_31 : decode cX9_nobody 31 = .ok (.getfield 63, 3) := by decide +kernel
theorem dX9_nobody_34 : decode cX9_nobody 34 = .ok (.iload_n 2, 1) := by decide +kernel
theorem dX9_nobody_35 : decode cX9_nobody 35 = .ok (.invokevirtual 94, 3) := by decide +kernel
theorem dX9_nobody_38 : decode cX9_nobody 38 = .ok (.istore_n 3, 1) := by decide +kernel
theorem dX9_nobody_39 : decode cX9_nobody 39 = .ok (.iload_n 3, 1) := by decide +kernel
theorem dX9_nobody_40 : decode cX9_nobody 40 = .ok (.ifCond .lt 11, 3) := by decide +kernel
theorem dX9_nobody_43 : decode cX9_nobody 43 = .ok (.iload_n 1, 1) := by decide +kernel
theorem dX9_nobody_44 : decode cX9_nobody 44 = .ok (.iconst 1, 1) := by decide +kernel
theorem dX9_nobody_45 : decode cX9_nobody 45 = .ok (.iload_n 3, 1) := by decide +kernel
theorem dX9_nobody_46 : decode cX9_nobody 46 = .ok (.ishl, 1) := by decide +kernel
theorem dX9_nobody_47 : decode cX9_nobody 47 = .ok (.iconst (-1), 1) := by decide +kernel
theorem dX9_nobody_48 : decode cX9_nobody 48 = .ok (.ixor, 1) := by decide +kernel
theorem dX9_nobody_49 : decode cX9_nobody 49 = .ok (.iand, 1) := by decide +kernel
theorem dX9_nobody_50 : decode cX9_nobody 50 = .ok (.istore_n 1, 1) := by decide +kernel
theorem dX9_nobody_51 : decode cX9_nobody 51 = .ok (.iinc 2 1, 3) := by decide +kernel
theorem dX9_nobody_54 : decode cX9_nobody 54 = .ok (.goto (-41), 3) := by decide +kernel
theorem dX9_nobody_57 : decode cX9_nobody 57 = .ok (.iload_n 1, 1) := by decide +kernel
theorem dX9_nobody_58 : decode cX9_nobody 58 = .ok (.ireturn, 1) := by decide +kernel
theorem dX9_lies_0 : decode cX9_lies 0 = .ok (.iload_n 1, 1) := by decide +kernel
theorem dX9_lies_1 : decode cX9_lies 1 = .ok (.invokestatic 221, 3) := by decide +kernel
theorem dX9_lies_4 : decode cX9_lies 4 = .ok (.ifCond .eq 19, 3) := by decide +kernel
theorem dX9_lies_7 : decode cX9_lies 7 = .ok (.aload_n 0, 1) := by decide +kernel
theorem dX9_lies_8 : decode cX9_lies 8 = .ok (.iload_n 2, 1) := by decide +kernel
theorem dX9_lies_9 : decode cX9_lies 9 = .ok (.invokevirtual 131, 3) := by decide +kernel
theorem dX9_lies_12 : decode cX9_lies 12 = .ok (.ifCond .eq 11, 3) := by decide +kernel
theorem dX9_lies_15 : decode cX9_lies 15 = .ok (.iload_n 3, 1) := by decide +kernel
theorem dX9_lies_16 : decode cX9_lies 16 = .ok (.iconst 1, 1) := by decide +kernel
theorem dX9_lies_17 : decode cX9_lies 17 = .ok (.invokestatic 55, 3) := by decide +kernel
theorem dX9_lies_20 : decode cX9_lies 20 = .ok (.ifCond .ne 9, 3) := by decide +kernel
theorem dX9_lies_23 : decode cX9_lies 23 = .ok (.aload_n 0, 1) := by decide +kernel
theorem dX9_lies_24 : decode cX9_lies 24 = .ok (.iconst 1, 1) := by decide +kernel
theorem dX9_lies_25 : decode cX9_lies 25 = .ok (.invokevirtual 59, 3) := by decide +kernel
theorem dX9_lies_28 : decode cX9_lies 28 = .ok (.ireturn, 1) := by decide +kernel
theorem dX9_lies_29 : decode cX9_lies 29 = .ok (.aload_n 0, 1) := by decide +kernel
theorem dX9_lies_30 : decode cX9_lies 30 = .ok (.getfield 42, 3) := by decide +kernel
theorem dX9_lies_33 : decode cX9_lies 33 = .ok (.iload_n 1, 1) := by decide +kernel
theorem dX9_lies_34 : decode cX9_lies 34 = .ok (.aaload, 1) := by decide +kernel
theorem dX9_lies_35 : decode cX9_lies 35 = .ok (.astore 4, 2) := by decide +kernel
theorem dX9_lies_37 : decode cX9_lies 37 = .ok (.aload 4, 2) := by decide +kernel
theorem dX9_lies_39 : decode cX9_lies 39 = .ok (.invokevirtual 224, 3) := by decide +kernel
theorem dX9_lies_42 : decode cX9_lies 42 = .ok (.ifCond .ne 16, 3) := by decide +kernel
theorem dX9_lies_45 : decode cX9_lies 45 = .ok (.aload 4, 2) := by decide +kernel
theorem dX9_lies_47 : decode cX9_lies 47 = .ok (.getfield 228, 3) := by decide +kernel
theorem dX9_lies_50 : decode cX9_lies 50 = .ok (.getfield 153, 3) := by decide +kernel
theorem dX9_lies_53 : decode cX9_lies 53 = .ok (.bipush 10, 2) := by decide +kernel
theorem dX9_lies_55 : decode cX9_lies 55 = .ok (.if_icmp .eq 9, 3) := by decide +kernel
theorem dX9_lies_58 : decode cX9_lies 58 = .ok (.aload_n 0, 1) := by decide +kernel
theorem dX9_lies_59 : decode cX9_lies 59 = .ok (.iconst 2, 1) := by decide +kernel
theorem dX9_lies_60 : decode cX9_lies 60 = .ok (.invokevirtual 59, 3) := by decide +kernel
theorem dX9_lies_63 : decode cX9_lies 63 = .ok (.ireturn, 1) := by decide +kernel
theorem dX9_lies_64 : decode cX9_lies 64 = .ok (.iconst 0, 1) := by decide +kernel
theorem dX9_lies_65 : decode cX9_lies 65 = .ok (.istore 5, 2) := by decide +kernel
theorem dX9_lies_67 : decode cX9_lies 67 = .ok (.iconst 0, 1) := by decide +kernel
theorem dX9_lies_68 : decode cX9_lies 68 = .ok (.istore 6, 2) := by decide +kernel
theorem dX9_lies_70 : decode cX9_lies 70 = .ok (.iload 6, 2) := by decide +kernel
theorem dX9_lies_72 : decode cX9_lies 72 = .ok (.bipush 10, 2) := by decide +kernel
theorem dX9_lies_74 : decode cX9_lies 74 = .ok (.if_icmp .ge 59, 3) := by decide +kernel
theorem dX9_lies_77 : decode cX9_lies 77 = .ok (.aload_n 0, 1) := by decide +kernel
theorem dX9_lies_78 : decode cX9_lies 78 = .ok (.invokevirtual 200, 3) := by decide +kernel
theorem dX9_lies_81 : decode cX9_lies 81 = .ok (.aload_n 0, 1) := by decide +kernel
theorem dX9_lies_82 : decode cX9_lies 82 = .ok (.getfield 22, 3) := by decide +kernel
theorem dX9_lies_85 : decode cX9_lies 85 = .ok (.getfield 106, 3) := by decide +kernel
theorem dX9_lies_88 : decode cX9_lies 88 = .ok (.iload_n 2, 1) := by decide +kernel
theorem dX9_lies_89 : decode cX9_lies 89 = .ok (.aaload, 1) := by decide +kernel
theorem dX9_lies_90 : decode cX9_lies 90 = .ok (.iload 6, 2) := by decide +kernel
theorem dX9_lies_92 : decode cX9_lies 92 = .ok (.putfield 118, 3) := by decide +kernel
theorem dX9_lies_95 : decode cX9_lies 95 = .ok (.aload_n 0, 1) := by decide +kernel
theorem dX9_lies_96 : decode cX9_lies 96 = .ok (.getfield 22, 3) := by decide +kernel
theorem dX9_lies_99 : decode cX9_lies 99 = .ok (.iconst 1, 1) := by decide +kernel
theorem dX9_lies_100 : decode cX9_lies 100 = .ok (.invokevirtual 189, 3) := by decide +kernel
theorem dX9_lies_103 : decode cX9_lies 103 = .ok (.aload_n 0, 1) := by decide +kernel
theorem dX9_lies_104 : decode cX9_lies 104 = .ok (.getfield 22, 3) := by decide +kernel
theorem dX9_lies_107 : decode cX9_lies 107 = .ok (.aload 4, 2) := by decide +kernel
theorem dX9_lies_109 : decode cX9_lies 109 = .ok (.getfield 228, 3) := by decide +kernel
theorem dX9_lies_112 : decode cX9_lies 112 = .ok (.invokevirtual 231, 3) := by decide +kernel
theorem dX9_lies_115 : decode cX9_lies 115 = .ok (.ifCond .eq 12, 3) := by decide +kernel
theorem dX9_lies_118 : decode cX9_lies 118 = .ok (.iload 5, 2) := by decide +kernel
theorem dX9_lies_120 : decode cX9_lies 120 = .ok (.iconst 1, 1) := by decide +kernel
theorem dX9_lies_121 : decode cX9_lies 121 = .ok (.iload 6, 2) := by decide +kernel
theorem dX9_lies_123 : decode cX9_lies 123 = .ok (.ishl, 1) := by decide +kernel
theorem dX9_lies_124 : decode cX9_lies 124 = .ok (.ior, 1) := by decide +kernel
theorem dX9_lies_125 : decode cX9_lies 125 = .ok (.istore 5, 2) := by decide +kernel
theorem dX9_lies_127 : decode cX9_lies 127 = .ok (.iinc 6 1, 3) := by decide +kernel
theorem dX9_lies_130 : decode cX9_lies 130 = .ok (.goto (-60), 3) := by decide +kernel
theorem dX9_lies_133 : decode cX9_lies 133 = .ok (.iload_n 3, 1) := by decide +kernel
theorem dX9_lies_134 : decode cX9_lies 134 = .ok (.ifCond .ne 8, 3) := by decide +kernel
theorem dX9_lies_137 : decode cX9_lies 137 = .ok (.iload 5, 2) := by decide +kernel
theorem dX9_lies_139 : decode cX9_lies 139 = .ok (.goto 8, 3) := by decide +kernel
theorem dX9_lies_142 : decode cX9_lies 142 = .ok (.iload 5, 2) := by decide +kernel
theorem dX9_lies_144 : decode cX9_lies 144 = .ok (.invokestatic 210, 3) := by decide +kernel
theorem dX9_lies_147 : decode cX9_lies 147 = .ok (.ireturn, 1) := by decide +kernel
theorem dX9_order_0 : decode cX9_order 0 = .ok (.iload_n 1, 1) := by decide +kernel
theorem dX9_order_1 : decode cX9_order 1 = .ok (.invokestatic 221, 3) := by decide +kernel
theorem dX9_order_4 : decode cX9_order 4 = .ok (.ifCond .ne 9, 3) := by decide +kernel
theorem dX9_order_7 : decode cX9_order 7 = .ok (.aload_n 0, 1) := by decide +kernel
theorem dX9_order_8 : decode cX9_order 8 = .ok (.iconst 1, 1) := by decide +kernel
theorem dX9_order_9 : decode cX9_order 9 = .ok (.invokevirtual 59, 3) := by decide +kernel
theorem dX9_order_12 : decode cX9_order 12 = .ok (.ireturn, 1) := by decide +kernel
theorem dX9_order_13 : decode cX9_order 13 = .ok (.aload_n 0, 1) := by decide +kernel
theorem dX9_order_14 : decode cX9_order 14 = .ok (.getfield 42, 3) := by decide +kernel
theorem dX9_order_17 : decode cX9_order 17 = .ok (.iload_n 1, 1) := by decide +kernel
theorem dX9_order_18 : decode cX9_order 18 = .ok (.aaload, 1) := by decide +kernel
theorem dX9_order_19 : decode cX9_order 19 = .ok (.astore_n 2, 1) := by decide +kernel
theorem dX9_order_20 : decode cX9_order 20 = .ok (.aload_n 2, 1) := by decide +kernel
theorem dX9_order_21 : decode cX9_order 21 = .ok (.invokevirtual 224, 3) := by decide +kernel
theorem dX9_order_24 : decode cX9_order 24 = .ok (.ifCond .eq 9, 3) := by decide +kernel
theorem dX9_order_27 : decode cX9_order 27 = .ok (.aload_n 0, 1) := by decide +kernel
theorem dX9_order_28 : decode cX9_order 28 = .ok (.iconst 2, 1) := by decide +kernel
theorem dX9_order_29 : decode cX9_order 29 = .ok (.invokevirtual 59, 3) := by decide +kernel
theorem dX9_order_32 : decode cX9_order 32 = .ok (.ireturn, 1) := by decide +kernel
theorem dX9_order_33 : decode cX9_order 33 = .ok (.aload_n 0, 1) := by decide +kernel
theorem dX9_order_34 : decode cX9_order 34 = .ok (.invokevirtual 200, 3) := by decide +kernel
theorem dX9_order_37 : decode cX9_order 37 = .ok (.aload_n 0, 1) := by decide +kernel
theorem dX9_order_38 : decode cX9_order 38 = .ok (.getfield 22, 3) := by decide +kernel
theorem dX9_order_41 : decode cX9_order 41 = .ok (.bipush 60, 2) := by decide +kernel
theorem dX9_order_43 : decode cX9_order 43 = .ok (.invokevirtual 189, 3) := by decide +kernel
theorem dX9_order_46 : decode cX9_order 46 = .ok (.aload_n 0, 1) := by decide +kernel
theorem dX9_order_47 : decode cX9_order 47 = .ok (.getfield 22, 3) := by decide +kernel
theorem dX9_order_50 : decode cX9_order 50 = .ok (.getfield 235, 3) := by decide +kernel
theorem dX9_order_53 : decode cX9_order 53 = .ok (.astore_n 3, 1) := by decide +kernel
theorem dX9_order_54 : decode cX9_order 54 = .ok (.iconst 0, 1) := by decide +kernel
theorem dX9_order_55 : decode cX9_order 55 = .ok (.istore 4, 2) := by decide +kernel
theorem dX9_order_57 : decode cX9_order 57 = .ok (.iload 4, 2) := by decide +kernel
theorem dX9_order_59 : decode cX9_order 59 = .ok (.aload_n 3, 1) := by decide +kernel
theorem dX9_order_60 : decode cX9_order 60 = .ok (.getfield 153, 3) := by decide +kernel
theorem dX9_order_63 : decode cX9_order 63 = .ok (.if_icmp .ge 39, 3) := by decide +kernel
theorem dX9_order_66 : decode cX9_order 66 = .ok (.iload 4, 2) := by decide +kernel
theorem dX9_order_68 : decode cX9_order 68 = .ok (.aload_n 2, 1) := by decide +kernel
theorem dX9_order_69 : decode cX9_order 69 = .ok (.getfield 228, 3) := by decide +kernel
theorem dX9_order_72 : decode cX9_order 72 = .ok (.getfield 153, 3) := by decide +kernel
theorem dX9_order_75 : decode cX9_order 75 = .ok (.if_icmp .ge 27, 3) := by decide +kernel
theorem dX9_order_78 : decode cX9_order 78 = .ok (.aload_n 3, 1) := by decide +kernel
theorem dX9_order_79 : decode cX9_order 79 = .ok (.iload 4, 2) := by decide +kernel
theorem dX9_order_81 : decode cX9_order 81 = .ok (.invokevirtual 238, 3) := by decide +kernel
theorem dX9_order_84 : decode cX9_order 84 = .ok (.aload_n 2, 1) := by decide +kernel
theorem dX9_order_85 : decode cX9_order 85 = .ok (.getfield 228, 3) := by decide +kernel
theorem dX9_order_88 : decode cX9_order 88 = .ok (.iload 4, 2) := by decide +kernel
theorem dX9_order_90 : decode cX9_order 90 = .ok (.invokevirtual 238, 3) := by decide +kernel
theorem dX9_order_93 : decode cX9_order 93 = .ok (.if_icmp .ne 9, 3) := by decide +kernel
theorem dX9_order_96 : decode cX9_order 96 = .ok (.iinc 4 1, 3) := by decide +kernel
theorem dX9_order_99 : decode cX9_order 99 = .ok (.goto (-42), 3) := by decide +kernel
theorem dX9_order_102 : decode cX9_order 102 = .ok (.iload 4, 2) := by decide +kernel
theorem dX9_order_104 : decode cX9_order 104 = .ok (.ireturn, 1) := by decide +kernel
theorem dX9_strong_0 : decode cX9_strong 0 = .ok (.aload_n 0, 1) := by decide +kernel
theorem dX9_strong_1 : decode cX9_strong 1 = .ok (.iload_n 1, 1) := by decide +kernel
theorem dX9_strong_2 : decode cX9_strong 2 = .ok (.invokevirtual 91, 3) := by decide +kernel
theorem dX9_strong_5 : decode cX9_strong 5 = .ok (.ifCond .eq 20, 3) := by decide +kernel
theorem dX9_strong_8 : decode cX9_strong 8 = .ok (.aload_n 0, 1) := by decide +kernel
theorem dX9_strong_9 : decode cX9_strong 9 = .ok (.iload_n 2, 1) := by decide +kernel
theorem dX9_strong_10 : decode cX9_strong 10 = .ok (.invokevirtual 131, 3) := by decide +kernel
theorem dX9_strong_13 : decode cX9_strong 13 = .ok (.ifCond .eq 12, 3) := by decide +kernel
theorem dX9_strong_16 : decode cX9_strong 16 = .ok (.iload_n 3, 1) := by decide +kernel
theorem dX9_strong_17 : decode cX9_strong 17 = .ok (.bipush 20, 2) := by decide +kernel
theorem dX9_strong_19 : decode cX9_strong 19 = .ok (.invokestatic 55, 3) := by decide +kernel
theorem dX9_strong_22 : decode cX9_strong 22 = .ok (.ifCond .ne 9, 3) := by decide +kernel
theorem dX9_strong_25 : decode cX9_strong 25 = .ok (.aload_n 0, 1) := by decide +kernel
theorem dX9_strong_26 : decode cX9_strong 26 = .ok (.iconst 1, 1) := by decide +kernel
theorem dX9_strong_27 : decode cX9_strong 27 = .ok (.invokevirtual 59, 3) := by decide +kernel
theorem dX9_strong_30 : decode cX9_strong 30 = .ok (.ireturn, 1) := by decide +kernel
theorem dX9_strong_31 : decode cX9_strong 31 = .ok (.iconst 0, 1) := by decide +kernel
theorem dX9_strong_32 : decode cX9_strong 32 = .ok (.istore 4, 2) := by decide +kernel
theorem dX9_strong_34 : decode cX9_strong 34 = .ok (.iload 4, 2) := by decide +kernel
theorem dX9_strong_36 : decode cX9_strong 36 = .ok (.bipush 99, 2) := by decide +kernel
theorem dX9_strong_38 : decode cX9_strong 38 = .ok (.if_icmp .gt 55, 3) := by decide +kernel
theorem dX9_strong_41 : decode cX9_strong 41 = .ok (.aload_n 0, 1) := by decide +kernel
theorem dX9_strong_42 : decode cX9_strong 42 = .ok (.invokevirtual 200, 3) := by decide +kernel
theorem dX9_strong_45 : decode cX9_strong 45 = .ok (.aload_n 0, 1) := by decide +kernel
theorem dX9_strong_46 : decode cX9_strong 46 = .ok (.getfield 22, 3) := by decide +kernel
theorem dX9_strong_49 : decode cX9_strong 49 = .ok (.getfield 79, 3) := by decide +kernel
theorem dX9_strong_52 : decode cX9_strong 52 = .ok (.iload_n 1, 1) := by decide +kernel
theorem dX9_strong_53 : decode cX9_strong 53 = .ok (.aaload, 1) := by decide +kernel
theorem dX9_strong_54 : decode cX9_strong 54 = .ok (.iload 4, 2) := by decide +kernel
theorem dX9_strong_56 : decode cX9_strong 56 = .ok (.putfield 88, 3) := by decide +kernel
theorem dX9_strong_59 : decode cX9_strong 59 = .ok (.aload_n 0, 1) := by decide +kernel
theorem dX9_strong_60 : decode cX9_strong 60 = .ok (.getfield 22, 3) := by decide +kernel
theorem dX9_strong_63 : decode cX9_strong 63 = .ok (.iload_n 2, 1) := by decide +kernel
theorem dX9_strong_64 : decode cX9_strong 64 = .ok (.iload_n 3, 1) := by decide +kernel
theorem dX9_strong_65 : decode cX9_strong 65 = .ok (.invokevirtual 206, 3) := by decide +kernel
theorem dX9_strong_68 : decode cX9_strong 68 = .ok (.pop, 1) := by decide +kernel
theorem dX9_strong_69 : decode cX9_strong 69 = .ok (.aload_n 0, 1) := by decide +kernel
theorem dX9_strong_70 : decode cX9_strong 70 = .ok (.getfield 22, 3) := by decide +kernel
theorem dX9_strong_73 : decode cX9_strong 73 = .ok (.getfield 106, 3) := by decide +kernel
theorem dX9_strong_76 : decode cX9_strong 76 = .ok (.iload_n 2, 1) := by decide +kernel
theorem dX9_strong_77 : decode cX9_strong 77 = .ok (.aaload, 1) := by decide +kernel
theorem dX9_strong_78 : decode cX9_strong 78 = .ok (.getfield 127, 3) := by decide +kernel
theorem dX9_strong_81 : decode cX9_strong 81 = .ok (.ifCond .eq 6, 3) := by decide +kernel
theorem dX9_strong_84 : decode cX9_strong 84 = .ok (.iload 4, 2) := by decide +kernel
theorem dX9_strong_86 : decode cX9_strong 86 = .ok (.ireturn, 1) := by decide +kernel
theorem dX9_strong_87 : decode cX9_strong 87 = .ok (.iinc 4 1, 3) := by decide +kernel
theorem dX9_strong_90 : decode cX9_strong 90 = .ok (.goto (-56), 3) := by decide +kernel
theorem dX9_strong_93 : decode cX9_strong 93 = .ok (.aload_n 0, 1) := by decide +kernel
theorem dX9_strong_94 : decode cX9_strong 94 = .ok (.iconst 2, 1) := by decide +kernel
theorem dX9_strong_95 : decode cX9_strong 95 = .ok (.invokevirtual 59, 3) := by decide +kernel
theorem dX9_strong_98 : decode cX9_strong 98 = .ok (.ireturn, 1) := by decide +kernel
theorem dX9_odds_0 : decode cX9_odds 0 = .ok (.aload_n 0, 1) := by decide +kernel
theorem dX9_odds_1 : decode cX9_odds 1 = .ok (.iload_n 1, 1) := by decide +kernel
theorem dX9_odds_2 : decode cX9_odds 2 = .ok (.invokevirtual 131, 3) := by decide +kernel
theorem dX9_odds_5 : decode cX9_odds 5 = .ok (.ifCond .eq 20, 3) := by decide +kernel
theorem dX9_odds_8 : decode cX9_odds 8 = .ok (.iload_n 2, 1) := by decide +kernel
theorem dX9_odds_9 : decode cX9_odds 9 = .ok (.bipush 60, 2) := by decide +kernel
theorem dX9_odds_11 : decode cX9_odds 11 = .ok (.invokestatic 55, 3) := by decide +kernel
theorem dX9_odds_14 : decode cX9_odds 14 = .ok (.ifCond .eq 11, 3) := by decide +kernel
theorem dX9_odds_17 : decode cX9_odds 17 = .ok (.iload_n 3, 1) := by decide +kernel
theorem dX9_odds_18 : decode cX9_odds 18 = .ok (.iconst 1, 1) := by decide +kernel
theorem dX9_odds_19 : decode cX9_odds 19 = .ok (.invokestatic 55, 3) := by decide +kernel
theorem dX9_odds_22 : decode cX9_odds 22 = .ok (.ifCond .ne 9, 3) := by decide +kernel
theorem dX9_odds_25 : decode cX9_odds 25 = .ok (.aload_n 0, 1) := by decide +kernel
theorem dX9_odds_26 : decode cX9_odds 26 = .ok (.iconst 1, 1) := by decide +kernel
theorem dX9_odds_27 : decode cX9_odds 27 = .ok (.invokevirtual 59, 3) := by decide +kernel
theorem dX9_odds_30 : decode cX9_odds 30 = .ok (.ireturn, 1) := by decide +kernel
theorem dX9_odds_31 : decode cX9_odds 31 = .ok (.iconst 0, 1) := by decide +kernel
theorem dX9_odds_32 : decode cX9_odds 32 = .ok (.istore 4, 2) := by decide +kernel
theorem dX9_odds_34 : decode cX9_odds 34 = .ok (.iconst 0, 1) := by decide +kernel
theorem dX9_odds_35 : decode cX9_odds 35 = .ok (.istore 5, 2) := by decide +kernel
theorem dX9_odds_37 : decode cX9_odds 37 = .ok (.iload 5, 2) := by decide +kernel
theorem dX9_odds_39 : decode cX9_odds 39 = .ok (.bipush 10, 2) := by decide +kernel
theorem dX9_odds_41 : decode cX9_odds 41 = .ok (.if_icmp .ge 55, 3) := by decide +kernel
theorem dX9_odds_44 : decode cX9_odds 44 = .ok (.aload_n 0, 1) := by decide +kernel
theorem dX9_odds_45 : decode cX9_odds 45 = .ok (.invokevirtual 200, 3) := by decide +kernel
theorem dX9_odds_48 : decode cX9_odds 48 = .ok (.aload_n 0, 1) := by decide +kernel
theorem dX9_odds_49 : decode cX9_odds 49 = .ok (.getfield 22, 3) := by decide +kernel
theorem dX9_odds_52 : decode cX9_odds 52 = .ok (.getfield 106, 3) := by decide +kernel
theorem dX9_odds_55 : decode cX9_odds 55 = .ok (.iload_n 1, 1) := by decide +kernel
theorem dX9_odds_56 : decode cX9_odds 56 = .ok (.aaload, 1) := by decide +kernel
theorem dX9_odds_57 : decode cX9_odds 57 = .ok (.iload 5, 2) := by decide +kernel
theorem dX9_odds_59 : decode cX9_odds 59 = .ok (.putfield 118, 3) := by decide +kernel
theorem dX9_odds_62 : decode cX9_odds 62 = .ok (.aload_n 0, 1) := by decide +kernel
theorem dX9_odds_63 : decode cX9_odds 63 = .ok (.getfield 22, 3) := by decide +kernel
theorem dX9_odds_66 : decode cX9_odds 66 = .ok (.iload_n 1, 1) := by decide +kernel
theorem dX9_odds_67 : decode cX9_odds 67 = .ok (.iload_n 2, 1) := by decide +kernel
theorem dX9_odds_68 : decode cX9_odds 68 = .ok (.invokevirtual 206, 3) := by decide +kernel
theorem dX9_odds_71 : decode cX9_odds 71 = .ok (.pop, 1) := by decide +kernel
theorem dX9_odds_72 : decode cX9_odds 72 = .ok (.aload_n 0, 1) := by decide +kernel
theorem dX9_odds_73 : decode cX9_odds 73 = .ok (.getfield 22, 3) := by decide +kernel
theorem dX9_odds_76 : decode cX9_odds 76 = .ok (.getfield 106, 3) := by decide +kernel
theorem dX9_odds_79 : decode cX9_odds 79 = .ok (.iload_n 1, 1) := by decide +kernel
theorem dX9_odds_80 : decode cX9_odds 80 = .ok (.aaload, 1) := by decide +kernel
theorem dX9_odds_81 : decode cX9_odds 81 = .ok (.getfield 127, 3) := by decide +kernel
theorem dX9_odds_84 : decode cX9_odds 84 = .ok (.ifCond .eq 6, 3) := by decide +kernel
theorem dX9_odds_87 : decode cX9_odds 87 = .ok (.iinc 4 1, 3) := by decide +kernel
theorem dX9_odds_90 : decode cX9_odds 90 = .ok (.iinc 5 1, 3) := by decide +kernel
theorem dX9_odds_93 : decode cX9_odds 93 = .ok (.goto (-56), 3) := by decide +kernel
theorem dX9_odds_96 : decode cX9_odds 96 = .ok (.iload 4, 2) := by decide +kernel
theorem dX9_odds_98 : decode cX9_odds 98 = .ok (.iload_n 3, 1) := by decide +kernel
theorem dX9_odds_99 : decode cX9_odds 99 = .ok (.invokestatic 241, 3) := by decide +kernel
theorem dX9_odds_102 : decode cX9_odds 102 = .ok (.ireturn, 1) := by decide +kernel
theorem dX9_seed_0 : decode cX9_seed 0 = .ok (.aload_n 0, 1) := by decide +kernel
theorem dX9_seed_1 : decode cX9_seed 1 = .ok (.getfield 10, 3) := by decide +kernel
theorem dX9_seed_4 : decode cX9_seed 4 = .ok (.getfield 244, 3) := by decide +kernel
theorem dX9_seed_7 : decode cX9_seed 7 = .ok (.istore_n 2, 1) := by decide +kernel
theorem dX9_seed_8 : decode cX9_seed 8 = .ok (.aload_n 0, 1) := by decide +kernel
theorem dX9_seed_9 : decode cX9_seed 9 = .ok (.getfield 10, 3) := by decide +kernel
theorem dX9_seed_12 : decode cX9_seed 12 = .ok (.iload_n 1, 1) := by decide +kernel
theorem dX9_seed_13 : decode cX9_seed 13 = .ok (.putfield 244, 3) := by decide +kernel
theorem dX9_seed_16 : decode cX9_seed 16 = .ok (.iload_n 2, 1) := by decide +kernel
theorem dX9_seed_17 : decode cX9_seed 17 = .ok (.ireturn, 1) := by decide +kernel
theorem dX9_voice_0 : decode cX9_voice 0 = .ok (.aload_n 0, 1) := by decide +kernel
theorem dX9_voice_1 : decode cX9_voice 1 = .ok (.iload_n 1, 1) := by decide +kernel
theorem dX9_voice_2 : decode cX9_voice 2 = .ok (.invokevirtual 131, 3) := by decide +kernel
theorem dX9_voice_5 : decode cX9_voice 5 = .ok (.ifCond .eq 11, 3) := by decide +kernel
theorem dX9_voice_8 : decode cX9_voice 8 = .ok (.iload_n 2, 1) := by decide +kernel
theorem dX9_voice_9 : decode cX9_voice 9 = .ok (.iconst 3, 1) := by decide +kernel
theorem dX9_voice_10 : decode cX9_voice 10 = .ok (.invokestatic 55, 3) := by decide +kernel
theorem dX9_voice_13 : decode cX9_voice 13 = .ok (.ifCond .ne 9, 3) := by decide +kernel
theorem dX9_voice_16 : decode cX9_voice 16 = .ok (.aload_n 0, 1) := by decide +kernel
theorem dX9_voice_17 : decode cX9_voice 17 = .ok (.iconst 1, 1) := by decide +kernel
theorem dX9_voice_18 : decode cX9_voice 18 = .ok (.invokevirtual 59, 3) := by decide +kernel
theorem dX9_voice_21 : decode cX9_voice 21 = .ok (.ireturn, 1) := by decide +kernel
theorem dX9_voice_22 : decode cX9_voice 22 = .ok (.aload_n 0, 1) := by decide +kernel
theorem dX9_voice_23 : decode cX9_voice 23 = .ok (.getfield 10, 3) := by decide +kernel
theorem dX9_voice_26 : decode cX9_voice 26 = .ok (.getfield 63, 3) := by decide +kernel
theorem dX9_voice_29 : decode cX9_voice 29 = .ok (.getfield 106, 3) := by decide +kernel
theorem dX9_voice_32 : decode cX9_voice 32 = .ok (.iload_n 1, 1) := by decide +kernel
theorem dX9_voice_33 : decode cX9_voice 33 = .ok (.aaload, 1) := by decide +kernel
theorem dX9_voice_34 : decode cX9_voice 34 = .ok (.astore 4, 2) := by decide +kernel
theorem dX9_voice_36 : decode cX9_voice 36 = .ok (.aload_n 0, 1) := by decide +kernel
theorem dX9_voice_37 : decode cX9_voice 37 = .ok (.getfield 36, 3) := by decide +kernel
theorem dX9_voice_40 : decode cX9_voice 40 = .ok (.aload 4, 2) := by decide +kernel
theorem dX9_voice_42 : decode cX9_voice 42 = .ok (.getfield 110, 3) := by decide +kernel
theorem dX9_voice_45 : decode cX9_voice 45 = .ok (.iload_n 1, 1) := by decide +kernel
theorem dX9_voice_46 : decode cX9_voice 46 = .ok (.aload 4, 2) := by decide +kernel
theorem dX9_voice_48 : decode cX9_voice 48 = .ok (.getfield 115, 3) := by decide +kernel
theorem dX9_voice_51 : decode cX9_voice 51 = .ok (.iload_n 2, 1) := by decide +kernel
theorem dX9_voice_52 : decode cX9_voice 52 = .ok (.iload_n 3, 1) := by decide +kernel
theorem dX9_voice_53 : decode cX9_voice 53 = .ok (.invokevirtual 247, 3) := by decide +kernel
theorem dX9_voice_56 : decode cX9_voice 56 = .ok (.ireturn, 1) := by decide +kernel
theorem dX9_trace_0 : decode cX9_trace 0 = .ok (.aload_n 0, 1) := by decide +kernel
theorem dX9_trace_1 : decode cX9_trace 1 = .ok (.getfield 36, 3) := by decide +kernel
theorem dX9_trace_4 : decode cX9_trace 4 = .ok (.getfield 251, 3) := by decide +kernel
theorem dX9_trace_7 : decode cX9_trace 7 = .ok (.iload_n 1, 1) := by decide +kernel
theorem dX9_trace_8 : decode cX9_trace 8 = .ok (.invokevirtual 254, 3) := by decide +kernel
theorem dX9_trace_11 : decode cX9_trace 11 = .ok (.ifCond .eq 17, 3) := by decide +kernel
theorem dX9_trace_14 : decode cX9_trace 14 = .ok (.aload_n 0, 1) := by decide +kernel
theorem dX9_trace_15 : decode cX9_trace 15 = .ok (.getfield 36, 3) := by decide +kernel
theorem dX9_trace_18 : decode cX9_trace 18 = .ok (.getfield 251, 3) := by decide +kernel
theorem dX9_trace_21 : decode cX9_trace 21 = .ok (.iload_n 1, 1) := by decide +kernel
theorem dX9_trace_22 : decode cX9_trace 22 = .ok (.invokevirtual 238, 3) := by decide +kernel
theorem dX9_trace_25 : decode cX9_trace 25 = .ok (.goto 8, 3) := by decide +kernel
theorem dX9_trace_28 : decode cX9_trace 28 = .ok (.aload_n 0, 1) := by decide +kernel
theorem dX9_trace_29 : decode cX9_trace 29 = .ok (.iconst 2, 1) := by decide +kernel
theorem dX9_trace_30 : decode cX9_trace 30 = .ok (.invokevirtual 59, 3) := by decide +kernel
theorem dX9_trace_33 : decode cX9_trace 33 = .ok (.ireturn, 1) := by decide +kernel
theorem dX9_sheet_0 : decode cX9_sheet 0 = .ok (.iload_n 1, 1) := by decide +kernel
theorem dX9_sheet_1 : decode cX9_sheet 1 = .ok (.invokestatic 221, 3) := by decide +kernel
theorem dX9_sheet_4 : decode cX9_sheet 4 = .ok (.ifCond .eq 25, 3) := by decide +kernel
theorem dX9_sheet_7 : decode cX9_sheet 7 = .ok (.iload_n 2, 1) := by decide +kernel
theorem dX9_sheet_8 : decode cX9_sheet 8 = .ok (.ifCond .eq 27, 3) := by decide +kernel
theorem dX9_sheet_11 : decode cX9_sheet 11 = .ok (.iload_n 2, 1) := by decide +kernel
theorem dX9_sheet_12 : decode cX9_sheet 12 = .ok (.bipush 8, 2) := by decide +kernel
theorem dX9_sheet_14 : decode cX9_sheet 14 = .ok (.if_icmp .eq 21, 3) := by decide +kernel
theorem dX9_sheet_17 : decode cX9_sheet 17 = .ok (.iload_n 2, 1) := by decide +kernel
theorem dX9_sheet_18 : decode cX9_sheet 18 = .ok (.bipush 16, 2) := by decide +kernel
theorem dX9_sheet_20 : decode cX9_sheet 20 = .ok (.if_icmp .eq 15, 3) := by decide +kernel
theorem dX9_sheet_23 : decode cX9_sheet 23 = .ok (.iload_n 2, 1) := by decide +kernel
theorem dX9_sheet_24 : decode cX9_sheet 24 = .ok (.bipush 32, 2) := by decide +kernel
theorem dX9_sheet_26 : decode cX9_sheet 26 = .ok (.if_icmp .eq 9, 3) := by decide +kernel
theorem dX9_sheet_29 : decode cX9_sheet 29 = .ok (.aload_n 0, 1) := by decide +kernel
theorem dX9_sheet_30 : decode cX9_sheet 30 = .ok (.iconst 1, 1) := by decide +kernel
theorem dX9_sheet_31 : decode cX9_sheet 31 = .ok (.invokevirtual 59, 3) := by decide +kernel
theorem dX9_sheet_34 : decode cX9_sheet 34 = .ok (.ireturn, 1) := by decide +kernel
theorem dX9_sheet_35 : decode cX9_sheet 35 = .ok (.iload_n 2, 1) := by decide +kernel
theorem dX9_sheet_36 : decode cX9_sheet 36 = .ok (.ifCond .ne 16, 3) := by decide +kernel
theorem dX9_sheet_39 : decode cX9_sheet 39 = .ok (.aload_n 0, 1) := by decide +kernel
theorem dX9_sheet_40 : decode cX9_sheet 40 = .ok (.getfield 42, 3) := by decide +kernel
theorem dX9_sheet_43 : decode cX9_sheet 43 = .ok (.iload_n 1, 1) := by decide +kernel
theorem dX9_sheet_44 : decode cX9_sheet 44 = .ok (.aaload, 1) := by decide +kernel
theorem dX9_sheet_45 : decode cX9_sheet 45 = .ok (.iconst 0, 1) := by decide +kernel
theorem dX9_sheet_46 : decode cX9_sheet 46 = .ok (.iconst 0, 1) := by decide +kernel
theorem dX9_sheet_47 : decode cX9_sheet 47 = .ok (.invokevirtual 257, 3) := by decide +kernel
theorem dX9_sheet_50 : decode cX9_sheet 50 = .ok (.iconst 1, 1) := by decide +kernel
theorem dX9_sheet_51 : decode cX9_sheet 51 = .ok (.ireturn, 1) := by decide +kernel
theorem dX9_sheet_52 : decode cX9_sheet 52 = .ok (.iload_n 3, 1) := by decide +kernel
theorem dX9_sheet_53 : decode cX9_sheet 53 = .ok (.ifCond .ge 9, 3) := by decide +kernel
theorem dX9_sheet_56 : decode cX9_sheet 56 = .ok (.aload_n 0, 1) := by decide +kernel
theorem dX9_sheet_57 : decode cX9_sheet 57 = .ok (.iconst 3, 1) := by decide +kernel
theorem dX9_sheet_58 : decode cX9_sheet 58 = .ok (.invokevirtual 59, 3) := by decide +kernel
theorem dX9_sheet_61 : decode cX9_sheet 61 = .ok (.ireturn, 1) := by decide +kernel
theorem dX9_sheet_62 : decode cX9_sheet 62 = .ok (.iload_n 3, 1) := by decide +kernel
theorem dX9_sheet_63 : decode cX9_sheet 63 = .ok (.bipush 40, 2) := by decide +kernel
theorem dX9_sheet_65 : decode cX9_sheet 65 = .ok (.if_icmp .le 9, 3) := by decide +kernel
theorem dX9_sheet_68 : decode cX9_sheet 68 = .ok (.aload_n 0, 1) := by decide +kernel
theorem dX9_sheet_69 : decode cX9_sheet 69 = .ok (.iconst 1, 1) := by decide +kernel
theorem dX9_sheet_70 : decode cX9_sheet 70 = .ok (.invokevirtual 59, 3) := by decide +kernel
theorem dX9_sheet_73 : decode cX9_sheet 73 = .ok (.ireturn, 1) := by decide +kernel
theorem dX9_sheet_74 : decode cX9_sheet 74 = .ok (.aload_n 0, 1) := by decide +kernel
theorem dX9_sheet_75 : decode cX9_sheet 75 = .ok (.getfield 42, 3) := by decide +kernel
theorem dX9_sheet_78 : decode cX9_sheet 78 = .ok (.iload_n 1, 1) := by decide +kernel
theorem dX9_sheet_79 : decode cX9_sheet 79 = .ok (.aaload, 1) := by decide +kernel
theorem dX9_sheet_80 : decode cX9_sheet 80 = .ok (.iload_n 2, 1) := by decide +kernel
theorem dX9_sheet_81 : decode cX9_sheet 81 = .ok (.iload_n 3, 1) := by decide +kernel
theorem dX9_sheet_82 : decode cX9_sheet 82 = .ok (.invokevirtual 257, 3) := by decide +kernel
theorem dX9_sheet_85 : decode cX9_sheet 85 = .ok (.iconst 1, 1) := by decide +kernel
theorem dX9_sheet_86 : decode cX9_sheet 86 = .ok (.ireturn, 1) := by decide +kernel
theorem dX9_put_0 : decode cX9_put 0 = .ok (.iload_n 1, 1) := by decide +kernel
theorem dX9_put_1 : decode cX9_put 1 = .ok (.invokestatic 221, 3) := by decide +kernel
theorem dX9_put_4 : decode cX9_put 4 = .ok (.ifCond .ne 9, 3) := by decide +kernel
theorem dX9_put_7 : decode cX9_put 7 = .ok (.aload_n 0, 1) := by decide +kernel
theorem dX9_put_8 : decode cX9_put 8 = .ok (.iconst 1, 1) := by decide +kernel
theorem dX9_put_9 : decode cX9_put 9 = .ok (.invokevirtual 59, 3) := by decide +kernel
theorem dX9_put_12 : decode cX9_put 12 = .ok (.ireturn, 1) := by decide +kernel
theorem dX9_put_13 : decode cX9_put 13 = .ok (.aload_n 0, 1) := by decide +kernel
theorem dX9_put_14 : decode cX9_put 14 = .ok (.getfield 42, 3) := by decide +kernel
theorem dX9_put_17 : decode cX9_put 17 = .ok (.iload_n 1, 1) := by decide +kernel
theorem dX9_put_18 : decode cX9_put 18 = .ok (.aaload, 1) := by decide +kernel
theorem dX9_put_19 : decode cX9_put 19 = .ok (.astore 4, 2) := by decide +kernel
theorem dX9_put_21 : decode cX9_put 21 = .ok (.aload 4, 2) := by decide +kernel
theorem dX9_put_23 : decode cX9_put 23 = .ok (.invokevirtual 224, 3) := by decide +kernel
theorem dX9_put_26 : decode cX9_put 26 = .ok (.ifCond .eq 9, 3) := by decide +kernel
theorem dX9_put_29 : decode cX9_put 29 = .ok (.aload_n 0, 1) := by decide +kernel
theorem dX9_put_30 : decode cX9_put 30 = .ok (.iconst 2, 1) := by decide +kernel
theorem dX9_put_31 : decode cX9_put 31 = .ok (.invokevirtual 59, 3) := by decide +kernel
theorem dX9_put_34 : decode cX9_put 34 = .ok (.ireturn, 1) := by decide +kernel
theorem dX9_put_35 : decode cX9_put 35 = .ok (.aload 4, 2) := by decide +kernel
theorem dX9_put_37 : decode cX9_put 37 = .ok (.getfield 228, 3) := by decide +kernel
theorem dX9_put_40 : decode cX9_put 40 = .ok (.iload_n 2, 1) := by decide +kernel
theorem dX9_put_41 : decode cX9_put 41 = .ok (.invokevirtual 254, 3) := by decide +kernel
theorem dX9_put_44 : decode cX9_put 44 = .ok (.ifCond .ne 9, 3) := by decide +kernel
theorem dX9_put_47 : decode cX9_put 47 = .ok (.aload_n 0, 1) := by decide +kernel
theorem dX9_put_48 : decode cX9_put 48 = .ok (.iconst 1, 1) := by decide +kernel
theorem dX9_put_49 : decode cX9_put 49 = .ok (.invokevirtual 59, 3) := by decide +kernel
theorem dX9_put_52 : decode cX9_put 52 = .ok (.ireturn, 1) := by decide +kernel
theorem dX9_put_53 : decode cX9_put 53 = .ok (.aload 4, 2) := by decide +kernel
theorem dX9_put_55 : decode cX9_put 55 = .ok (.getfield 228, 3) := by decide +kernel
theorem dX9_put_58 : decode cX9_put 58 = .ok (.iload_n 2, 1) := by decide +kernel
theorem dX9_put_59 : decode cX9_put 59 = .ok (.aload 4, 2) := by decide +kernel
theorem dX9_put_61 : decode cX9_put 61 = .ok (.iload_n 3, 1) := by decide +kernel
theorem dX9_put_62 : decode cX9_put 62 = .ok (.invokevirtual 261, 3) := by decide +kernel
theorem dX9_put_65 : decode cX9_put 65 = .ok (.invokevirtual 264, 3) := by decide +kernel
theorem dX9_put_68 : decode cX9_put 68 = .ok (.iconst 1, 1) := by decide +kernel
theorem dX9_put_69 : decode cX9_put 69 = .ok (.ireturn, 1) := by decide +kernel
theorem dX9_move_0 : decode cX9_move 0 = .ok (.iload_n 1, 1) := by decide +kernel
theorem dX9_move_1 : decode cX9_move 1 = .ok (.invokestatic 221, 3) := by decide +kernel
theorem dX9_move_4 : decode cX9_move 4 = .ok (.ifCond .eq 10, 3) := by decide +kernel
theorem dX9_move_7 : decode cX9_move 7 = .ok (.iload_n 3, 1) := by decide +kernel
theorem dX9_move_8 : decode cX9_move 8 = .ok (.invokestatic 221, 3) := by decide +kernel
theorem dX9_move_11 : decode cX9_move 11 = .ok (.ifCond .ne 9, 3) := by decide +kernel
theorem dX9_move_14 : decode cX9_move 14 = .ok (.aload_n 0, 1) := by decide +kernel
theorem dX9_move_15 : decode cX9_move 15 = .ok (.iconst 1, 1) := by decide +kernel
theorem dX9_move_16 : decode cX9_move 16 = .ok (.invokevirtual 59, 3) := by decide +kernel
theorem dX9_move_19 : decode cX9_move 19 = .ok (.ireturn, 1) := by decide +kernel
theorem dX9_move_20 : decode cX9_move 20 = .ok (.aload_n 0, 1) := by decide +kernel
theorem dX9_move_21 : decode cX9_move 21 = .ok (.getfield 42, 3) := by decide +kernel
theorem dX9_move_24 : decode cX9_move 24 = .ok (.iload_n 1, 1) := by decide +kernel
theorem dX9_move_25 : decode cX9_move 25 = .ok (.aaload, 1) := by decide +kernel
theorem dX9_move_26 : decode cX9_move 26 = .ok (.astore 6, 2) := by decide +kernel
theorem dX9_move_28 : decode cX9_move 28 = .ok (.aload_n 0, 1) := by decide +kernel
theorem dX9_move_29 : decode cX9_move 29 = .ok (.getfield 42, 3) := by decide +kernel
theorem dX9_move_32 : decode cX9_move 32 = .ok (.iload_n 3, 1) := by decide +kernel
theorem dX9_move_33 : decode cX9_move 33 = .ok (.aaload, 1) := by decide +kernel
theorem dX9_move_34 : decode cX9_move 34 = .ok (.astore 7, 2) := by decide +kernel
theorem dX9_move_36 : decode cX9_move 36 = .ok (.aload 6, 2) := by decide +kernel
theorem dX9_move_38 : decode cX9_move 38 = .ok (.invokevirtual 224, 3) := by decide +kernel
theorem dX9_move_41 : decode cX9_move 41 = .ok (.ifCond .ne 11, 3) := by decide +kernel
theorem dX9_move_44 : decode cX9_move 44 = .ok (.aload 7, 2) := by decide +kernel
theorem dX9_move_46 : decode cX9_move 46 = .ok (.invokevirtual 224, 3) := by decide +kernel
theorem dX9_move_49 : decode cX9_move 49 = .ok (.ifCond .eq 9, 3) := by decide +kernel
theorem dX9_move_52 : decode cX9_move 52 = .ok (.aload_n 0, 1) := by decide +kernel
theorem dX9_move_53 : decode cX9_move 53 = .ok (.iconst 2, 1) := by decide +kernel
theorem dX9_move_54 : decode cX9_move 54 = .ok (.invokevirtual 59, 3) := by decide +kernel
theorem dX9_move_57 : decode cX9_move 57 = .ok (.ireturn, 1) := by decide +kernel
theorem dX9_move_58 : decode cX9_move 58 = .ok (.aload 6, 2) := by decide +kernel
theorem dX9_move_60 : decode cX9_move 60 = .ok (.getfield 267, 3) := by decide +kernel
theorem dX9_move_63 : decode cX9_move 63 = .ok (.aload 7, 2) := by decide +kernel
theorem dX9_move_65 : decode cX9_move 65 = .ok (.getfield 267, 3) := by decide +kernel
theorem dX9_move_68 : decode cX9_move 68 = .ok (.if_icmp .eq 9, 3) := by decide +kernel
theorem dX9_move_71 : decode cX9_move 71 = .ok (.aload_n 0, 1) := by decide +kernel
theorem dX9_move_72 : decode cX9_move 72 = .ok (.iconst 5, 1) := by decide +kernel
theorem dX9_move_73 : decode cX9_move 73 = .ok (.invokevirtual 59, 3) := by decide +kernel
theorem dX9_move_76 : decode cX9_move 76 = .ok (.ireturn, 1) := by decide +kernel
theorem dX9_move_77 : decode cX9_move 77 = .ok (.aload 6, 2) := by decide +kernel
theorem dX9_move_79 : decode cX9_move 79 = .ok (.getfield 228, 3) := by decide +kernel
theorem dX9_move_82 : decode cX9_move 82 = .ok (.iload_n 2, 1) := by decide +kernel
theorem dX9_move_83 : decode cX9_move 83 = .ok (.iload 5, 2) := by decide +kernel
theorem dX9_move_85 : decode cX9_move 85 = .ok (.invokevirtual 270, 3) := by decide +kernel
theorem dX9_move_88 : decode cX9_move 88 = .ok (.ifCond .eq 18, 3) := by decide +kernel
theorem dX9_move_91 : decode cX9_move 91 = .ok (.aload 7, 2) := by decide +kernel
theorem dX9_move_93 : decode cX9_move 93 = .ok (.getfield 228, 3) := by decide +kernel
theorem dX9_move_96 : decode cX9_move 96 = .ok (.iload 4, 2) := by decide +kernel
theorem dX9_move_98 : decode cX9_move 98 = .ok (.iload 5, 2) := by decide +kernel
theorem dX9_move_100 : decode cX9_move 100 = .ok (.invokevirtual 270, 3) := by decide +kernel
theorem dX9_move_103 : decode cX9_move 103 = .ok (.ifCond .ne 9, 3) := by decide +kernel
theorem dX9_move_106 : decode cX9_move 106 = .ok (.aload_n 0, 1) := by decide +kernel
theorem dX9_move_107 : decode cX9_move 107 = .ok (.iconst 1, 1) := by decide +kernel
theorem dX9_move_108 : decode cX9_move 108 = .ok (.invokevirtual 59, 3) := by decide +kernel
theorem dX9_move_111 : decode cX9_move 111 = .ok (.ireturn, 1) := by decide +kernel
theorem dX9_move_112 : decode cX9_move 112 = .ok (.aload 7, 2) := by decide +kernel
theorem dX9_move_114 : decode cX9_move 114 = .ok (.getfield 228, 3) := by decide +kernel
theorem dX9_move_117 : decode cX9_move 117 = .ok (.iload 4, 2) := by decide +kernel
theorem dX9_move_119 : decode cX9_move 119 = .ok (.aload 6, 2) := by decide +kernel
theorem dX9_move_121 : decode cX9_move 121 = .ok (.getfield 228, 3) := by decide +kernel
theorem dX9_move_124 : decode cX9_move 124 = .ok (.iload_n 2, 1) := by decide +kernel
theorem dX9_move_125 : decode cX9_move 125 = .ok (.iload 5, 2) := by decide +kernel
theorem dX9_move_127 : decode cX9_move 127 = .ok (.invokevirtual 273, 3) := by decide +kernel
theorem dX9_move_130 : decode cX9_move 130 = .ok (.iload 5, 2) := by decide +kernel
theorem dX9_move_132 : decode cX9_move 132 = .ok (.ireturn, 1) := by decide +kernel
theorem dX9_snows_0 : decode cX9_snows 0 = .ok (.iload_n 1, 1) := by decide +kernel
theorem dX9_snows_1 : decode cX9_snows 1 = .ok (.invokestatic 221, 3) := by decide +kernel
theorem dX9_snows_4 : decode cX9_snows 4 = .ok (.ifCond .ne 9, 3) := by decide +kernel
theorem dX9_snows_7 : decode cX9_snows 7 = .ok (.aload_n 0, 1) := by decide +kernel
theorem dX9_snows_8 : decode cX9_snows 8 = .ok (.iconst 1, 1) := by decide +kernel
theorem dX9_snows_9 : decode cX9_snows 9 = .ok (.invokevirtual 59, 3) := by decide +kernel
theorem dX9_snows_12 : decode cX9_snows 12 = .ok (.ireturn, 1) := by decide +kernel
theorem dX9_snows_13 : decode cX9_snows 13 = .ok (.aload_n 0, 1) := by decide +kernel
theorem dX9_snows_14 : decode cX9_snows 14 = .ok (.getfield 42, 3) := by decide +kernel
theorem dX9_snows_17 : decode cX9_snows 17 = .ok (.iload_n 1, 1) := by decide +kernel
theorem dX9_snows_18 : decode cX9_snows 18 = .ok (.aaload, 1) := by decide +kernel
theorem dX9_snows_19 : decode cX9_snows 19 = .ok (.astore_n 2, 1) := by decide +kernel
theorem dX9_snows_20 : decode cX9_snows 20 = .ok (.aload_n 2, 1) := by decide +kernel
theorem dX9_snows_21 : decode cX9_snows 21 = .ok (.invokevirtual 224, 3) := by decide +kernel
theorem dX9_snows_24 : decode cX9_snows 24 = .ok (.ifCond .eq 9, 3) := by decide +kernel
theorem dX9_snows_27 : decode cX9_snows 27 = .ok (.aload_n 0, 1) := by decide +kernel
theorem dX9_snows_28 : decode cX9_snows 28 = .ok (.iconst 2, 1) := by decide +kernel
theorem dX9_snows_29 : decode cX9_snows 29 = .ok (.invokevirtual 59, 3) := by decide +kernel
theorem dX9_snows_32 : decode cX9_snows 32 = .ok (.ireturn, 1) := by decide +kernel
theorem dX9_snows_33 : decode cX9_snows 33 = .ok (.iconst 0, 1) := by decide +kernel
theorem dX9_snows_34 : decode cX9_snows 34 = .ok (.istore_n 3, 1) := by decide +kernel
theorem dX9_snows_35 : decode cX9_snows 35 = .ok (.iload_n 3, 1) := by decide +kernel
theorem dX9_snows_36 : decode cX9_snows 36 = .ok (.bipush 10, 2) := by decide +kernel
theorem dX9_snows_38 : decode cX9_snows 38 = .ok (.if_icmp .ge 57, 3) := by decide +kernel
theorem dX9_snows_41 : decode cX9_snows 41 = .ok (.iload_n 3, 1) := by decide +kernel
theorem dX9_snows_42 : decode cX9_snows 42 = .ok (.aload_n 2, 1) := by decide +kernel
theorem dX9_snows_43 : decode cX9_snows 43 = .ok (.getfield 228, 3) := by decide +kernel
theorem dX9_snows_46 : decode cX9_snows 46 = .ok (.getfield 153, 3) := by decide +kernel
theorem dX9_snows_49 : decode cX9_snows 49 = .ok (.if_icmp .ge 46, 3) := by decide +kernel
theorem dX9_snows_52 : decode cX9_snows 52 = .ok (.aload_n 2, 1) := by decide +kernel
theorem dX9_snows_53 : decode cX9_snows 53 = .ok (.getfield 228, 3) := by decide +kernel
theorem dX9_snows_56 : decode cX9_snows 56 = .ok (.iload_n 3, 1) := by decide +kernel
theorem dX9_snows_57 : decode cX9_snows 57 = .ok (.invokevirtual 238, 3) := by decide +kernel
theorem dX9_snows_60 : decode cX9_snows 60 = .ok (.sipush 999, 3) := by decide +kernel
theorem dX9_snows_63 : decode cX9_snows 63 = .ok (.invokestatic 55, 3) := by decide +kernel
theorem dX9_snows_66 : decode cX9_snows 66 = .ok (.ifCond .eq 29, 3) := by decide +kernel
theorem dX9_snows_69 : decode cX9_snows 69 = .ok (.aload_n 0, 1) := by decide +kernel
theorem dX9_snows_70 : decode cX9_snows 70 = .ok (.getfield 10, 3) := by decide +kernel
theorem dX9_snows_73 : decode cX9_snows 73 = .ok (.getfield 63, 3) := by decide +kernel
theorem dX9_snows_76 : decode cX9_snows 76 = .ok (.getfield 66, 3) := by decide +kernel
theorem dX9_snows_79 : decode cX9_snows 79 = .ok (.iload_n 3, 1) := by decide +kernel
theorem dX9_snows_80 : decode cX9_snows 80 = .ok (.aload_n 2, 1) := by decide +kernel
theorem dX9_snows_81 : decode cX9_snows 81 = .ok (.getfield 228, 3) := by decide +kernel
theorem dX9_snows_84 : decode cX9_snows 84 = .ok (.iload_n 3, 1) := by decide +kernel
theorem dX9_snows_85 : decode cX9_snows 85 = .ok (.invokevirtual 238, 3) := by decide +kernel
theorem dX9_snows_88 : decode cX9_snows 88 = .ok (.iastore, 1) := by decide +kernel
theorem dX9_snows_89 : decode cX9_snows 89 = .ok (.iinc 3 1, 3) := by decide +kernel
theorem dX9_snows_92 : decode cX9_snows 92 = .ok (.goto (-57), 3) := by decide +kernel
theorem dX9_snows_95 : decode cX9_snows 95 = .ok (.iload_n 3, 1) := by decide +kernel
theorem dX9_snows_96 : decode cX9_snows 96 = .ok (.ireturn, 1) := by decide +kernel
theorem dX9_judge_0 : decode cX9_judge 0 = .ok (.iload_n 1, 1) := by decide +kernel
theorem dX9_judge_1 : decode cX9_judge 1 = .ok (.invokestatic 221, 3) := by decide +kernel
theorem dX9_judge_4 : decode cX9_judge 4 = .ok (.ifCond .ne 9, 3) := by decide +kernel
theorem dX9_judge_7 : decode cX9_judge 7 = .ok (.aload_n 0, 1) := by decide +kernel
theorem dX9_judge_8 : decode cX9_judge 8 = .ok (.iconst 1, 1) := by decide +kernel
theorem dX9_judge_9 : decode cX9_judge 9 = .ok (.invokevirtual 59, 3) := by decide +kernel
theorem dX9_judge_12 : decode cX9_judge 12 = .ok (.ireturn, 1) := by decide +kernel
theorem dX9_judge_13 : decode cX9_judge 13 = .ok (.aload_n 0, 1) := by decide +kernel
theorem dX9_judge_14 : decode cX9_judge 14 = .ok (.getfield 42, 3) := by decide +kernel
theorem dX9_judge_17 : decode cX9_judge 17 = .ok (.iload_n 1, 1) := by decide +kernel
theorem dX9_judge_18 : decode cX9_judge 18 = .ok (.aaload, 1) := by decide +kernel
theorem dX9_judge_19 : decode cX9_judge 19 = .ok (.getfield 228, 3) := by decide +kernel
theorem dX9_judge_22 : decode cX9_judge 22 = .ok (.astore_n 2, 1) := by decide +kernel
theorem dX9_judge_23 : decode cX9_judge 23 = .ok (.aload_n 0, 1) := by decide +kernel
theorem dX9_judge_24 : decode cX9_judge 24 = .ok (.getfield 42, 3) := by decide +kernel
theorem dX9_judge_27 : decode cX9_judge 27 = .ok (.iload_n 1, 1) := by decide +kernel
theorem dX9_judge_28 : decode cX9_judge 28 = .ok (.aaload, 1) := by decide +kernel
theorem dX9_judge_29 : decode cX9_judge 29 = .ok (.invokevirtual 224, 3) := by decide +kernel
theorem dX9_judge_32 : decode cX9_judge 32 = .ok (.ifCond .eq 9, 3) := by decide +kernel
theorem dX9_judge_35 : decode cX9_judge 35 = .ok (.aload_n 0, 1) := by decide +kernel
theorem dX9_judge_36 : decode cX9_judge 36 = .ok (.iconst 2, 1) := by decide +kernel
theorem dX9_judge_37 : decode cX9_judge 37 = .ok (.invokevirtual 59, 3) := by decide +kernel
theorem dX9_judge_40 : decode cX9_judge 40 = .ok (.ireturn, 1) := by decide +kernel
theorem dX9_judge_41 : decode cX9_judge 41 = .ok (.aload_n 2, 1) := by decide +kernel
theorem dX9_judge_42 : decode cX9_judge 42 = .ok (.getfield 153, 3) := by decide +kernel
theorem dX9_judge_45 : decode cX9_judge 45 = .ok (.aload_n 0, 1) := by decide +kernel
theorem dX9_judge_46 : decode cX9_judge 46 = .ok (.getfield 10, 3) := by decide +kernel
theorem dX9_judge_49 : decode cX9_judge 49 = .ok (.getfield 63, 3) := by decide +kernel
theorem dX9_judge_52 : decode cX9_judge 52 = .ok (.getfield 103, 3) := by decide +kernel
theorem dX9_judge_55 : decode cX9_judge 55 = .ok (.invokestatic 277, 3) := by decide +kernel
theorem dX9_judge_58 : decode cX9_judge 58 = .ok (.istore_n 3, 1) := by decide +kernel
theorem dX9_judge_59 : decode cX9_judge 59 = .ok (.iconst 0, 1) := by decide +kernel
theorem dX9_judge_60 : decode cX9_judge 60 = .ok (.istore 4, 2) := by decide +kernel
theorem dX9_judge_62 : decode cX9_judge 62 = .ok (.iload 4, 2) := by decide +kernel
theorem dX9_judge_64 : decode cX9_judge 64 = .ok (.iload_n 3, 1) := by decide +kernel
theorem dX9_judge_65 : decode cX9_judge 65 = .ok (.if_icmp .ge 37, 3) := by decide +kernel
theorem dX9_judge_68 : decode cX9_judge 68 = .ok (.aload_n 2, 1) := by decide +kernel
theorem dX9_judge_69 : decode cX9_judge 69 = .ok (.iload 4, 2) := by decide +kernel
theorem dX9_judge_71 : decode cX9_judge 71 = .ok (.invokevirtual 238, 3) := by decide +kernel
theorem dX9_judge_74 : decode cX9_judge 74 = .ok (.aload_n 0, 1) := by decide +kernel
theorem dX9_judge_75 : decode cX9_judge 75 = .ok (.getfield 10, 3) := by decide +kernel
theorem dX9_judge_78 : decode cX9_judge 78 = .ok (.getfield 63, 3) := by decide +kernel
theorem dX9_judge_81 : decode cX9_judge 81 = .ok (.getfield 106, 3) := by decide +kernel
theorem dX9_judge_84 : decode cX9_judge 84 = .ok (.iload 4, 2) := by decide +kernel
theorem dX9_judge_86 : decode cX9_judge 86 = .ok (.aaload, 1) := by decide +kernel
theorem dX9_judge_87 : decode cX9_judge 87 = .ok (.getfield 121, 3) := by decide +kernel
theorem dX9_judge_90 : decode cX9_judge 90 = .ok (.if_icmp .eq 6, 3) := by decide +kernel
theorem dX9_judge_93 : decode cX9_judge 93 = .ok (.iload 4, 2) := by decide +kernel
theorem dX9_judge_95 : decode cX9_judge 95 = .ok (.ireturn, 1) := by decide +kernel
theorem dX9_judge_96 : decode cX9_judge 96 = .ok (.iinc 4 1, 3) := by decide +kernel
theorem dX9_judge_99 : decode cX9_judge 99 = .ok (.goto (-37), 3) := by decide +kernel
theorem dX9_judge_102 : decode cX9_judge 102 = .ok (.aload_n 2, 1) := by decide +kernel
theorem dX9_judge_103 : decode cX9_judge 103 = .ok (.getfield 153, 3) := by decide +kernel
theorem dX9_judge_106 : decode cX9_judge 106 = .ok (.aload_n 0, 1) := by decide +kernel
theorem dX9_judge_107 : decode cX9_judge 107 = .ok (.getfield 10, 3) := by decide +kernel
theorem dX9_judge_110 : decode cX9_judge 110 = .ok (.getfield 63, 3) := by decide +kernel
theorem dX9_judge_113 : decode cX9_judge 113 = .ok (.getfield 103, 3) := by decide +kernel
theorem dX9_judge_116 : decode cX9_judge 116 = .ok (.if_icmp .ne 7, 3) := by decide +kernel
theorem dX9_judge_119 : decode cX9_judge 119 = .ok (.iconst (-1), 1) := by decide +kernel
theorem dX9_judge_120 : decode cX9_judge 120 = .ok (.goto 4, 3) := by decide +kernel
theorem dX9_judge_123 : decode cX9_judge 123 = .ok (.iload_n 3, 1) := by decide +kernel
theorem dX9_judge_124 : decode cX9_judge 124 = .ok (.ireturn, 1) := by decide +kernel
theorem dX9_image_0 : decode cX9_image 0 = .ok (.aload_n 0, 1) := by decide +kernel
theorem dX9_image_1 : decode cX9_image 1 = .ok (.getfield 16, 3) := by decide +kernel
theorem dX9_image_4 : decode cX9_image 4 = .ok (.aload_n 0, 1) := by decide +kernel
theorem dX9_image_5 : decode cX9_image 5 = .ok (.getfield 10, 3) := by decide +kernel
theorem dX9_image_8 : decode cX9_image 8 = .ok (.invokevirtual 282, 3) := by decide +kernel
theorem dX9_image_11 : decode cX9_image 11 = .ok (.aload_n 0, 1) := by decide +kernel
theorem dX9_image_12 : decode cX9_image 12 = .ok (.dup, 1) := by decide +kernel
theorem dX9_image_13 : decode cX9_image 13 = .ok (.getfield 285, 3) := by decide +kernel
theorem dX9_image_16 : decode cX9_image 16 = .ok (.iconst 1, 1) := by decide +kernel
theorem dX9_image_17 : decode cX9_image 17 = .ok (.iadd, 1) := by decide +kernel
theorem dX9_image_18 : decode cX9_image 18 = .ok (.putfield 285, 3) := by decide +kernel
theorem dX9_image_21 : decode cX9_image 21 = .ok (.aload_n 0, 1) := by decide +kernel
theorem dX9_image_22 : decode cX9_image 22 = .ok (.getfield 285, 3) := by decide +kernel
theorem dX9_image_25 : decode cX9_image 25 = .ok (.ireturn, 1) := by decide +kernel
theorem dX9_restore_0 : decode cX9_restore 0 = .ok (.aload_n 0, 1) := by decide +kernel
theorem dX9_restore_1 : decode cX9_restore 1 = .ok (.getfield 285, 3) := by decide +kernel
theorem dX9_restore_4 : decode cX9_restore 4 = .ok (.ifCond .ne 9, 3) := by decide +kernel
theorem dX9_restore_7 : decode cX9_restore 7 = .ok (.aload_n 0, 1) := by decide +kernel
theorem dX9_restore_8 : decode cX9_restore 8 = .ok (.iconst 2, 1) := by decide +kernel
theorem dX9_restore_9 : decode cX9_restore 9 = .ok (.invokevirtual 59, 3) := by decide +kernel
theorem dX9_restore_12 : decode cX9_restore 12 = .ok (.ireturn, 1) := by decide +kernel
theorem dX9_restore_13 : decode cX9_restore 13 = .ok (.aload_n 0, 1) := by decide +kernel
theorem dX9_restore_14 : decode cX9_restore 14 = .ok (.getfield 10, 3) := by decide +kernel
theorem dX9_restore_17 : decode cX9_restore 17 = .ok (.aload_n 0, 1) := by decide +kernel
theorem dX9_restore_18 : decode cX9_restore 18 = .ok (.getfield 16, 3) := by decide +kernel
theorem dX9_restore_21 : decode cX9_restore 21 = .ok (.invokevirtual 282, 3) := by decide +kernel
theorem dX9_restore_24 : decode cX9_restore 24 = .ok (.aload_n 0, 1) := by decide +kernel
theorem dX9_restore_25 : decode cX9_restore 25 = .ok (.getfield 10, 3) := by decide +kernel
theorem dX9_restore_28 : decode cX9_restore 28 = .ok (.getfield 63, 3) := by decide +kernel
theorem dX9_restore_31 : decode cX9_restore 31 = .ok (.getfield 134, 3) := by decide +kernel
theorem dX9_restore_34 : decode cX9_restore 34 = .ok (.ireturn, 1) := by decide +kernel
theorem dX9_tell_0 : decode cX9_tell 0 = .ok (.aload_n 0, 1) := by decide +kernel
theorem dX9_tell_1 : decode cX9_tell 1 = .ok (.getfield 10, 3) := by decide +kernel
theorem dX9_tell_4 : decode cX9_tell 4 = .ok (.getfield 288, 3) := by decide +kernel
theorem dX9_tell_7 : decode cX9_tell 7 = .ok (.iload_n 1, 1) := by decide +kernel
theorem dX9_tell_8 : decode cX9_tell 8 = .ok (.invokevirtual 158, 3) := by decide +kernel
theorem dX9_tell_11 : decode cX9_tell 11 = .ok (.ifCond .eq 16, 3) := by decide +kernel
theorem dX9_tell_14 : decode cX9_tell 14 = .ok (.aload_n 0, 1) := by decide +kernel
theorem dX9_tell_15 : decode cX9_tell 15 = .ok (.getfield 10, 3) := by decide +kernel
theorem dX9_tell_18 : decode cX9_tell 18 = .ok (.getfield 288, 3) := by decide +kernel
theorem dX9_tell_21 : decode cX9_tell 21 = .ok (.getfield 153, 3) := by decide +kernel
theorem dX9_tell_24 : decode cX9_tell 24 = .ok (.goto 8, 3) := by decide +kernel
theorem dX9_tell_27 : decode cX9_tell 27 = .ok (.aload_n 0, 1) := by decide +kernel
theorem dX9_tell_28 : decode cX9_tell 28 = .ok (.iconst 4, 1) := by decide +kernel
theorem dX9_tell_29 : decode cX9_tell 29 = .ok (.invokevirtual 59, 3) := by decide +kernel
theorem dX9_tell_32 : decode cX9_tell 32 = .ok (.ireturn, 1) := by decide +kernel
theorem dX9_check_0 : decode cX9_check 0 = .ok (.aload_n 0, 1) := by decide +kernel
theorem dX9_check_1 : decode cX9_check 1 = .ok (.invokevirtual 200, 3) := by decide +kernel
theorem dX9_check_4 : decode cX9_check 4 = .ok (.iconst 0, 1) := by decide +kernel
theorem dX9_check_5 : decode cX9_check 5 = .ok (.istore_n 1, 1) := by decide +kernel
theorem dX9_check_6 : decode cX9_check 6 = .ok (.iconst 0, 1) := by decide +kernel
theorem dX9_check_7 : decode cX9_check 7 = .ok (.istore_n 2, 1) := by decide +kernel
theorem dX9_check_8 : decode cX9_check 8 = .ok (.iload_n 2, 1) := by decide +kernel
theorem dX9_check_9 : decode cX9_check 9 = .ok (.aload_n 0, 1) := by decide +kernel
theorem dX9_check_10 : decode cX9_check 10 = .ok (.getfield 10, 3) := by decide +kernel
theorem dX9_check_13 : decode cX9_check 13 = .ok (.getfield 288, 3) := by decide +kernel
theorem dX9_check_16 : decode cX9_check 16 = .ok (.getfield 153, 3) := by decide +kernel
theorem dX9_check_19 : decode cX9_check 19 = .ok (.if_icmp .ge 49, 3) := by decide +kernel
theorem dX9_check_22 : decode cX9_check 22 = .ok (.iload_n 1, 1) := by decide +kernel
theorem dX9_check_23 : decode cX9_check 23 = .ok (.ifCond .ne 45, 3) := by decide +kernel
theorem dX9_check_26 : decode cX9_check 26 = .ok (.aload_n 0, 1) := by decide +kernel
theorem dX9_check_27 : decode cX9_check 27 = .ok (.getfield 22, 3) := by decide +kernel
theorem dX9_check_30 : decode cX9_check 30 = .ok (.iconst 1, 1) := by decide +kernel
theorem dX9_check_31 : decode cX9_check 31 = .ok (.invokevirtual 189, 3) := by decide +kernel
theorem dX9_check_34 : decode cX9_check 34 = .ok (.aload_n 0, 1) := by decide +kernel
theorem dX9_check_35 : decode cX9_check 35 = .ok (.getfield 10, 3) := by decide +kernel
theorem dX9_check_38 : decode cX9_check 38 = .ok (.getfield 288, 3) := by decide +kernel
theorem dX9_check_41 : decode cX9_check 41 = .ok (.iload_n 2, 1) := by decide +kernel
theorem dX9_check_42 : decode cX9_check 42 = .ok (.invokevirtual 238, 3) := by decide +kernel
theorem dX9_check_45 : decode cX9_check 45 = .ok (.aload_n 0, 1) := by decide +kernel
theorem dX9_check_46 : decode cX9_check 46 = .ok (.getfield 22, 3) := by decide +kernel
theorem dX9_check_49 : decode cX9_check 49 = .ok (.invokevirtual 193, 3) := by decide +kernel
theorem dX9_check_52 : decode cX9_check 52 = .ok (.invokestatic 210, 3) := by decide +kernel
theorem dX9_check_55 : decode cX9_check 55 = .ok (.if_icmp .eq 7, 3) := by decide +kernel
theorem dX9_check_58 : decode cX9_check 58 = .ok (.iconst 1, 1) := by decide +kernel
theorem dX9_check_59 : decode cX9_check 59 = .ok (.iload_n 2, 1) := by decide +kernel
theorem dX9_check_60 : decode cX9_check 60 = .ok (.iadd, 1) := by decide +kernel
theorem dX9_check_61 : decode cX9_check 61 = .ok (.istore_n 1, 1) := by decide +kernel
theorem dX9_check_62 : decode cX9_check 62 = .ok (.iinc 2 1, 3) := by decide +kernel
theorem dX9_check_65 : decode cX9_check 65 = .ok (.goto (-57), 3) := by decide +kernel
theorem dX9_check_68 : decode cX9_check 68 = .ok (.aload_n 0, 1) := by decide +kernel
theorem dX9_check_69 : decode cX9_check 69 = .ok (.getfield 10, 3) := by decide +kernel
theorem dX9_check_72 : decode cX9_check 72 = .ok (.getfield 288, 3) := by decide +kernel
theorem dX9_check_75 : decode cX9_check 75 = .ok (.invokevirtual 165, 3) := by decide +kernel
theorem dX9_check_78 : decode cX9_check 78 = .ok (.iload_n 1, 1) := by decide +kernel
theorem dX9_check_79 : decode cX9_check 79 = .ok (.ireturn, 1) := by decide +kernel
theorem dX9_count_0 : decode cX9_count 0 = .ok (.iload_n 1, 1) := by decide +kernel
theorem dX9_count_1 : decode cX9_count 1 = .ok (.tableswitch 162 0 9 #[55, 66, 77, 88, 99, 110, 121, 132, 143, 154], 55) := by decide +kernel
theorem dX9_count_56 : decode cX9_count 56 = .ok (.aload_n 0, 1) := by decide +kernel
theorem dX9_count_57 : decode cX9_count 57 = .ok (.getfield 10, 3) := by decide +kernel
theorem dX9_count_60 : decode cX9_count 60 = .ok (.getfield 63, 3) := by decide +kernel
theorem dX9_count_63 : decode cX9_count 63 = .ok (.getfield 75, 3) := by decide +kernel
theorem dX9_count_66 : decode cX9_count 66 = .ok (.ireturn, 1) := by decide +kernel
theorem dX9_count_67 : decode cX9_count 67 = .ok (.aload_n 0, 1) := by decide +kernel
theorem dX9_count_68 : decode cX9_count 68 = .ok (.getfield 10, 3) := by decide +kernel
theorem dX9_count_71 : decode cX9_count 71 = .ok (.getfield 63, 3) := by decide +kernel
theorem dX9_count_74 : decode cX9_count 74 = .ok (.getfield 103, 3) := by decide +kernel
theorem dX9_count_77 : decode cX9_count 77 = .ok (.ireturn, 1) := by decide +kernel
theorem dX9_count_78 : decode cX9_count 78 = .ok (.aload_n 0, 1) := by decide +kernel
theorem dX9_count_79 : decode cX9_count 79 = .ok (.getfield 10, 3) := by decide +kernel
theorem dX9_count_82 : decode cX9_count 82 = .ok (.getfield 63, 3) := by decide +kernel
theorem dX9_count_85 : decode cX9_count 85 = .ok (.getfield 134, 3) := by decide +kernel
theorem dX9_count_88 : decode cX9_count 88 = .ok (.ireturn, 1) := by decide +kernel
theorem dX9_count_89 : decode cX9_count 89 = .ok (.aload_n 0, 1) := by decide +kernel
theorem dX9_count_90 : decode cX9_count 90 = .ok (.getfield 10, 3) := by decide +kernel
theorem dX9_count_93 : decode cX9_count 93 = .ok (.getfield 63, 3) := by decide +kernel
theorem dX9_count_96 : decode cX9_count 96 = .ok (.invokevirtual 291, 3) := by decide +kernel
theorem dX9_count_99 : decode cX9_count 99 = .ok (.ireturn, 1) := by decide +kernel
theorem dX9_count_100 : decode cX9_count 100 = .ok (.aload_n 0, 1) := by decide +kernel
theorem dX9_count_101 : decode cX9_count 101 = .ok (.getfield 10, 3) := by decide +kernel
theorem dX9_count_104 : decode cX9_count 104 = .ok (.getfield 63, 3) := by decide +kernel
theorem dX9_count_107 : decode cX9_count 107 = .ok (.invokevirtual 193, 3) := by decide +kernel
theorem dX9_count_110 : decode cX9_count 110 = .ok (.ireturn, 1) := by decide +kernel
theorem dX9_count_111 : decode cX9_count 111 = .ok (.aload_n 0, 1) := by decide +kernel
theorem dX9_count_112 : decode cX9_count 112 = .ok (.getfield 10, 3) := by decide +kernel
theorem dX9_count_115 : decode cX9_count 115 = .ok (.getfield 63, 3) := by decide +kernel
theorem dX9_count_118 : decode cX9_count 118 = .ok (.invokevirtual 294, 3) := by decide +kernel
theorem dX9_count_121 : decode cX9_count 121 = .ok (.ireturn, 1) := by decide +kernel
theorem dX9_count_122 : decode cX9_count 122 = .ok (.aload_n 0, 1) := by decide +kernel
theorem dX9_count_123 : decode cX9_count 123 = .ok (.getfield 10, 3) := by decide +kernel
theorem dX9_count_126 : decode cX9_count 126 = .ok (.getfield 149, 3) := by decide +kernel
theorem dX9_count_129 : decode cX9_count 129 = .ok (.getfield 153, 3) := by decide +kernel
theorem dX9_count_132 : decode cX9_count 132 = .ok (.ireturn, 1) := by decide +kernel
theorem dX9_count_133 : decode cX9_count 133 = .ok (.aload_n 0, 1) := by decide +kernel
theorem dX9_count_134 : decode cX9_count 134 = .ok (.getfield 10, 3) := by decide +kernel
theorem dX9_count_137 : decode cX9_count 137 = .ok (.getfield 288, 3) := by decide +kernel
theorem dX9_count_140 : decode cX9_count 140 = .ok (.getfield 153, 3) := by decide +kernel
theorem dX9_count_143 : decode cX9_count 143 = .ok (.ireturn, 1) := by decide +kernel
theorem dX9_count_144 : decode cX9_count 144 = .ok (.aload_n 0, 1) := by decide +kernel
theorem dX9_count_145 : decode cX9_count 145 = .ok (.getfield 36, 3) := by decide +kernel
theorem dX9_count_148 : decode cX9_count 148 = .ok (.getfield 251, 3) := by decide +kernel
theorem dX9_count_151 : decode cX9_count 151 = .ok (.getfield 153, 3) := by decide +kernel
theorem dX9_count_154 : decode cX9_count 154 = .ok (.ireturn, 1) := by decide +kernel
theorem dX9_count_155 : decode cX9_count 155 = .ok (.aload_n 0, 1) := by decide +kernel
theorem dX9_count_156 : decode cX9_count 156 = .ok (.getfield 10, 3) := by decide +kernel
theorem dX9_count_159 : decode cX9_count 159 = .ok (.getfield 244, 3) := by decide +kernel
theorem dX9_count_162 : decode cX9_count 162 = .ok (.ireturn, 1) := by decide +kernel
theorem dX9_count_163 : decode cX9_count 163 = .ok (.aload_n 0, 1) := by decide +kernel
theorem dX9_count_164 : decode cX9_count 164 = .ok (.iconst 1, 1) := by decide +kernel
theorem dX9_count_165 : decode cX9_count 165 = .ok (.invokevirtual 59, 3) := by decide +kernel
theorem dX9_count_168 : decode cX9_count 168 = .ok (.ireturn, 1) := by decide +kernel
theorem dX9_told_0 : decode cX9_told 0 = .ok (.iload_n 1, 1) := by decide +kernel
theorem dX9_told_1 : decode cX9_told 1 = .ok (.iconst 1, 1) := by decide +kernel
theorem dX9_told_2 : decode cX9_told 2 = .ok (.if_icmp .lt 17, 3) := by decide +kernel
theorem dX9_told_5 : decode cX9_told 5 = .ok (.iload_n 1, 1) := by decide +kernel
theorem dX9_told_6 : decode cX9_told 6 = .ok (.iconst 5, 1) := by decide +kernel
theorem dX9_told_7 : decode cX9_told 7 = .ok (.if_icmp .gt 12, 3) := by decide +kernel
theorem dX9_told_10 : decode cX9_told 10 = .ok (.aload_n 0, 1) := by decide +kernel
theorem dX9_told_11 : decode cX9_told 11 = .ok (.getfield 46, 3) := by decide +kernel
theorem dX9_told_14 : decode cX9_told 14 = .ok (.iload_n 1, 1) := by decide +kernel
theorem dX9_told_15 : decode cX9_told 15 = .ok (.iaload, 1) := by decide +kernel
theorem dX9_told_16 : decode cX9_told 16 = .ok (.goto 8, 3) := by decide +kernel
theorem dX9_told_19 : decode cX9_told 19 = .ok (.aload_n 0, 1) := by decide +kernel
theorem dX9_told_20 : decode cX9_told 20 = .ok (.iconst 1, 1) := by decide +kernel
theorem dX9_told_21 : decode cX9_told 21 = .ok (.invokevirtual 59, 3) := by decide +kernel
theorem dX9_told_24 : decode cX9_told 24 = .ok (.ireturn, 1) := by decide +kernel
theorem dX9_refuse_0 : decode cX9_refuse 0 = .ok (.iload_n 1, 1) := by decide +kernel
theorem dX9_refuse_1 : decode cX9_refuse 1 = .ok (.iconst 1, 1) := by decide +kernel
theorem dX9_refuse_2 : decode cX9_refuse 2 = .ok (.if_icmp .lt 18, 3) := by decide +kernel
theorem dX9_refuse_5 : decode cX9_refuse 5 = .ok (.iload_n 1, 1) := by decide +kernel
theorem dX9_refuse_6 : decode cX9_refuse 6 = .ok (.iconst 5, 1) := by decide +kernel
theorem dX9_refuse_7 : decode cX9_refuse 7 = .ok (.if_icmp .gt 13, 3) := by decide +kernel
theorem dX9_refuse_10 : decode cX9_refuse 10 = .ok (.aload_n 0, 1) := by decide +kernel
theorem dX9_refuse_11 : decode cX9_refuse 11 = .ok (.getfield 46, 3) := by decide +kernel
theorem dX9_refuse_14 : decode cX9_refuse 14 = .ok (.iload_n 1, 1) := by decide +kernel
theorem dX9_refuse_15 : decode cX9_refuse 15 = .ok (.dup2, 1) := by decide +kernel
theorem dX9_refuse_16 : decode cX9_refuse 16 = .ok (.iaload, 1) := by decide +kernel
theorem dX9_refuse_17 : decode cX9_refuse 17 = .ok (.iconst 1, 1) := by decide +kernel
theorem dX9_refuse_18 : decode cX9_refuse 18 = .ok (.iadd, 1) := by decide +kernel
theorem dX9_refuse_19 : decode cX9_refuse 19 = .ok (.iastore, 1) := by decide +kernel
theorem dX9_refuse_20 : decode cX9_refuse 20 = .ok (.ldc_w 297, 3) := by decide +kernel
theorem dX9_refuse_23 : decode cX9_refuse 23 = .ok (.iload_n 1, 1) := by decide +kernel
theorem dX9_refuse_24 : decode cX9_refuse 24 = .ok (.isub, 1) := by decide +kernel
theorem dX9_refuse_25 : decode cX9_refuse 25 = .ok (.ireturn, 1) := by decide +kernel
theorem dX9_isWithin_0 : decode cX9_isWithin 0 = .ok (.iload_n 0, 1) := by decide +kernel
theorem dX9_isWithin_1 : decode cX9_isWithin 1 = .ok (.ifCond .lt 12, 3) := by decide +kernel
theorem dX9_isWithin_4 : decode cX9_isWithin 4 = .ok (.iload_n 0, 1) := by decide +kernel
theorem dX9_isWithin_5 : decode cX9_isWithin 5 = .ok (.iload_n 1, 1) := by decide +kernel
theorem dX9_isWithin_6 : decode cX9_isWithin 6 = .ok (.if_icmp .gt 7, 3) := by decide +kernel
theorem dX9_isWithin_9 : decode cX9_isWithin 9 = .ok (.iconst 1, 1) := by decide +kernel
theorem dX9_isWithin_10 : decode cX9_isWithin 10 = .ok (.goto 4, 3) := by decide +kernel
theorem dX9_isWithin_13 : decode cX9_isWithin 13 = .ok (.iconst 0, 1) := by decide +kernel
theorem dX9_isWithin_14 : decode cX9_isWithin 14 = .ok (.ireturn, 1) := by decide +kernel
theorem dX9_isCell_0 : decode cX9_isCell 0 = .ok (.iload_n 0, 1) := by decide +kernel
theorem dX9_isCell_1 : decode cX9_isCell 1 = .ok (.bipush 9, 2) := by decide +kernel
theorem dX9_isCell_3 : decode cX9_isCell 3 = .ok (.invokestatic 55, 3) := by decide +kernel
theorem dX9_isCell_6 : decode cX9_isCell 6 = .ok (.ireturn, 1) := by decide +kernel
theorem dX9_isSheet_0 : decode cX9_isSheet 0 = .ok (.iload_n 0, 1) := by decide +kernel
theorem dX9_isSheet_1 : decode cX9_isSheet 1 = .ok (.iconst 3, 1) := by decide +kernel
theorem dX9_isSheet_2 : decode cX9_isSheet 2 = .ok (.invokestatic 55, 3) := by decide +kernel
theorem dX9_isSheet_5 : decode cX9_isSheet 5 = .ok (.ireturn, 1) := by decide +kernel
theorem dX9_isKindWithM_0 : decode cX9_isKindWithM 0 = .ok (.iload_n 0, 1) := by decide +kernel
theorem dX9_isKindWithM_1 : decode cX9_isKindWithM 1 = .ok (.bipush 69, 2) := by decide +kernel
theorem dX9_isKindWithM_3 : decode cX9_isKindWithM 3 = .ok (.invokestatic 55, 3) := by decide +kernel
theorem dX9_isKindWithM_6 : decode cX9_isKindWithM 6 = .ok (.ireturn, 1) := by decide +kernel
theorem dX9_isSeeker_0 : decode cX9_isSeeker 0 = .ok (.iload_n 1, 1) := by decide +kernel
theorem dX9_isSeeker_1 : decode cX9_isSeeker 1 = .ok (.aload_n 0, 1) := by decide +kernel
theorem dX9_isSeeker_2 : decode cX9_isSeeker 2 = .ok (.getfield 10, 3) := by decide +kernel
theorem dX9_isSeeker_5 : decode cX9_isSeeker 5 = .ok (.getfield 63, 3) := by decide +kernel
theorem dX9_isSeeker_8 : decode cX9_isSeeker 8 = .ok (.getfield 75, 3) := by decide +kernel
theorem dX9_isSeeker_11 : decode cX9_isSeeker 11 = .ok (.iconst 1, 1) := by decide +kernel
theorem dX9_isSeeker_12 : decode cX9_isSeeker 12 = .ok (.isub, 1) := by decide +kernel
theorem dX9_isSeeker_13 : decode cX9_isSeeker 13 = .ok (.invokestatic 55, 3) := by decide +kernel
theorem dX9_isSeeker_16 : decode cX9_isSeeker 16 = .ok (.ireturn, 1) := by decide +kernel
theorem dX9_isSheep_0 : decode cX9_isSheep 0 = .ok (.iload_n 1, 1) := by decide +kernel
theorem dX9_isSheep_1 : decode cX9_isSheep 1 = .ok (.aload_n 0, 1) := by decide +kernel
theorem dX9_isSheep_2 : decode cX9_isSheep 2 = .ok (.getfield 10, 3) := by decide +kernel
theorem dX9_isSheep_5 : decode cX9_isSheep 5 = .ok (.getfield 63, 3) := by decide +kernel
theorem dX9_isSheep_8 : decode cX9_isSheep 8 = .ok (.getfield 103, 3) := by decide +kernel
theorem dX9_isSheep_11 : decode cX9_isSheep 11 = .ok (.iconst 1, 1) := by decide +kernel
theorem dX9_isSheep_12 : decode cX9_isSheep 12 = .ok (.isub, 1) := by decide +kernel
theorem dX9_isSheep_13 : decode cX9_isSheep 13 = .ok (.invokestatic 55, 3) := by decide +kernel
theorem dX9_isSheep_16 : decode cX9_isSheep 16 = .ok (.ireturn, 1) := by decide +kernel
theorem dX9_isMark_0 : decode cX9_isMark 0 = .ok (.iload_n 1, 1) := by decide +kernel
theorem dX9_isMark_1 : decode cX9_isMark 1 = .ok (.iconst 1, 1) := by decide +kernel
theorem dX9_isMark_2 : decode cX9_isMark 2 = .ok (.aload_n 0, 1) := by decide +kernel
theorem dX9_isMark_3 : decode cX9_isMark 3 = .ok (.getfield 10, 3) := by decide +kernel
theorem dX9_isMark_6 : decode cX9_isMark 6 = .ok (.getfield 63, 3) := by decide +kernel
theorem dX9_isMark_9 : decode cX9_isMark 9 = .ok (.getfield 75, 3) := by decide +kernel
theorem dX9_isMark_12 : decode cX9_isMark 12 = .ok (.ishl, 1) := by decide +kernel
theorem dX9_isMark_13 : decode cX9_isMark 13 = .ok (.iconst 1, 1) := by decide +kernel
theorem dX9_isMark_14 : decode cX9_isMark 14 = .ok (.isub, 1) := by decide +kernel
theorem dX9_isMark_15 : decode cX9_isMark 15 = .ok (.invokestatic 55, 3) := by decide +kernel
theorem dX9_isMark_18 : decode cX9_isMark 18 = .ok (.ireturn, 1) := by decide +kernel
theorem dX9_isChange_0 : decode cX9_isChange 0 = .ok (.iload_n 1, 1) := by decide +kernel
theorem dX9_isChange_1 : decode cX9_isChange 1 = .ok (.tableswitch 55 0 3 #[31, 36, 43, 49], 31) := by decide +kernel
theorem dX9_isChange_32 : decode cX9_isChange 32 = .ok (.iload_n 2, 1) := by decide +kernel
theorem dX9_isChange_33 : decode cX9_isChange 33 = .ok (.invokestatic 51, 3) := by decide +kernel
theorem dX9_isChange_36 : decode cX9_isChange 36 = .ok (.ireturn, 1) := by decide +kernel
theorem dX9_isChange_37 : decode cX9_isChange 37 = .ok (.iload_n 2, 1) := by decide +kernel
theorem dX9_isChange_38 : decode cX9_isChange 38 = .ok (.bipush 99, 2) := by decide +kernel
theorem dX9_isChange_40 : decode cX9_isChange 40 = .ok (.invokestatic 55, 3) := by decide +kernel
theorem dX9_isChange_43 : decode cX9_isChange 43 = .ok (.ireturn, 1) := by decide +kernel
theorem dX9_isChange_44 : decode cX9_isChange 44 = .ok (.aload_n 0, 1) := by decide +kernel
theorem dX9_isChange_45 : decode cX9_isChange 45 = .ok (.iload_n 2, 1) := by decide +kernel
theorem dX9_isChange_46 : decode cX9_isChange 46 = .ok (.invokevirtual 100, 3) := by decide +kernel
theorem dX9_isChange_49 : decode cX9_isChange 49 = .ok (.ireturn, 1) := by decide +kernel
theorem dX9_isChange_50 : decode cX9_isChange 50 = .ok (.iload_n 2, 1) := by decide +kernel
theorem dX9_isChange_51 : decode cX9_isChange 51 = .ok (.iconst 1, 1) := by decide +kernel
theorem dX9_isChange_52 : decode cX9_isChange 52 = .ok (.invokestatic 55, 3) := by decide +kernel
theorem dX9_isChange_55 : decode cX9_isChange 55 = .ok (.ireturn, 1) := by decide +kernel
theorem dX9_isChange_56 : decode cX9_isChange 56 = .ok (.iconst 0, 1) := by decide +kernel
theorem dX9_isChange_57 : decode cX9_isChange 57 = .ok (.ireturn, 1) := by decide +kernel
theorem dX9_isOfKind_0 : decode cX9_isOfKind 0 = .ok (.iload_n 0, 1) := by decide +kernel
theorem dX9_isOfKind_1 : decode cX9_isOfKind 1 = .ok (.istore_n 2, 1) := by decide +kernel
theorem dX9_isOfKind_2 : decode cX9_isOfKind 2 = .ok (.iconst 0, 1) := by decide +kernel
theorem dX9_isOfKind_3 : decode cX9_isOfKind 3 = .ok (.istore_n 3, 1) := by decide +kernel
theorem dX9_isOfKind_4 : decode cX9_isOfKind 4 = .ok (.iload_n 3, 1) := by decide +kernel
theorem dX9_isOfKind_5 : decode cX9_isOfKind 5 = .ok (.bipush 7, 2) := by decide +kernel
theorem dX9_isOfKind_7 : decode cX9_isOfKind 7 = .ok (.if_icmp .ge 31, 3) := by decide +kernel
theorem dX9_isOfKind_10 : decode cX9_isOfKind 10 = .ok (.iload_n 2, 1) := by decide +kernel
theorem dX9_isOfKind_11 : decode cX9_isOfKind 11 = .ok (.bipush 6, 2) := by decide +kernel
theorem dX9_isOfKind_13 : decode cX9_isOfKind 13 = .ok (.invokestatic 55, 3) := by decide +kernel
theorem dX9_isOfKind_16 : decode cX9_isOfKind 16 = .ok (.ifCond .eq 22, 3) := by decide +kernel
theorem dX9_isOfKind_19 : decode cX9_isOfKind 19 = .ok (.iload_n 2, 1) := by decide +kernel
theorem dX9_isOfKind_20 : decode cX9_isOfKind 20 = .ok (.iload_n 1, 1) := by decide +kernel
theorem dX9_isOfKind_21 : decode cX9_isOfKind 21 = .ok (.if_icmp .ne 5, 3) := by decide +kernel
theorem dX9_isOfKind_24 : decode cX9_isOfKind 24 = .ok (.iconst 1, 1) := by decide +kernel
theorem dX9_isOfKind_25 : decode cX9_isOfKind 25 = .ok (.ireturn, 1) := by decide +kernel
theorem dX9_isOfKind_26 : decode cX9_isOfKind 26 = .ok (.getstatic 298, 3) := by decide +kernel
theorem dX9_isOfKind_29 : decode cX9_isOfKind 29 = .ok (.iload_n 2, 1) := by decide +kernel
theorem dX9_isOfKind_30 : decode cX9_isOfKind 30 = .ok (.iaload, 1) := by decide +kernel
theorem dX9_isOfKind_31 : decode cX9_isOfKind 31 = .ok (.istore_n 2, 1) := by decide +kernel
theorem dX9_isOfKind_32 : decode cX9_isOfKind 32 = .ok (.iinc 3 1, 3) := by decide +kernel
theorem dX9_isOfKind_35 : decode cX9_isOfKind 35 = .ok (.goto (-31), 3) := by decide +kernel
theorem dX9_isOfKind_38 : decode cX9_isOfKind 38 = .ok (.iconst 0, 1) := by decide +kernel
theorem dX9_isOfKind_39 : decode cX9_isOfKind 39 = .ok (.ireturn, 1) := by decide +kernel
theorem dX9_thinkFromNow_0 : decode cX9_thinkFromNow 0 = .ok (.aload_n 0, 1) := by decide +kernel
theorem dX9_thinkFromNow_1 : decode cX9_thinkFromNow 1 = .ok (.getfield 22, 3) := by decide +kernel
theorem dX9_thinkFromNow_4 : decode cX9_thinkFromNow 4 = .ok (.aload_n 0, 1) := by decide +kernel
theorem dX9_thinkFromNow_5 : decode cX9_thinkFromNow 5 = .ok (.getfield 10, 3) := by decide +kernel
theorem dX9_thinkFromNow_8 : decode cX9_thinkFromNow 8 = .ok (.getfield 63, 3) := by decide +kernel
theorem dX9_thinkFromNow_11 : decode cX9_thinkFromNow 11 = .ok (.invokevirtual 301, 3) := by decide +kernel
theorem dX9_thinkFromNow_14 : decode cX9_thinkFromNow 14 = .ok (.return_, 1) := by decide +kernel
theorem dX9_partOfFraction_0 : decode cX9_partOfFraction 0 = .ok (.iload_n 1, 1) := by decide +kernel
theorem dX9_partOfFraction_1 : decode cX9_partOfFraction 1 = .ok (.ifCond .ne 7, 3) := by decide +kernel
theorem dX9_partOfFraction_4 : decode cX9_partOfFraction 4 = .ok (.iload_n 0, 1) := by decide +kernel
theorem dX9_partOfFraction_5 : decode cX9_partOfFraction 5 = .ok (.goto 5, 3) := by decide +kernel
theorem dX9_partOfFraction_8 : decode cX9_partOfFraction 8 = .ok (.bipush 10, 2) := by decide +kernel
theorem dX9_partOfFraction_10 : decode cX9_partOfFraction 10 = .ok (.istore_n 2, 1) := by decide +kernel
theorem dX9_partOfFraction_11 : decode cX9_partOfFraction 11 = .ok (.bipush 10, 2) := by decide +kernel
theorem dX9_partOfFraction_13 : decode cX9_partOfFraction 13 = .ok (.istore_n 3, 1) := by decide +kernel
theorem dX9_partOfFraction_14 : decode cX9_partOfFraction 14 = .ok (.iload_n 3, 1) := by decide +kernel
theorem dX9_partOfFraction_15 : decode cX9_partOfFraction 15 = .ok (.iconst 2, 1) := by decide +kernel
theorem dX9_partOfFraction_16 : decode cX9_partOfFraction 16 = .ok (.if_icmp .lt 26, 3) := by decide +kernel
theorem dX9_partOfFraction_19 : decode cX9_partOfFraction 19 = .ok (.iload_n 0, 1) := by decide +kernel
theorem dX9_partOfFraction_20 : decode cX9_partOfFraction 20 = .ok (.iload_n 3, 1) := by decide +kernel
theorem dX9_partOfFraction_21 : decode cX9_partOfFraction 21 = .ok (.irem, 1) := by decide +kernel
theorem dX9_partOfFraction_22 : decode cX9_partOfFraction 22 = .ok (.ifCond .ne 14, 3) := by decide +kernel
theorem dX9_partOfFraction_25 : decode cX9_partOfFraction 25 = .ok (.bipush 10, 2) := by decide +kernel
theorem dX9_partOfFraction_27 : decode cX9_partOfFraction 27 = .ok (.iload_n 3, 1) := by decide +kernel
theorem dX9_partOfFraction_28 : decode cX9_partOfFraction 28 = .ok (.irem, 1) := by decide +kernel
theorem dX9_partOfFraction_29 : decode cX9_partOfFraction 29 = .ok (.ifCond .ne 7, 3) := by decide +kernel
theorem dX9_partOfFraction_32 : decode cX9_partOfFraction 32 = .ok (.iload_n 2, 1) := by decide +kernel
theorem dX9_partOfFraction_33 : decode cX9_partOfFraction 33 = .ok (.iload_n 3, 1) := by decide +kernel
theorem dX9_partOfFraction_34 : decode cX9_partOfFraction 34 = .ok (.idiv, 1) := by decide +kernel
theorem dX9_partOfFraction_35 : decode cX9_partOfFraction 35 = .ok (.ireturn, 1) := by decide +kernel
theorem dX9_partOfFraction_36 : decode cX9_partOfFraction 36 = .ok (.iinc 3 (-1), 3) := by decide +kernel
theorem dX9_partOfFraction_39 : decode cX9_partOfFraction 39 = .ok (.goto (-25), 3) := by decide +kernel
theorem dX9_partOfFraction_42 : decode cX9_partOfFraction 42 = .ok (.iload_n 2, 1) := by decide +kernel
theorem dX9_partOfFraction_43 : decode cX9_partOfFraction 43 = .ok (.ireturn, 1) := by decide +kernel
