theorem dX10_drawn_23 : decode cX10_drawn 23 = .ok (.iconst 1, 1) := by decide +kernel
theorem dX10_drawn_24 : decode cX10_drawn 24 = .ok (.iaload, 1) := by decide +kernel
theorem dX10_drawn_25 : decode cX10_drawn 25 = .ok (.bipush 8, 2) := by decide +kernel
theorem dX10_drawn_27 : decode cX10_drawn 27 = .ok (.iushr, 1) := by decide +kernel
theorem dX10_drawn_28 : decode cX10_drawn 28 = .ok (.ireturn, 1) := by decide +kernel
theorem dX10_loose_0 : decode cX10_loose 0 = .ok (.iload_n 1, 1) := by decide +kernel
theorem dX10_loose_1 : decode cX10_loose 1 = .ok (.iconst 1, 1) := by decide +kernel
theorem dX10_loose_2 : decode cX10_loose 2 = .ok (.bipush 40, 2) := by decide +kernel
theorem dX10_loose_4 : decode cX10_loose 4 = .ok (.invokestatic 50, 3) := by decide +kernel
theorem dX10_loose_7 : decode cX10_loose 7 = .ok (.ifCond .ne 10, 3) := by decide +kernel
theorem dX10_loose_10 : decode cX10_loose 10 = .ok (.aload_n 0, 1) := by decide +kernel
theorem dX10_loose_11 : decode cX10_loose 11 = .ok (.ldc 62, 2) := by decide +kernel
theorem dX10_loose_13 : decode cX10_loose 13 = .ok (.invokevirtual 63, 3) := by decide +kernel
theorem dX10_loose_16 : decode cX10_loose 16 = .ok (.ireturn, 1) := by decide +kernel
theorem dX10_loose_17 : decode cX10_loose 17 = .ok (.aload_n 0, 1) := by decide +kernel
theorem dX10_loose_18 : decode cX10_loose 18 = .ok (.getfield 7, 3) := by decide +kernel
theorem dX10_loose_21 : decode cX10_loose 21 = .ok (.iconst 0, 1) := by decide +kernel
theorem dX10_loose_22 : decode cX10_loose 22 = .ok (.iaload, 1) := by decide +kernel
theorem dX10_loose_23 : decode cX10_loose 23 = .ok (.iload_n 1, 1) := by decide +kernel
theorem dX10_loose_24 : decode cX10_loose 24 = .ok (.iadd, 1) := by decide +kernel
theorem dX10_loose_25 : decode cX10_loose 25 = .ok (.sipush 9999, 3) := by decide +kernel
theorem dX10_loose_28 : decode cX10_loose 28 = .ok (.if_icmp .le 10, 3) := by decide +kernel
theorem dX10_loose_31 : decode cX10_loose 31 = .ok (.aload_n 0, 1) := by decide +kernel
theorem dX10_loose_32 : decode cX10_loose 32 = .ok (.ldc 199, 2) := by decide +kernel
theorem dX10_loose_34 : decode cX10_loose 34 = .ok (.invokevirtual 63, 3) := by decide +kernel
theorem dX10_loose_37 : decode cX10_loose 37 = .ok (.ireturn, 1) := by decide +kernel
theorem dX10_loose_38 : decode cX10_loose 38 = .ok (.iconst 0, 1) := by decide +kernel
theorem dX10_loose_39 : decode cX10_loose 39 = .ok (.istore_n 2, 1) := by decide +kernel
theorem dX10_loose_40 : decode cX10_loose 40 = .ok (.iload_n 2, 1) := by decide +kernel
theorem dX10_loose_41 : decode cX10_loose 41 = .ok (.iload_n 1, 1) := by decide +kernel
theorem dX10_loose_42 : decode cX10_loose 42 = .ok (.if_icmp .ge 56, 3) := by decide +kernel
theorem dX10_loose_45 : decode cX10_loose 45 = .ok (.aload_n 0, 1) := by decide +kernel
theorem dX10_loose_46 : decode cX10_loose 46 = .ok (.invokevirtual 201, 3) := by decide +kernel
theorem dX10_loose_49 : decode cX10_loose 49 = .ok (.istore_n 3, 1) := by decide +kernel
theorem dX10_loose_50 : decode cX10_loose 50 = .ok (.bipush 8, 2) := by decide +kernel
theorem dX10_loose_52 : decode cX10_loose 52 = .ok (.iload_n 3, 1) := by decide +kernel
theorem dX10_loose_53 : decode cX10_loose 53 = .ok (.bipush 10, 2) := by decide +kernel
theorem dX10_loose_55 : decode cX10_loose 55 = .ok (.irem, 1) := by decide +kernel
theorem dX10_loose_56 : decode cX10_loose 56 = .ok (.iadd, 1) := by decide +kernel
theorem dX10_loose_57 : decode cX10_loose 57 = .ok (.istore 4, 2) := by decide +kernel
theorem dX10_loose_59 : decode cX10_loose 59 = .ok (.aload_n 0, 1) := by decide +kernel
theorem dX10_loose_60 : decode cX10_loose 60 = .ok (.getfield 7, 3) := by decide +kernel
theorem dX10_loose_63 : decode cX10_loose 63 = .ok (.iload 4, 2) := by decide +kernel
theorem dX10_loose_65 : decode cX10_loose 65 = .ok (.aload_n 0, 1) := by decide +kernel
theorem dX10_loose_66 : decode cX10_loose 66 = .ok (.getfield 7, 3) := by decide +kernel
theorem dX10_loose_69 : decode cX10_loose 69 = .ok (.iload 4, 2) := by decide +kernel
theorem dX10_loose_71 : decode cX10_loose 71 = .ok (.iaload, 1) := by decide +kernel
theorem dX10_loose_72 : decode cX10_loose 72 = .ok (.iload_n 3, 1) := by decide +kernel
theorem dX10_loose_73 : decode cX10_loose 73 = .ok (.bipush 8, 2) := by decide +kernel
theorem dX10_loose_75 : decode cX10_loose 75 = .ok (.idiv, 1) := by decide +kernel
theorem dX10_loose_76 : decode cX10_loose 76 = .ok (.bipush 30, 2) := by decide +kernel
theorem dX10_loose_78 : decode cX10_loose 78 = .ok (.irem, 1) := by decide +kernel
theorem dX10_loose_79 : decode cX10_loose 79 = .ok (.iadd, 1) := by decide +kernel
theorem dX10_loose_80 : decode cX10_loose 80 = .ok (.iconst 0, 1) := by decide +kernel
theorem dX10_loose_81 : decode cX10_loose 81 = .ok (.sipush 999, 3) := by decide +kernel
theorem dX10_loose_84 : decode cX10_loose 84 = .ok (.invokestatic 165, 3) := by decide +kernel
theorem dX10_loose_87 : decode cX10_loose 87 = .ok (.iastore, 1) := by decide +kernel
theorem dX10_loose_88 : decode cX10_loose 88 = .ok (.aload_n 0, 1) := by decide +kernel
theorem dX10_loose_89 : decode cX10_loose 89 = .ok (.invokevirtual 185, 3) := by decide +kernel
theorem dX10_loose_92 : decode cX10_loose 92 = .ok (.iinc 2 1, 3) := by decide +kernel
theorem dX10_loose_95 : decode cX10_loose 95 = .ok (.goto (-55), 3) := by decide +kernel
theorem dX10_loose_98 : decode cX10_loose 98 = .ok (.aload_n 0, 1) := by decide +kernel
theorem dX10_loose_99 : decode cX10_loose 99 = .ok (.invokevirtual 195, 3) := by decide +kernel
theorem dX10_loose_102 : decode cX10_loose 102 = .ok (.ireturn, 1) := by decide +kernel
theorem dX10_then_0 : decode cX10_then 0 = .ok (.iload_n 1, 1) := by decide +kernel
theorem dX10_then_1 : decode cX10_then 1 = .ok (.iconst 0, 1) := by decide +kernel
theorem dX10_then_2 : decode cX10_then 2 = .ok (.bipush 60, 2) := by decide +kernel
theorem dX10_then_4 : decode cX10_then 4 = .ok (.invokestatic 50, 3) := by decide +kernel
theorem dX10_then_7 : decode cX10_then 7 = .ok (.ifCond .eq 20, 3) := by decide +kernel
theorem dX10_then_10 : decode cX10_then 10 = .ok (.aload_n 0, 1) := by decide +kernel
theorem dX10_then_11 : decode cX10_then 11 = .ok (.iload_n 2, 1) := by decide +kernel
theorem dX10_then_12 : decode cX10_then 12 = .ok (.invokevirtual 91, 3) := by decide +kernel
theorem dX10_then_15 : decode cX10_then 15 = .ok (.ifCond .eq 12, 3) := by decide +kernel
theorem dX10_then_18 : decode cX10_then 18 = .ok (.iload_n 3, 1) := by decide +kernel
theorem dX10_then_19 : decode cX10_then 19 = .ok (.iconst 0, 1) := by decide +kernel
theorem dX10_then_20 : decode cX10_then 20 = .ok (.iconst 2, 1) := by decide +kernel
theorem dX10_then_21 : decode cX10_then 21 = .ok (.invokestatic 50, 3) := by decide +kernel
theorem dX10_then_24 : decode cX10_then 24 = .ok (.ifCond .ne 10, 3) := by decide +kernel
theorem dX10_then_27 : decode cX10_then 27 = .ok (.aload_n 0, 1) := by decide +kernel
theorem dX10_then_28 : decode cX10_then 28 = .ok (.ldc 62, 2) := by decide +kernel
theorem dX10_then_30 : decode cX10_then 30 = .ok (.invokevirtual 63, 3) := by decide +kernel
theorem dX10_then_33 : decode cX10_then 33 = .ok (.ireturn, 1) := by decide +kernel
theorem dX10_then_34 : decode cX10_then 34 = .ok (.aload_n 0, 1) := by decide +kernel
theorem dX10_then_35 : decode cX10_then 35 = .ok (.aload_n 0, 1) := by decide +kernel
theorem dX10_then_36 : decode cX10_then 36 = .ok (.getfield 7, 3) := by decide +kernel
theorem dX10_then_39 : decode cX10_then 39 = .ok (.aload_n 0, 1) := by decide +kernel
theorem dX10_then_40 : decode cX10_then 40 = .ok (.getfield 16, 3) := by decide +kernel
theorem dX10_then_43 : decode cX10_then 43 = .ok (.invokevirtual 188, 3) := by decide +kernel
theorem dX10_then_46 : decode cX10_then 46 = .ok (.aload_n 0, 1) := by decide +kernel
theorem dX10_then_47 : decode cX10_then 47 = .ok (.iload_n 1, 1) := by decide +kernel
theorem dX10_then_48 : decode cX10_then 48 = .ok (.invokevirtual 192, 3) := by decide +kernel
theorem dX10_then_51 : decode cX10_then 51 = .ok (.iload_n 3, 1) := by decide +kernel
theorem dX10_then_52 : decode cX10_then 52 = .ok (.ifCond .ne 12, 3) := by decide +kernel
theorem dX10_then_55 : decode cX10_then 55 = .ok (.aload_n 0, 1) := by decide +kernel
theorem dX10_then_56 : decode cX10_then 56 = .ok (.iload_n 2, 1) := by decide +kernel
theorem dX10_then_57 : decode cX10_then 57 = .ok (.iconst 3, 1) := by decide +kernel
theorem dX10_then_58 : decode cX10_then 58 = .ok (.invokevirtual 67, 3) := by decide +kernel
theorem dX10_then_61 : decode cX10_then 61 = .ok (.goto 31, 3) := by decide +kernel
theorem dX10_then_64 : decode cX10_then 64 = .ok (.iload_n 3, 1) := by decide +kernel
theorem dX10_then_65 : decode cX10_then 65 = .ok (.iconst 1, 1) := by decide +kernel
theorem dX10_then_66 : decode cX10_then 66 = .ok (.if_icmp .ne 12, 3) := by decide +kernel
theorem dX10_then_69 : decode cX10_then 69 = .ok (.aload_n 0, 1) := by decide +kernel
theorem dX10_then_70 : decode cX10_then 70 = .ok (.iload_n 2, 1) := by decide +kernel
theorem dX10_then_71 : decode cX10_then 71 = .ok (.iconst 5, 1) := by decide +kernel
theorem dX10_then_72 : decode cX10_then 72 = .ok (.invokevirtual 67, 3) := by decide +kernel
theorem dX10_then_75 : decode cX10_then 75 = .ok (.goto 17, 3) := by decide +kernel
theorem dX10_then_78 : decode cX10_then 78 = .ok (.aload_n 0, 1) := by decide +kernel
theorem dX10_then_79 : decode cX10_then 79 = .ok (.getfield 7, 3) := by decide +kernel
theorem dX10_then_82 : decode cX10_then 82 = .ok (.bipush 8, 2) := by decide +kernel
theorem dX10_then_84 : decode cX10_then 84 = .ok (.aload_n 0, 1) := by decide +kernel
theorem dX10_then_85 : decode cX10_then 85 = .ok (.iload_n 2, 1) := by decide +kernel
theorem dX10_then_86 : decode cX10_then 86 = .ok (.iconst 2, 1) := by decide +kernel
theorem dX10_then_87 : decode cX10_then 87 = .ok (.invokevirtual 67, 3) := by decide +kernel
theorem dX10_then_90 : decode cX10_then 90 = .ok (.iadd, 1) := by decide +kernel
theorem dX10_then_91 : decode cX10_then 91 = .ok (.iaload, 1) := by decide +kernel
theorem dX10_then_92 : decode cX10_then 92 = .ok (.istore 4, 2) := by decide +kernel
theorem dX10_then_94 : decode cX10_then 94 = .ok (.aload_n 0, 1) := by decide +kernel
theorem dX10_then_95 : decode cX10_then 95 = .ok (.aload_n 0, 1) := by decide +kernel
theorem dX10_then_96 : decode cX10_then 96 = .ok (.getfield 16, 3) := by decide +kernel
theorem dX10_then_99 : decode cX10_then 99 = .ok (.aload_n 0, 1) := by decide +kernel
theorem dX10_then_100 : decode cX10_then 100 = .ok (.getfield 7, 3) := by decide +kernel
theorem dX10_then_103 : decode cX10_then 103 = .ok (.invokevirtual 188, 3) := by decide +kernel
theorem dX10_then_106 : decode cX10_then 106 = .ok (.iload 4, 2) := by decide +kernel
theorem dX10_then_108 : decode cX10_then 108 = .ok (.ireturn, 1) := by decide +kernel
theorem dX10_when_0 : decode cX10_when 0 = .ok (.aload_n 0, 1) := by decide +kernel
theorem dX10_when_1 : decode cX10_when 1 = .ok (.iload_n 1, 1) := by decide +kernel
theorem dX10_when_2 : decode cX10_when 2 = .ok (.invokevirtual 91, 3) := by decide +kernel
theorem dX10_when_5 : decode cX10_when 5 = .ok (.ifCond .ne 10, 3) := by decide +kernel
theorem dX10_when_8 : decode cX10_when 8 = .ok (.aload_n 0, 1) := by decide +kernel
theorem dX10_when_9 : decode cX10_when 9 = .ok (.ldc 62, 2) := by decide +kernel
theorem dX10_when_11 : decode cX10_when 11 = .ok (.invokevirtual 63, 3) := by decide +kernel
theorem dX10_when_14 : decode cX10_when 14 = .ok (.ireturn, 1) := by decide +kernel
theorem dX10_when_15 : decode cX10_when 15 = .ok (.aload_n 0, 1) := by decide +kernel
theorem dX10_when_16 : decode cX10_when 16 = .ok (.aload_n 0, 1) := by decide +kernel
theorem dX10_when_17 : decode cX10_when 17 = .ok (.getfield 7, 3) := by decide +kernel
theorem dX10_when_20 : decode cX10_when 20 = .ok (.aload_n 0, 1) := by decide +kernel
theorem dX10_when_21 : decode cX10_when 21 = .ok (.getfield 16, 3) := by decide +kernel
theorem dX10_when_24 : decode cX10_when 24 = .ok (.invokevirtual 188, 3) := by decide +kernel
theorem dX10_when_27 : decode cX10_when 27 = .ok (.iconst 0, 1) := by decide +kernel
theorem dX10_when_28 : decode cX10_when 28 = .ok (.istore_n 2, 1) := by decide +kernel
theorem dX10_when_29 : decode cX10_when 29 = .ok (.iload_n 2, 1) := by decide +kernel
theorem dX10_when_30 : decode cX10_when 30 = .ok (.bipush 60, 2) := by decide +kernel
theorem dX10_when_32 : decode cX10_when 32 = .ok (.if_icmp .gt 22, 3) := by decide +kernel
theorem dX10_when_35 : decode cX10_when 35 = .ok (.aload_n 0, 1) := by decide +kernel
theorem dX10_when_36 : decode cX10_when 36 = .ok (.iload_n 1, 1) := by decide +kernel
theorem dX10_when_37 : decode cX10_when 37 = .ok (.iconst 5, 1) := by decide +kernel
theorem dX10_when_38 : decode cX10_when 38 = .ok (.invokevirtual 67, 3) := by decide +kernel
theorem dX10_when_41 : decode cX10_when 41 = .ok (.ifCond .ne 13, 3) := by decide +kernel
theorem dX10_when_44 : decode cX10_when 44 = .ok (.aload_n 0, 1) := by decide +kernel
theorem dX10_when_45 : decode cX10_when 45 = .ok (.invokevirtual 185, 3) := by decide +kernel
theorem dX10_when_48 : decode cX10_when 48 = .ok (.iinc 2 1, 3) := by decide +kernel
theorem dX10_when_51 : decode cX10_when 51 = .ok (.goto (-22), 3) := by decide +kernel
theorem dX10_when_54 : decode cX10_when 54 = .ok (.aload_n 0, 1) := by decide +kernel
theorem dX10_when_55 : decode cX10_when 55 = .ok (.aload_n 0, 1) := by decide +kernel
theorem dX10_when_56 : decode cX10_when 56 = .ok (.getfield 16, 3) := by decide +kernel
theorem dX10_when_59 : decode cX10_when 59 = .ok (.aload_n 0, 1) := by decide +kernel
theorem dX10_when_60 : decode cX10_when 60 = .ok (.getfield 7, 3) := by decide +kernel
theorem dX10_when_63 : decode cX10_when 63 = .ok (.invokevirtual 188, 3) := by decide +kernel
theorem dX10_when_66 : decode cX10_when 66 = .ok (.iload_n 2, 1) := by decide +kernel
theorem dX10_when_67 : decode cX10_when 67 = .ok (.bipush 60, 2) := by decide +kernel
theorem dX10_when_69 : decode cX10_when 69 = .ok (.if_icmp .le 12, 3) := by decide +kernel
theorem dX10_when_72 : decode cX10_when 72 = .ok (.aload_n 0, 1) := by decide +kernel
theorem dX10_when_73 : decode cX10_when 73 = .ok (.ldc 204, 2) := by decide +kernel
theorem dX10_when_75 : decode cX10_when 75 = .ok (.invokevirtual 63, 3) := by decide +kernel
theorem dX10_when_78 : decode cX10_when 78 = .ok (.goto 4, 3) := by decide +kernel
theorem dX10_when_81 : decode cX10_when 81 = .ok (.iload_n 2, 1) := by decide +kernel
theorem dX10_when_82 : decode cX10_when 82 = .ok (.ireturn, 1) := by decide +kernel
theorem dX10_saved_0 : decode cX10_saved 0 = .ok (.aload_n 0, 1) := by decide +kernel
theorem dX10_saved_1 : decode cX10_saved 1 = .ok (.bipush 60, 2) := by decide +kernel
theorem dX10_saved_3 : decode cX10_saved 3 = .ok (.invokevirtual 205, 3) := by decide +kernel
theorem dX10_saved_6 : decode cX10_saved 6 = .ok (.ireturn, 1) := by decide +kernel
theorem dX10_add_0 : decode cX10_add 0 = .ok (.aload_n 0, 1) := by decide +kernel
theorem dX10_add_1 : decode cX10_add 1 = .ok (.iload_n 1, 1) := by decide +kernel
theorem dX10_add_2 : decode cX10_add 2 = .ok (.invokevirtual 91, 3) := by decide +kernel
theorem dX10_add_5 : decode cX10_add 5 = .ok (.ifCond .eq 13, 3) := by decide +kernel
theorem dX10_add_8 : decode cX10_add 8 = .ok (.iload_n 2, 1) := by decide +kernel
theorem dX10_add_9 : decode cX10_add 9 = .ok (.iconst 0, 1) := by decide +kernel
theorem dX10_add_10 : decode cX10_add 10 = .ok (.bipush 20, 2) := by decide +kernel
theorem dX10_add_12 : decode cX10_add 12 = .ok (.invokestatic 50, 3) := by decide +kernel
theorem dX10_add_15 : decode cX10_add 15 = .ok (.ifCond .ne 10, 3) := by decide +kernel
theorem dX10_add_18 : decode cX10_add 18 = .ok (.aload_n 0, 1) := by decide +kernel
theorem dX10_add_19 : decode cX10_add 19 = .ok (.ldc 62, 2) := by decide +kernel
theorem dX10_add_21 : decode cX10_add 21 = .ok (.invokevirtual 63, 3) := by decide +kernel
theorem dX10_add_24 : decode cX10_add 24 = .ok (.ireturn, 1) := by decide +kernel
theorem dX10_add_25 : decode cX10_add 25 = .ok (.aload_n 0, 1) := by decide +kernel
theorem dX10_add_26 : decode cX10_add 26 = .ok (.iload_n 1, 1) := by decide +kernel
theorem dX10_add_27 : decode cX10_add 27 = .ok (.iconst 4, 1) := by decide +kernel
theorem dX10_add_28 : decode cX10_add 28 = .ok (.invokevirtual 67, 3) := by decide +kernel
theorem dX10_add_31 : decode cX10_add 31 = .ok (.istore_n 3, 1) := by decide +kernel
theorem dX10_add_32 : decode cX10_add 32 = .ok (.iconst (-1), 1) := by decide +kernel
theorem dX10_add_33 : decode cX10_add 33 = .ok (.istore 4, 2) := by decide +kernel
theorem dX10_add_35 : decode cX10_add 35 = .ok (.iconst 0, 1) := by decide +kernel
theorem dX10_add_36 : decode cX10_add 36 = .ok (.istore 5, 2) := by decide +kernel
theorem dX10_add_38 : decode cX10_add 38 = .ok (.iload 5, 2) := by decide +kernel
theorem dX10_add_40 : decode cX10_add 40 = .ok (.iconst 1, 1) := by decide +kernel
theorem dX10_add_41 : decode cX10_add 41 = .ok (.aload_n 0, 1) := by decide +kernel
theorem dX10_add_42 : decode cX10_add 42 = .ok (.getfield 7, 3) := by decide +kernel
theorem dX10_add_45 : decode cX10_add 45 = .ok (.iconst 3, 1) := by decide +kernel
theorem dX10_add_46 : decode cX10_add 46 = .ok (.iaload, 1) := by decide +kernel
theorem dX10_add_47 : decode cX10_add 47 = .ok (.ishl, 1) := by decide +kernel
theorem dX10_add_48 : decode cX10_add 48 = .ok (.if_icmp .ge 59, 3) := by decide +kernel
theorem dX10_add_51 : decode cX10_add 51 = .ok (.iload 4, 2) := by decide +kernel
theorem dX10_add_53 : decode cX10_add 53 = .ok (.ifCond .lt 16, 3) := by decide +kernel
theorem dX10_add_56 : decode cX10_add 56 = .ok (.iload 5, 2) := by decide +kernel
theorem dX10_add_58 : decode cX10_add 58 = .ok (.invokestatic 173, 3) := by decide +kernel
theorem dX10_add_61 : decode cX10_add 61 = .ok (.iload 4, 2) := by decide +kernel
theorem dX10_add_63 : decode cX10_add 63 = .ok (.invokestatic 173, 3) := by decide +kernel
theorem dX10_add_66 : decode cX10_add 66 = .ok (.if_icmp .ge 35, 3) := by decide +kernel
theorem dX10_add_69 : decode cX10_add 69 = .ok (.aload_n 0, 1) := by decide +kernel
theorem dX10_add_70 : decode cX10_add 70 = .ok (.iload_n 1, 1) := by decide +kernel
theorem dX10_add_71 : decode cX10_add 71 = .ok (.iconst 4, 1) := by decide +kernel
theorem dX10_add_72 : decode cX10_add 72 = .ok (.iload_n 3, 1) := by decide +kernel
theorem dX10_add_73 : decode cX10_add 73 = .ok (.iload 5, 2) := by decide +kernel
theorem dX10_add_75 : decode cX10_add 75 = .ok (.ior, 1) := by decide +kernel
theorem dX10_add_76 : decode cX10_add 76 = .ok (.invokevirtual 87, 3) := by decide +kernel
theorem dX10_add_79 : decode cX10_add 79 = .ok (.aload_n 0, 1) := by decide +kernel
theorem dX10_add_80 : decode cX10_add 80 = .ok (.iload_n 2, 1) := by decide +kernel
theorem dX10_add_81 : decode cX10_add 81 = .ok (.invokevirtual 205, 3) := by decide +kernel
theorem dX10_add_84 : decode cX10_add 84 = .ok (.iload_n 1, 1) := by decide +kernel
theorem dX10_add_85 : decode cX10_add 85 = .ok (.ishr, 1) := by decide +kernel
theorem dX10_add_86 : decode cX10_add 86 = .ok (.iconst 1, 1) := by decide +kernel
theorem dX10_add_87 : decode cX10_add 87 = .ok (.iand, 1) := by decide +kernel
theorem dX10_add_88 : decode cX10_add 88 = .ok (.iconst 1, 1) := by decide +kernel
theorem dX10_add_89 : decode cX10_add 89 = .ok (.if_icmp .ne 8, 3) := by decide +kernel
theorem dX10_add_92 : decode cX10_add 92 = .ok (.iload 5, 2) := by decide +kernel
theorem dX10_add_94 : decode cX10_add 94 = .ok (.goto 5, 3) := by decide +kernel
theorem dX10_add_97 : decode cX10_add 97 = .ok (.iload 4, 2) := by decide +kernel
theorem dX10_add_99 : decode cX10_add 99 = .ok (.istore 4, 2) := by decide +kernel
theorem dX10_add_101 : decode cX10_add 101 = .ok (.iinc 5 1, 3) := by decide +kernel
theorem dX10_add_104 : decode cX10_add 104 = .ok (.goto (-66), 3) := by decide +kernel
theorem dX10_add_107 : decode cX10_add 107 = .ok (.aload_n 0, 1) := by decide +kernel
theorem dX10_add_108 : decode cX10_add 108 = .ok (.iload_n 1, 1) := by decide +kernel
theorem dX10_add_109 : decode cX10_add 109 = .ok (.iconst 4, 1) := by decide +kernel
theorem dX10_add_110 : decode cX10_add 110 = .ok (.iload_n 3, 1) := by decide +kernel
theorem dX10_add_111 : decode cX10_add 111 = .ok (.invokevirtual 87, 3) := by decide +kernel
theorem dX10_add_114 : decode cX10_add 114 = .ok (.iload 4, 2) := by decide +kernel
theorem dX10_add_116 : decode cX10_add 116 = .ok (.ifCond .ge 12, 3) := by decide +kernel
theorem dX10_add_119 : decode cX10_add 119 = .ok (.aload_n 0, 1) := by decide +kernel
theorem dX10_add_120 : decode cX10_add 120 = .ok (.ldc 204, 2) := by decide +kernel
theorem dX10_add_122 : decode cX10_add 122 = .ok (.invokevirtual 63, 3) := by decide +kernel
theorem dX10_add_125 : decode cX10_add 125 = .ok (.goto 5, 3) := by decide +kernel
theorem dX10_add_128 : decode cX10_add 128 = .ok (.iload 4, 2) := by decide +kernel
theorem dX10_add_130 : decode cX10_add 130 = .ok (.ireturn, 1) := by decide +kernel
theorem dX10_start_0 : decode cX10_start 0 = .ok (.aload_n 0, 1) := by decide +kernel
theorem dX10_start_1 : decode cX10_start 1 = .ok (.iload_n 1, 1) := by decide +kernel
theorem dX10_start_2 : decode cX10_start 2 = .ok (.invokevirtual 78, 3) := by decide +kernel
theorem dX10_start_5 : decode cX10_start 5 = .ok (.ifCond .eq 22, 3) := by decide +kernel
theorem dX10_start_8 : decode cX10_start 8 = .ok (.iload_n 2, 1) := by decide +kernel
theorem dX10_start_9 : decode cX10_start 9 = .ok (.iconst 0, 1) := by decide +kernel
theorem dX10_start_10 : decode cX10_start 10 = .ok (.bipush 20, 2) := by decide +kernel
theorem dX10_start_12 : decode cX10_start 12 = .ok (.invokestatic 50, 3) := by decide +kernel
theorem dX10_start_15 : decode cX10_start 15 = .ok (.ifCond .eq 12, 3) := by decide +kernel
theorem dX10_start_18 : decode cX10_start 18 = .ok (.iload_n 3, 1) := by decide +kernel
theorem dX10_start_19 : decode cX10_start 19 = .ok (.iconst 0, 1) := by decide +kernel
theorem dX10_start_20 : decode cX10_start 20 = .ok (.iconst 1, 1) := by decide +kernel
theorem dX10_start_21 : decode cX10_start 21 = .ok (.invokestatic 50, 3) := by decide +kernel
theorem dX10_start_24 : decode cX10_start 24 = .ok (.ifCond .ne 10, 3) := by decide +kernel
theorem dX10_start_27 : decode cX10_start 27 = .ok (.aload_n 0, 1) := by decide +kernel
theorem dX10_start_28 : decode cX10_start 28 = .ok (.ldc 62, 2) := by decide +kernel
theorem dX10_start_30 : decode cX10_start 30 = .ok (.invokevirtual 63, 3) := by decide +kernel
theorem dX10_start_33 : decode cX10_start 33 = .ok (.ireturn, 1) := by decide +kernel
theorem dX10_start_34 : decode cX10_start 34 = .ok (.aload_n 0, 1) := by decide +kernel
theorem dX10_start_35 : decode cX10_start 35 = .ok (.iload_n 1, 1) := by decide +kernel
theorem dX10_start_36 : decode cX10_start 36 = .ok (.invokevirtual 70, 3) := by decide +kernel
theorem dX10_start_39 : decode cX10_start 39 = .ok (.istore 4, 2) := by decide +kernel
theorem dX10_start_41 : decode cX10_start 41 = .ok (.iconst 0, 1) := by decide +kernel
theorem dX10_start_42 : decode cX10_start 42 = .ok (.istore 5, 2) := by decide +kernel
theorem dX10_start_44 : decode cX10_start 44 = .ok (.iconst (-1), 1) := by decide +kernel
theorem dX10_start_45 : decode cX10_start 45 = .ok (.istore 6, 2) := by decide +kernel
theorem dX10_start_47 : decode cX10_start 47 = .ok (.iconst 0, 1) := by decide +kernel
theorem dX10_start_48 : decode cX10_start 48 = .ok (.istore 7, 2) := by decide +kernel
theorem dX10_start_50 : decode cX10_start 50 = .ok (.iload 7, 2) := by decide +kernel
theorem dX10_start_52 : decode cX10_start 52 = .ok (.bipush 10, 2) := by decide +kernel
theorem dX10_start_54 : decode cX10_start 54 = .ok (.if_icmp .ge 64, 3) := by decide +kernel
theorem dX10_start_57 : decode cX10_start 57 = .ok (.aload_n 0, 1) := by decide +kernel
theorem dX10_start_58 : decode cX10_start 58 = .ok (.getfield 7, 3) := by decide +kernel
theorem dX10_start_61 : decode cX10_start 61 = .ok (.bipush 18, 2) := by decide +kernel
theorem dX10_start_63 : decode cX10_start 63 = .ok (.iconst 2, 1) := by decide +kernel
theorem dX10_start_64 : decode cX10_start 64 = .ok (.iload_n 1, 1) := by decide +kernel
theorem dX10_start_65 : decode cX10_start 65 = .ok (.imul, 1) := by decide +kernel
theorem dX10_start_66 : decode cX10_start 66 = .ok (.iadd, 1) := by decide +kernel
theorem dX10_start_67 : decode cX10_start 67 = .ok (.iload 7, 2) := by decide +kernel
theorem dX10_start_69 : decode cX10_start 69 = .ok (.iastore, 1) := by decide +kernel
theorem dX10_start_70 : decode cX10_start 70 = .ok (.aload_n 0, 1) := by decide +kernel
theorem dX10_start_71 : decode cX10_start 71 = .ok (.iload_n 2, 1) := by decide +kernel
theorem dX10_start_72 : decode cX10_start 72 = .ok (.invokevirtual 205, 3) := by decide +kernel
theorem dX10_start_75 : decode cX10_start 75 = .ok (.invokestatic 173, 3) := by decide +kernel
theorem dX10_start_78 : decode cX10_start 78 = .ok (.istore 8, 2) := by decide +kernel
theorem dX10_start_80 : decode cX10_start 80 = .ok (.iload 8, 2) := by decide +kernel
theorem dX10_start_82 : decode cX10_start 82 = .ok (.iload 6, 2) := by decide +kernel
theorem dX10_start_84 : decode cX10_start 84 = .ok (.if_icmp .le 8, 3) := by decide +kernel
theorem dX10_start_87 : decode cX10_start 87 = .ok (.iload 7, 2) := by decide +kernel
theorem dX10_start_89 : decode cX10_start 89 = .ok (.goto 5, 3) := by decide +kernel
theorem dX10_start_92 : decode cX10_start 92 = .ok (.iload 5, 2) := by decide +kernel
theorem dX10_start_94 : decode cX10_start 94 = .ok (.istore 5, 2) := by decide +kernel
theorem dX10_start_96 : decode cX10_start 96 = .ok (.iload 8, 2) := by decide +kernel
theorem dX10_start_98 : decode cX10_start 98 = .ok (.iload 6, 2) := by decide +kernel
theorem dX10_start_100 : decode cX10_start 100 = .ok (.if_icmp .le 8, 3) := by decide +kernel
theorem dX10_start_103 : decode cX10_start 103 = .ok (.iload 8, 2) := by decide +kernel
theorem dX10_start_105 : decode cX10_start 105 = .ok (.goto 5, 3) := by decide +kernel
theorem dX10_start_108 : decode cX10_start 108 = .ok (.iload 6, 2) := by decide +kernel
theorem dX10_start_110 : decode cX10_start 110 = .ok (.istore 6, 2) := by decide +kernel
theorem dX10_start_112 : decode cX10_start 112 = .ok (.iinc 7 1, 3) := by decide +kernel
theorem dX10_start_115 : decode cX10_start 115 = .ok (.goto (-65), 3) := by decide +kernel
theorem dX10_start_118 : decode cX10_start 118 = .ok (.aload_n 0, 1) := by decide +kernel
theorem dX10_start_119 : decode cX10_start 119 = .ok (.getfield 7, 3) := by decide +kernel
theorem dX10_start_122 : decode cX10_start 122 = .ok (.bipush 18, 2) := by decide +kernel
theorem dX10_start_124 : decode cX10_start 124 = .ok (.iconst 2, 1) := by decide +kernel
theorem dX10_start_125 : decode cX10_start 125 = .ok (.iload_n 1, 1) := by decide +kernel
theorem dX10_start_126 : decode cX10_start 126 = .ok (.imul, 1) := by decide +kernel
theorem dX10_start_127 : decode cX10_start 127 = .ok (.iadd, 1) := by decide +kernel
theorem dX10_start_128 : decode cX10_start 128 = .ok (.iload 4, 2) := by decide +kernel
theorem dX10_start_130 : decode cX10_start 130 = .ok (.iastore, 1) := by decide +kernel
theorem dX10_start_131 : decode cX10_start 131 = .ok (.iload_n 3, 1) := by decide +kernel
theorem dX10_start_132 : decode cX10_start 132 = .ok (.ifCond .ne 8, 3) := by decide +kernel
theorem dX10_start_135 : decode cX10_start 135 = .ok (.iload 5, 2) := by decide +kernel
theorem dX10_start_137 : decode cX10_start 137 = .ok (.goto 5, 3) := by decide +kernel
theorem dX10_start_140 : decode cX10_start 140 = .ok (.iload 6, 2) := by decide +kernel
theorem dX10_start_142 : decode cX10_start 142 = .ok (.ireturn, 1) := by decide +kernel
theorem dX10_missed_0 : decode cX10_missed 0 = .ok (.iload_n 1, 1) := by decide +kernel
theorem dX10_missed_1 : decode cX10_missed 1 = .ok (.iconst 0, 1) := by decide +kernel
theorem dX10_missed_2 : decode cX10_missed 2 = .ok (.bipush 60, 2) := by decide +kernel
theorem dX10_missed_4 : decode cX10_missed 4 = .ok (.invokestatic 50, 3) := by decide +kernel
theorem dX10_missed_7 : decode cX10_missed 7 = .ok (.ifCond .eq 12, 3) := by decide +kernel
theorem dX10_missed_10 : decode cX10_missed 10 = .ok (.iload_n 2, 1) := by decide +kernel
theorem dX10_missed_11 : decode cX10_missed 11 = .ok (.iconst 0, 1) := by decide +kernel
theorem dX10_missed_12 : decode cX10_missed 12 = .ok (.iconst 1, 1) := by decide +kernel
theorem dX10_missed_13 : decode cX10_missed 13 = .ok (.invokestatic 50, 3) := by decide +kernel
theorem dX10_missed_16 : decode cX10_missed 16 = .ok (.ifCond .ne 10, 3) := by decide +kernel
theorem dX10_missed_19 : decode cX10_missed 19 = .ok (.aload_n 0, 1) := by decide +kernel
theorem dX10_missed_20 : decode cX10_missed 20 = .ok (.ldc 62, 2) := by decide +kernel
theorem dX10_missed_22 : decode cX10_missed 22 = .ok (.invokevirtual 63, 3) := by decide +kernel
theorem dX10_missed_25 : decode cX10_missed 25 = .ok (.ireturn, 1) := by decide +kernel
theorem dX10_missed_26 : decode cX10_missed 26 = .ok (.aload_n 0, 1) := by decide +kernel
theorem dX10_missed_27 : decode cX10_missed 27 = .ok (.getfield 7, 3) := by decide +kernel
theorem dX10_missed_30 : decode cX10_missed 30 = .ok (.iconst 3, 1) := by decide +kernel
theorem dX10_missed_31 : decode cX10_missed 31 = .ok (.iaload, 1) := by decide +kernel
theorem dX10_missed_32 : decode cX10_missed 32 = .ok (.ifCond .ne 10, 3) := by decide +kernel
theorem dX10_missed_35 : decode cX10_missed 35 = .ok (.aload_n 0, 1) := by decide +kernel
theorem dX10_missed_36 : decode cX10_missed 36 = .ok (.ldc 204, 2) := by decide +kernel
theorem dX10_missed_38 : decode cX10_missed 38 = .ok (.invokevirtual 63, 3) := by decide +kernel
theorem dX10_missed_41 : decode cX10_missed 41 = .ok (.ireturn, 1) := by decide +kernel
theorem dX10_missed_42 : decode cX10_missed 42 = .ok (.iconst 0, 1) := by decide +kernel
theorem dX10_missed_43 : decode cX10_missed 43 = .ok (.istore_n 3, 1) := by decide +kernel
theorem dX10_missed_44 : decode cX10_missed 44 = .ok (.bipush 8, 2) := by decide +kernel
theorem dX10_missed_46 : decode cX10_missed 46 = .ok (.istore 4, 2) := by decide +kernel
theorem dX10_missed_48 : decode cX10_missed 48 = .ok (.aload_n 0, 1) := by decide +kernel
theorem dX10_missed_49 : decode cX10_missed 49 = .ok (.aload_n 0, 1) := by decide +kernel
theorem dX10_missed_50 : decode cX10_missed 50 = .ok (.getfield 7, 3) := by decide +kernel
theorem dX10_missed_53 : decode cX10_missed 53 = .ok (.aload_n 0, 1) := by decide +kernel
theorem dX10_missed_54 : decode cX10_missed 54 = .ok (.getfield 16, 3) := by decide +kernel
theorem dX10_missed_57 : decode cX10_missed 57 = .ok (.invokevirtual 188, 3) := by decide +kernel
theorem dX10_missed_60 : decode cX10_missed 60 = .ok (.iconst 0, 1) := by decide +kernel
theorem dX10_missed_61 : decode cX10_missed 61 = .ok (.istore 5, 2) := by decide +kernel
theorem dX10_missed_63 : decode cX10_missed 63 = .ok (.iload 5, 2) := by decide +kernel
theorem dX10_missed_65 : decode cX10_missed 65 = .ok (.aload_n 0, 1) := by decide +kernel
theorem dX10_missed_66 : decode cX10_missed 66 = .ok (.getfield 16, 3) := by decide +kernel
theorem dX10_missed_69 : decode cX10_missed 69 = .ok (.iconst 3, 1) := by decide +kernel
theorem dX10_missed_70 : decode cX10_missed 70 = .ok (.iaload, 1) := by decide +kernel
theorem dX10_missed_71 : decode cX10_missed 71 = .ok (.if_icmp .ge 106, 3) := by decide +kernel
theorem dX10_missed_74 : decode cX10_missed 74 = .ok (.iconst 0, 1) := by decide +kernel
theorem dX10_missed_75 : decode cX10_missed 75 = .ok (.istore 6, 2) := by decide +kernel
theorem dX10_missed_77 : decode cX10_missed 77 = .ok (.iload 6, 2) := by decide +kernel
theorem dX10_missed_79 : decode cX10_missed 79 = .ok (.aload_n 0, 1) := by decide +kernel
theorem dX10_missed_80 : decode cX10_missed 80 = .ok (.getfield 7, 3) := by decide +kernel
theorem dX10_missed_83 : decode cX10_missed 83 = .ok (.iconst 2, 1) := by decide +kernel
theorem dX10_missed_84 : decode cX10_missed 84 = .ok (.iaload, 1) := by decide +kernel
theorem dX10_missed_85 : decode cX10_missed 85 = .ok (.if_icmp .ge 30, 3) := by decide +kernel
theorem dX10_missed_88 : decode cX10_missed 88 = .ok (.aload_n 0, 1) := by decide +kernel
theorem dX10_missed_89 : decode cX10_missed 89 = .ok (.iload 6, 2) := by decide +kernel
theorem dX10_missed_91 : decode cX10_missed 91 = .ok (.iconst 4, 1) := by decide +kernel
theorem dX10_missed_92 : decode cX10_missed 92 = .ok (.aload_n 0, 1) := by decide +kernel
theorem dX10_missed_93 : decode cX10_missed 93 = .ok (.iload 6, 2) := by decide +kernel
theorem dX10_missed_95 : decode cX10_missed 95 = .ok (.iconst 4, 1) := by decide +kernel
theorem dX10_missed_96 : decode cX10_missed 96 = .ok (.invokevirtual 67, 3) := by decide +kernel
theorem dX10_missed_99 : decode cX10_missed 99 = .ok (.iconst 1, 1) := by decide +kernel
theorem dX10_missed_100 : decode cX10_missed 100 = .ok (.iload 5, 2) := by decide +kernel
theorem dX10_missed_102 : decode cX10_missed 102 = .ok (.ishl, 1) := by decide +kernel
theorem dX10_missed_103 : decode cX10_missed 103 = .ok (.iconst (-1), 1) := by decide +kernel
theorem dX10_missed_104 : decode cX10_missed 104 = .ok (.ixor, 1) := by decide +kernel
theorem dX10_missed_105 : decode cX10_missed 105 = .ok (.iand, 1) := by decide +kernel
theorem dX10_missed_106 : decode cX10_missed 106 = .ok (.invokevirtual 87, 3) := by decide +kernel
theorem dX10_missed_109 : decode cX10_missed 109 = .ok (.iinc 6 1, 3) := by decide +kernel
theorem dX10_missed_112 : decode cX10_missed 112 = .ok (.goto (-35), 3) := by decide +kernel
theorem dX10_missed_115 : decode cX10_missed 115 = .ok (.aload_n 0, 1) := by decide +kernel
theorem dX10_missed_116 : decode cX10_missed 116 = .ok (.iload_n 1, 1) := by decide +kernel
theorem dX10_missed_117 : decode cX10_missed 117 = .ok (.invokevirtual 192, 3) := by decide +kernel
theorem dX10_missed_120 : decode cX10_missed 120 = .ok (.aload_n 0, 1) := by decide +kernel
theorem dX10_missed_121 : decode cX10_missed 121 = .ok (.invokevirtual 195, 3) := by decide +kernel
theorem dX10_missed_124 : decode cX10_missed 124 = .ok (.invokestatic 173, 3) := by decide +kernel
theorem dX10_missed_127 : decode cX10_missed 127 = .ok (.istore 6, 2) := by decide +kernel
theorem dX10_missed_129 : decode cX10_missed 129 = .ok (.aload_n 0, 1) := by decide +kernel
theorem dX10_missed_130 : decode cX10_missed 130 = .ok (.aload_n 0, 1) := by decide +kernel
theorem dX10_missed_131 : decode cX10_missed 131 = .ok (.getfield 16, 3) := by decide +kernel
theorem dX10_missed_134 : decode cX10_missed 134 = .ok (.aload_n 0, 1) := by decide +kernel
theorem dX10_missed_135 : decode cX10_missed 135 = .ok (.getfield 7, 3) := by decide +kernel
theorem dX10_missed_138 : decode cX10_missed 138 = .ok (.invokevirtual 188, 3) := by decide +kernel
theorem dX10_missed_141 : decode cX10_missed 141 = .ok (.iload 6, 2) := by decide +kernel
theorem dX10_missed_143 : decode cX10_missed 143 = .ok (.iload 4, 2) := by decide +kernel
theorem dX10_missed_145 : decode cX10_missed 145 = .ok (.if_icmp .ge 8, 3) := by decide +kernel
theorem dX10_missed_148 : decode cX10_missed 148 = .ok (.iload 5, 2) := by decide +kernel
theorem dX10_missed_150 : decode cX10_missed 150 = .ok (.goto 4, 3) := by decide +kernel
theorem dX10_missed_153 : decode cX10_missed 153 = .ok (.iload_n 3, 1) := by decide +kernel
theorem dX10_missed_154 : decode cX10_missed 154 = .ok (.istore_n 3, 1) := by decide +kernel
theorem dX10_missed_155 : decode cX10_missed 155 = .ok (.iload 6, 2) := by decide +kernel
theorem dX10_missed_157 : decode cX10_missed 157 = .ok (.iload 4, 2) := by decide +kernel
theorem dX10_missed_159 : decode cX10_missed 159 = .ok (.if_icmp .ge 8, 3) := by decide +kernel
theorem dX10_missed_162 : decode cX10_missed 162 = .ok (.iload 6, 2) := by decide +kernel
theorem dX10_missed_164 : decode cX10_missed 164 = .ok (.goto 5, 3) := by decide +kernel
theorem dX10_missed_167 : decode cX10_missed 167 = .ok (.iload 4, 2) := by decide +kernel
theorem dX10_missed_169 : decode cX10_missed 169 = .ok (.istore 4, 2) := by decide +kernel
theorem dX10_missed_171 : decode cX10_missed 171 = .ok (.iinc 5 1, 3) := by decide +kernel
theorem dX10_missed_174 : decode cX10_missed 174 = .ok (.goto (-111), 3) := by decide +kernel
theorem dX10_missed_177 : decode cX10_missed 177 = .ok (.iload_n 2, 1) := by decide +kernel
theorem dX10_missed_178 : decode cX10_missed 178 = .ok (.ifCond .ne 7, 3) := by decide +kernel
theorem dX10_missed_181 : decode cX10_missed 181 = .ok (.iload_n 3, 1) := by decide +kernel
theorem dX10_missed_182 : decode cX10_missed 182 = .ok (.goto 5, 3) := by decide +kernel
theorem dX10_missed_185 : decode cX10_missed 185 = .ok (.iload 4, 2) := by decide +kernel
theorem dX10_missed_187 : decode cX10_missed 187 = .ok (.ireturn, 1) := by decide +kernel
theorem dX10_nobody_0 : decode cX10_nobody 0 = .ok (.iconst 0, 1) := by decide +kernel
theorem dX10_nobody_1 : decode cX10_nobody 1 = .ok (.istore_n 1, 1) := by decide +kernel
theorem dX10_nobody_2 : decode cX10_nobody 2 = .ok (.iconst 0, 1) := by decide +kernel
theorem dX10_nobody_3 : decode cX10_nobody 3 = .ok (.istore_n 2, 1) := by decide +kernel
theorem dX10_nobody_4 : decode cX10_nobody 4 = .ok (.iload_n 2, 1) := by decide +kernel
theorem dX10_nobody_5 : decode cX10_nobody 5 = .ok (.aload_n 0, 1) := by decide +kernel
theorem dX10_nobody_6 : decode cX10_nobody 6 = .ok (.getfield 7, 3) := by decide +kernel
theorem dX10_nobody_9 : decode cX10_nobody 9 = .ok (.iconst 2, 1) := by decide +kernel
theorem dX10_nobody_10 : decode cX10_nobody 10 = .ok (.iaload, 1) := by decide +kernel
theorem dX10_nobody_11 : decode cX10_nobody 11 = .ok (.if_icmp .ge 36, 3) := by decide +kernel
theorem dX10_nobody_14 : decode cX10_nobody 14 = .ok (.iload_n 1, 1) := by decide +kernel
theorem dX10_nobody_15 : decode cX10_nobody 15 = .ok (.aload_n 0, 1) := by decide +kernel
theorem dX10_nobody_16 : decode cX10_nobody 16 = .ok (.iload_n 2, 1) := by decide +kernel
theorem dX10_nobody_17 : decode cX10_nobody 17 = .ok (.iconst 5, 1) := by decide +kernel
theorem dX10_nobody_18 : decode cX10_nobody 18 = .ok (.invokevirtual 67, 3) := by decide +kernel
theorem dX10_nobody_21 : decode cX10_nobody 21 = .ok (.ifCond .ne 17, 3) := by decide +kernel
theorem dX10_nobody_24 : decode cX10_nobody 24 = .ok (.aload_n 0, 1) := by decide +kernel
theorem dX10_nobody_25 : decode cX10_nobody 25 = .ok (.iload_n 2, 1) := by decide +kernel
theorem dX10_nobody_26 : decode cX10_nobody 26 = .ok (.invokevirtual 179, 3) := by decide +kernel
theorem dX10_nobody_29 : decode cX10_nobody 29 = .ok (.ifCond .ne 9, 3) := by decide +kernel
theorem dX10_nobody_32 : decode cX10_nobody 32 = .ok (.iconst 1, 1) := by decide +kernel
theorem dX10_nobody_33 : decode cX10_nobody 33 = .ok (.iload_n 2, 1) := by decide +kernel
theorem dX10_nobody_34 : decode cX10_nobody 34 = .ok (.ishl, 1) := by decide +kernel
theorem dX10_nobody_35 : decode cX10_nobody 35 = .ok (.goto 4, 3) := by decide +kernel
theorem dX10_nobody_38 : decode cX10_nobody 38 = .ok (.iconst 0, 1) := by decide +kernel
theorem dX10_nobody_39 : decode cX10_nobody 39 = .ok (.ior, 1) := by decide +kernel
theorem dX10_nobody_40 : decode cX10_nobody 40 = .ok (.istore_n 1, 1) := by decide +kernel
theorem dX10_nobody_41 : decode cX10_nobody 41 = .ok (.iinc 2 1, 3) := by decide +kernel
theorem dX10_nobody_44 : decode cX10_nobody 44 = .ok (.goto (-40), 3) := by decide +kernel
theorem dX10_nobody_47 : decode cX10_nobody 47 = .ok (.iconst 0, 1) := by decide +kernel
theorem dX10_nobody_48 : decode cX10_nobody 48 = .ok (.istore_n 2, 1) := by decide +kernel
theorem dX10_nobody_49 : decode cX10_nobody 49 = .ok (.iload_n 2, 1) := by decide +kernel
theorem dX10_nobody_50 : decode cX10_nobody 50 = .ok (.aload_n 0, 1) := by decide +kernel
theorem dX10_nobody_51 : decode cX10_nobody 51 = .ok (.getfield 7, 3) := by decide +kernel
theorem dX10_nobody_54 : decode cX10_nobody 54 = .ok (.iconst 3, 1) := by decide +kernel
theorem dX10_nobody_55 : decode cX10_nobody 55 = .ok (.iaload, 1) := by decide +kernel
theorem dX10_nobody_56 : decode cX10_nobody 56 = .ok (.if_icmp .ge 31, 3) := by decide +kernel
theorem dX10_nobody_59 : decode cX10_nobody 59 = .ok (.aload_n 0, 1) := by decide +kernel
theorem dX10_nobody_60 : decode cX10_nobody 60 = .ok (.iload_n 2, 1) := by decide +kernel
theorem dX10_nobody_61 : decode cX10_nobody 61 = .ok (.invokevirtual 81, 3) := by decide +kernel
theorem dX10_nobody_64 : decode cX10_nobody 64 = .ok (.istore_n 3, 1) := by decide +kernel
theorem dX10_nobody_65 : decode cX10_nobody 65 = .ok (.iload_n 1, 1) := by decide +kernel
theorem dX10_nobody_66 : decode cX10_nobody 66 = .ok (.iload_n 3, 1) := by decide +kernel
theorem dX10_nobody_67 : decode cX10_nobody 67 = .ok (.ifCond .ge 7, 3) := by decide +kernel
theorem dX10_nobody_70 : decode cX10_nobody 70 = .ok (.iconst (-1), 1) := by decide +kernel
theorem dX10_nobody_71 : decode cX10_nobody 71 = .ok (.goto 8, 3) := by decide +kernel
theorem dX10_nobody_74 : decode cX10_nobody 74 = .ok (.iconst 1, 1) := by decide +kernel
theorem dX10_nobody_75 : decode cX10_nobody 75 = .ok (.iload_n 3, 1) := by decide +kernel
theorem dX10_nobody_76 : decode cX10_nobody 76 = .ok (.ishl, 1) := by decide +kernel
theorem dX10_nobody_77 : decode cX10_nobody 77 = .ok (.iconst (-1), 1) := by decide +kernel
theorem dX10_nobody_78 : decode cX10_nobody 78 = .ok (.ixor, 1) := by decide +kernel
theorem dX10_nobody_79 : decode cX10_nobody 79 = .ok (.iand, 1) := by decide +kernel
theorem dX10_nobody_80 : decode cX10_nobody 80 = .ok (.istore_n 1, 1) := by decide +kernel
theorem dX10_nobody_81 : decode cX10_nobody 81 = .ok (.iinc 2 1, 3) := by decide +kernel
theorem dX10_nobody_84 : decode cX10_nobody 84 = .ok (.goto (-35), 3) := by decide +kernel
theorem dX10_nobody_87 : decode cX10_nobody 87 = .ok (.iload_n 1, 1) := by decide +kernel
theorem dX10_nobody_88 : decode cX10_nobody 88 = .ok (.ireturn, 1) := by decide +kernel
theorem dX10_isSheet_0 : decode cX10_isSheet 0 = .ok (.iload_n 0, 1) := by decide +kernel
theorem dX10_isSheet_1 : decode cX10_isSheet 1 = .ok (.iconst 0, 1) := by decide +kernel
theorem dX10_isSheet_2 : decode cX10_isSheet 2 = .ok (.iconst 3, 1) := by decide +kernel
theorem dX10_isSheet_3 : decode cX10_isSheet 3 = .ok (.invokestatic 50, 3) := by decide +kernel
theorem dX10_isSheet_6 : decode cX10_isSheet 6 = .ok (.ireturn, 1) := by decide +kernel
theorem dX10_isSnowSo_0 : decode cX10_isSnowSo 0 = .ok (.iconst 1, 1) := by decide +kernel
theorem dX10_isSnowSo_1 : decode cX10_isSnowSo 1 = .ok (.istore_n 2, 1) := by decide +kernel
theorem dX10_isSnowSo_2 : decode cX10_isSnowSo 2 = .ok (.aload_n 0, 1) := by decide +kernel
theorem dX10_isSnowSo_3 : decode cX10_isSnowSo 3 = .ok (.aload_n 0, 1) := by decide +kernel
theorem dX10_isSnowSo_4 : decode cX10_isSnowSo 4 = .ok (.getfield 7, 3) := by decide +kernel
theorem dX10_isSnowSo_7 : decode cX10_isSnowSo 7 = .ok (.aload_n 0, 1) := by decide +kernel
theorem dX10_isSnowSo_8 : decode cX10_isSnowSo 8 = .ok (.getfield 16, 3) := by decide +kernel
theorem dX10_isSnowSo_11 : decode cX10_isSnowSo 11 = .ok (.invokevirtual 188, 3) := by decide +kernel
theorem dX10_isSnowSo_14 : decode cX10_isSnowSo 14 = .ok (.aload_n 0, 1) := by decide +kernel
theorem dX10_isSnowSo_15 : decode cX10_isSnowSo 15 = .ok (.invokevirtual 185, 3) := by decide +kernel
theorem dX10_isSnowSo_18 : decode cX10_isSnowSo 18 = .ok (.iconst 0, 1) := by decide +kernel
theorem dX10_isSnowSo_19 : decode cX10_isSnowSo 19 = .ok (.istore_n 3, 1) := by decide +kernel
theorem dX10_isSnowSo_20 : decode cX10_isSnowSo 20 = .ok (.iload_n 3, 1) := by decide +kernel
theorem dX10_isSnowSo_21 : decode cX10_isSnowSo 21 = .ok (.bipush 10, 2) := by decide +kernel
theorem dX10_isSnowSo_23 : decode cX10_isSnowSo 23 = .ok (.if_icmp .ge 42, 3) := by decide +kernel
theorem dX10_isSnowSo_26 : decode cX10_isSnowSo 26 = .ok (.iload_n 2, 1) := by decide +kernel
theorem dX10_isSnowSo_27 : decode cX10_isSnowSo 27 = .ok (.ifCond .eq 30, 3) := by decide +kernel
theorem dX10_isSnowSo_30 : decode cX10_isSnowSo 30 = .ok (.aload_n 0, 1) := by decide +kernel
theorem dX10_isSnowSo_31 : decode cX10_isSnowSo 31 = .ok (.getfield 7, 3) := by decide +kernel
theorem dX10_isSnowSo_34 : decode cX10_isSnowSo 34 = .ok (.bipush 8, 2) := by decide +kernel
theorem dX10_isSnowSo_36 : decode cX10_isSnowSo 36 = .ok (.iload_n 3, 1) := by decide +kernel
theorem dX10_isSnowSo_37 : decode cX10_isSnowSo 37 = .ok (.iadd, 1) := by decide +kernel
theorem dX10_isSnowSo_38 : decode cX10_isSnowSo 38 = .ok (.iaload, 1) := by decide +kernel
theorem dX10_isSnowSo_39 : decode cX10_isSnowSo 39 = .ok (.aload_n 0, 1) := by decide +kernel
theorem dX10_isSnowSo_40 : decode cX10_isSnowSo 40 = .ok (.getfield 40, 3) := by decide +kernel
theorem dX10_isSnowSo_43 : decode cX10_isSnowSo 43 = .ok (.bipush 40, 2) := by decide +kernel
theorem dX10_isSnowSo_45 : decode cX10_isSnowSo 45 = .ok (.iload_n 1, 1) := by decide +kernel
theorem dX10_isSnowSo_46 : decode cX10_isSnowSo 46 = .ok (.imul, 1) := by decide +kernel
theorem dX10_isSnowSo_47 : decode cX10_isSnowSo 47 = .ok (.iload_n 3, 1) := by decide +kernel
theorem dX10_isSnowSo_48 : decode cX10_isSnowSo 48 = .ok (.iadd, 1) := by decide +kernel
theorem dX10_isSnowSo_49 : decode cX10_isSnowSo 49 = .ok (.iaload, 1) := by decide +kernel
theorem dX10_isSnowSo_50 : decode cX10_isSnowSo 50 = .ok (.if_icmp .ne 7, 3) := by decide +kernel
theorem dX10_isSnowSo_53 : decode cX10_isSnowSo 53 = .ok (.iconst 1, 1) := by decide +kernel
theorem dX10_isSnowSo_54 : decode cX10_isSnowSo 54 = .ok (.goto 4, 3) := by decide +kernel
theorem dX10_isSnowSo_57 : decode cX10_isSnowSo 57 = .ok (.iconst 0, 1) := by decide +kernel
theorem dX10_isSnowSo_58 : decode cX10_isSnowSo 58 = .ok (.istore_n 2, 1) := by decide +kernel
theorem dX10_isSnowSo_59 : decode cX10_isSnowSo 59 = .ok (.iinc 3 1, 3) := by decide +kernel
theorem dX10_isSnowSo_62 : decode cX10_isSnowSo 62 = .ok (.goto (-42), 3) := by decide +kernel
theorem dX10_isSnowSo_65 : decode cX10_isSnowSo 65 = .ok (.aload_n 0, 1) := by decide +kernel
theorem dX10_isSnowSo_66 : decode cX10_isSnowSo 66 = .ok (.aload_n 0, 1) := by decide +kernel
theorem dX10_isSnowSo_67 : decode cX10_isSnowSo 67 = .ok (.getfield 16, 3) := by decide +kernel
theorem dX10_isSnowSo_70 : decode cX10_isSnowSo 70 = .ok (.aload_n 0, 1) := by decide +kernel
theorem dX10_isSnowSo_71 : decode cX10_isSnowSo 71 = .ok (.getfield 7, 3) := by decide +kernel
theorem dX10_isSnowSo_74 : decode cX10_isSnowSo 74 = .ok (.invokevirtual 188, 3) := by decide +kernel
theorem dX10_isSnowSo_77 : decode cX10_isSnowSo 77 = .ok (.iload_n 2, 1) := by decide +kernel
theorem dX10_isSnowSo_78 : decode cX10_isSnowSo 78 = .ok (.ireturn, 1) := by decide +kernel
theorem dX10_lies_0 : decode cX10_lies 0 = .ok (.iload_n 1, 1) := by decide +kernel
theorem dX10_lies_1 : decode cX10_lies 1 = .ok (.invokestatic 208, 3) := by decide +kernel
theorem dX10_lies_4 : decode cX10_lies 4 = .ok (.ifCond .eq 20, 3) := by decide +kernel
theorem dX10_lies_7 : decode cX10_lies 7 = .ok (.aload_n 0, 1) := by decide +kernel
theorem dX10_lies_8 : decode cX10_lies 8 = .ok (.iload_n 2, 1) := by decide +kernel
theorem dX10_lies_9 : decode cX10_lies 9 = .ok (.invokevirtual 91, 3) := by decide +kernel
theorem dX10_lies_12 : decode cX10_lies 12 = .ok (.ifCond .eq 12, 3) := by decide +kernel
theorem dX10_lies_15 : decode cX10_lies 15 = .ok (.iload_n 3, 1) := by decide +kernel
theorem dX10_lies_16 : decode cX10_lies 16 = .ok (.iconst 0, 1) := by decide +kernel
theorem dX10_lies_17 : decode cX10_lies 17 = .ok (.iconst 1, 1) := by decide +kernel
theorem dX10_lies_18 : decode cX10_lies 18 = .ok (.invokestatic 50, 3) := by decide +kernel
theorem dX10_lies_21 : decode cX10_lies 21 = .ok (.ifCond .ne 10, 3) := by decide +kernel
theorem dX10_lies_24 : decode cX10_lies 24 = .ok (.aload_n 0, 1) := by decide +kernel
theorem dX10_lies_25 : decode cX10_lies 25 = .ok (.ldc 62, 2) := by decide +kernel
theorem dX10_lies_27 : decode cX10_lies 27 = .ok (.invokevirtual 63, 3) := by decide +kernel
theorem dX10_lies_30 : decode cX10_lies 30 = .ok (.ireturn, 1) := by decide +kernel
theorem dX10_lies_31 : decode cX10_lies 31 = .ok (.aload_n 0, 1) := by decide +kernel
theorem dX10_lies_32 : decode cX10_lies 32 = .ok (.getfield 34, 3) := by decide +kernel
theorem dX10_lies_35 : decode cX10_lies 35 = .ok (.iload_n 1, 1) := by decide +kernel
theorem dX10_lies_36 : decode cX10_lies 36 = .ok (.iaload, 1) := by decide +kernel
theorem dX10_lies_37 : decode cX10_lies 37 = .ok (.ifCond .eq 14, 3) := by decide +kernel
theorem dX10_lies_40 : decode cX10_lies 40 = .ok (.aload_n 0, 1) := by decide +kernel
theorem dX10_lies_41 : decode cX10_lies 41 = .ok (.getfield 37, 3) := by decide +kernel
theorem dX10_lies_44 : decode cX10_lies 44 = .ok (.iload_n 1, 1) := by decide +kernel
theorem dX10_lies_45 : decode cX10_lies 45 = .ok (.iaload, 1) := by decide +kernel
theorem dX10_lies_46 : decode cX10_lies 46 = .ok (.bipush 10, 2) := by decide +kernel
theorem dX10_lies_48 : decode cX10_lies 48 = .ok (.if_icmp .eq 10, 3) := by decide +kernel
theorem dX10_lies_51 : decode cX10_lies 51 = .ok (.aload_n 0, 1) := by decide +kernel
theorem dX10_lies_52 : decode cX10_lies 52 = .ok (.ldc 204, 2) := by decide +kernel
theorem dX10_lies_54 : decode cX10_lies 54 = .ok (.invokevirtual 63, 3) := by decide +kernel
theorem dX10_lies_57 : decode cX10_lies 57 = .ok (.ireturn, 1) := by decide +kernel
theorem dX10_lies_58 : decode cX10_lies 58 = .ok (.aload_n 0, 1) := by decide +kernel
theorem dX10_lies_59 : decode cX10_lies 59 = .ok (.iload_n 2, 1) := by decide +kernel
theorem dX10_lies_60 : decode cX10_lies 60 = .ok (.iconst 2, 1) := by decide +kernel
theorem dX10_lies_61 : decode cX10_lies 61 = .ok (.invokevirtual 67, 3) := by decide +kernel
theorem dX10_lies_64 : decode cX10_lies 64 = .ok (.istore 4, 2) := by decide +kernel
theorem dX10_lies_66 : decode cX10_lies 66 = .ok (.iconst 0, 1) := by decide +kernel
theorem dX10_lies_67 : decode cX10_lies 67 = .ok (.istore 5, 2) := by decide +kernel
theorem dX10_lies_69 : decode cX10_lies 69 = .ok (.iconst 0, 1) := by decide +kernel
theorem dX10_lies_70 : decode cX10_lies 70 = .ok (.istore 6, 2) := by decide +kernel
theorem dX10_lies_72 : decode cX10_lies 72 = .ok (.iload 6, 2) := by decide +kernel
theorem dX10_lies_74 : decode cX10_lies 74 = .ok (.bipush 10, 2) := by decide +kernel
theorem dX10_lies_76 : decode cX10_lies 76 = .ok (.if_icmp .ge 38, 3) := by decide +kernel
theorem dX10_lies_79 : decode cX10_lies 79 = .ok (.aload_n 0, 1) := by decide +kernel
theorem dX10_lies_80 : decode cX10_lies 80 = .ok (.iload_n 2, 1) := by decide +kernel
theorem dX10_lies_81 : decode cX10_lies 81 = .ok (.iconst 2, 1) := by decide +kernel
theorem dX10_lies_82 : decode cX10_lies 82 = .ok (.iload 6, 2) := by decide +kernel
theorem dX10_lies_84 : decode cX10_lies 84 = .ok (.invokevirtual 87, 3) := by decide +kernel
theorem dX10_lies_87 : decode cX10_lies 87 = .ok (.iload 5, 2) := by decide +kernel
theorem dX10_lies_89 : decode cX10_lies 89 = .ok (.aload_n 0, 1) := by decide +kernel
theorem dX10_lies_90 : decode cX10_lies 90 = .ok (.iload_n 1, 1) := by decide +kernel
theorem dX10_lies_91 : decode cX10_lies 91 = .ok (.invokevirtual 211, 3) := by decide +kernel
theorem dX10_lies_94 : decode cX10_lies 94 = .ok (.ifCond .eq 10, 3) := by decide +kernel
theorem dX10_lies_97 : decode cX10_lies 97 = .ok (.iconst 1, 1) := by decide +kernel
theorem dX10_lies_98 : decode cX10_lies 98 = .ok (.iload 6, 2) := by decide +kernel
theorem dX10_lies_100 : decode cX10_lies 100 = .ok (.ishl, 1) := by decide +kernel
theorem dX10_lies_101 : decode cX10_lies 101 = .ok (.goto 4, 3) := by decide +kernel
theorem dX10_lies_104 : decode cX10_lies 104 = .ok (.iconst 0, 1) := by decide +kernel
theorem dX10_lies_105 : decode cX10_lies 105 = .ok (.ior, 1) := by decide +kernel
theorem dX10_lies_106 : decode cX10_lies 106 = .ok (.istore 5, 2) := by decide +kernel
theorem dX10_lies_108 : decode cX10_lies 108 = .ok (.iinc 6 1, 3) := by decide +kernel
theorem dX10_lies_111 : decode cX10_lies 111 = .ok (.goto (-39), 3) := by decide +kernel
theorem dX10_lies_114 : decode cX10_lies 114 = .ok (.aload_n 0, 1) := by decide +kernel
theorem dX10_lies_115 : decode cX10_lies 115 = .ok (.iload_n 2, 1) := by decide +kernel
theorem dX10_lies_116 : decode cX10_lies 116 = .ok (.iconst 2, 1) := by decide +kernel
theorem dX10_lies_117 : decode cX10_lies 117 = .ok (.iload 4, 2) := by decide +kernel
theorem dX10_lies_119 : decode cX10_lies 119 = .ok (.invokevirtual 87, 3) := by decide +kernel
theorem dX10_lies_122 : decode cX10_lies 122 = .ok (.iload_n 3, 1) := by decide +kernel
theorem dX10_lies_123 : decode cX10_lies 123 = .ok (.ifCond .ne 8, 3) := by decide +kernel
theorem dX10_lies_126 : decode cX10_lies 126 = .ok (.iload 5, 2) := by decide +kernel
theorem dX10_lies_128 : decode cX10_lies 128 = .ok (.goto 8, 3) := by decide +kernel
theorem dX10_lies_131 : decode cX10_lies 131 = .ok (.iload 5, 2) := by decide +kernel
theorem dX10_lies_133 : decode cX10_lies 133 = .ok (.invokestatic 173, 3) := by decide +kernel
theorem dX10_lies_136 : decode cX10_lies 136 = .ok (.ireturn, 1) := by decide +kernel
theorem dX10_order_0 : decode cX10_order 0 = .ok (.iload_n 1, 1) := by decide +kernel
theorem dX10_order_1 : decode cX10_order 1 = .ok (.invokestatic 208, 3) := by decide +kernel
theorem dX10_order_4 : decode cX10_order 4 = .ok (.ifCond .ne 10, 3) := by decide +kernel
theorem dX10_order_7 : decode cX10_order 7 = .ok (.aload_n 0, 1) := by decide +kernel
theorem dX10_order_8 : decode cX10_order 8 = .ok (.ldc 62, 2) := by decide +kernel
theorem dX10_order_10 : decode cX10_order 10 = .ok (.invokevirtual 63, 3) := by decide +kernel
theorem dX10_order_13 : decode cX10_order 13 = .ok (.ireturn, 1) := by decide +kernel
theorem dX10_order_14 : decode cX10_order 14 = .ok (.aload_n 0, 1) := by decide +kernel
theorem dX10_order_15 : decode cX10_order 15 = .ok (.getfield 34, 3) := by decide +kernel
theorem dX10_order_18 : decode cX10_order 18 = .ok (.iload_n 1, 1) := by decide +kernel
theorem dX10_order_19 : decode cX10_order 19 = .ok (.iaload, 1) := by decide +kernel
theorem dX10_order_20 : decode cX10_order 20 = .ok (.ifCond .ne 10, 3) := by decide +kernel
theorem dX10_order_23 : decode cX10_order 23 = .ok (.aload_n 0, 1) := by decide +kernel
theorem dX10_order_24 : decode cX10_order 24 = .ok (.ldc 204, 2) := by decide +kernel
theorem dX10_order_26 : decode cX10_order 26 = .ok (.invokevirtual 63, 3) := by decide +kernel
theorem dX10_order_29 : decode cX10_order 29 = .ok (.ireturn, 1) := by decide +kernel
theorem dX10_order_30 : decode cX10_order 30 = .ok (.iconst 0, 1) := by decide +kernel
theorem dX10_order_31 : decode cX10_order 31 = .ok (.istore_n 2, 1) := by decide +kernel
theorem dX10_order_32 : decode cX10_order 32 = .ok (.iconst 1, 1) := by decide +kernel
theorem dX10_order_33 : decode cX10_order 33 = .ok (.istore_n 3, 1) := by decide +kernel
theorem dX10_order_34 : decode cX10_order 34 = .ok (.aload_n 0, 1) := by decide +kernel
theorem dX10_order_35 : decode cX10_order 35 = .ok (.aload_n 0, 1) := by decide +kernel
theorem dX10_order_36 : decode cX10_order 36 = .ok (.getfield 7, 3) := by decide +kernel
theorem dX10_order_39 : decode cX10_order 39 = .ok (.aload_n 0, 1) := by decide +kernel
theorem dX10_order_40 : decode cX10_order 40 = .ok (.getfield 16, 3) := by decide +kernel
theorem dX10_order_43 : decode cX10_order 43 = .ok (.invokevirtual 188, 3) := by decide +kernel
theorem dX10_order_46 : decode cX10_order 46 = .ok (.iconst 0, 1) := by decide +kernel
theorem dX10_order_47 : decode cX10_order 47 = .ok (.istore 4, 2) := by decide +kernel
theorem dX10_order_49 : decode cX10_order 49 = .ok (.iload 4, 2) := by decide +kernel
theorem dX10_order_51 : decode cX10_order 51 = .ok (.bipush 60, 2) := by decide +kernel
theorem dX10_order_53 : decode cX10_order 53 = .ok (.if_icmp .ge 100, 3) := by decide +kernel
theorem dX10_order_56 : decode cX10_order 56 = .ok (.iload_n 3, 1) := by decide +kernel
theorem dX10_order_57 : decode cX10_order 57 = .ok (.ifCond .eq 96, 3) := by decide +kernel
theorem dX10_order_60 : decode cX10_order 60 = .ok (.aload_n 0, 1) := by decide +kernel
theorem dX10_order_61 : decode cX10_order 61 = .ok (.invokevirtual 185, 3) := by decide +kernel
theorem dX10_order_64 : decode cX10_order 64 = .ok (.iconst 0, 1) := by decide +kernel
theorem dX10_order_65 : decode cX10_order 65 = .ok (.istore 5, 2) := by decide +kernel
theorem dX10_order_67 : decode cX10_order 67 = .ok (.iload 5, 2) := by decide +kernel
theorem dX10_order_69 : decode cX10_order 69 = .ok (.aload_n 0, 1) := by decide +kernel
theorem dX10_order_70 : decode cX10_order 70 = .ok (.getfield 7, 3) := by decide +kernel
theorem dX10_order_73 : decode cX10_order 73 = .ok (.iconst 3, 1) := by decide +kernel
theorem dX10_order_74 : decode cX10_order 74 = .ok (.iaload, 1) := by decide +kernel
theorem dX10_order_75 : decode cX10_order 75 = .ok (.if_icmp .ge 72, 3) := by decide +kernel
theorem dX10_order_78 : decode cX10_order 78 = .ok (.iload_n 3, 1) := by decide +kernel
theorem dX10_order_79 : decode cX10_order 79 = .ok (.ifCond .eq 68, 3) := by decide +kernel
theorem dX10_order_82 : decode cX10_order 82 = .ok (.aload_n 0, 1) := by decide +kernel
theorem dX10_order_83 : decode cX10_order 83 = .ok (.getfield 31, 3) := by decide +kernel
theorem dX10_order_86 : decode cX10_order 86 = .ok (.iload 5, 2) := by decide +kernel
theorem dX10_order_88 : decode cX10_order 88 = .ok (.iaload, 1) := by decide +kernel
theorem dX10_order_89 : decode cX10_order 89 = .ok (.ifCond .lt 52, 3) := by decide +kernel
theorem dX10_order_92 : decode cX10_order 92 = .ok (.iload_n 2, 1) := by decide +kernel
theorem dX10_order_93 : decode cX10_order 93 = .ok (.aload_n 0, 1) := by decide +kernel
theorem dX10_order_94 : decode cX10_order 94 = .ok (.getfield 37, 3) := by decide +kernel
theorem dX10_order_97 : decode cX10_order 97 = .ok (.iload_n 1, 1) := by decide +kernel
theorem dX10_order_98 : decode cX10_order 98 = .ok (.iaload, 1) := by decide +kernel
theorem dX10_order_99 : decode cX10_order 99 = .ok (.if_icmp .ge 28, 3) := by decide +kernel
theorem dX10_order_102 : decode cX10_order 102 = .ok (.aload_n 0, 1) := by decide +kernel
theorem dX10_order_103 : decode cX10_order 103 = .ok (.getfield 40, 3) := by decide +kernel
theorem dX10_order_106 : decode cX10_order 106 = .ok (.bipush 40, 2) := by decide +kernel
theorem dX10_order_108 : decode cX10_order 108 = .ok (.iload_n 1, 1) := by decide +kernel
theorem dX10_order_109 : decode cX10_order 109 = .ok (.imul, 1) := by decide +kernel
theorem dX10_order_110 : decode cX10_order 110 = .ok (.iload_n 2, 1) := by decide +kernel
theorem dX10_order_111 : decode cX10_order 111 = .ok (.iadd, 1) := by decide +kernel
theorem dX10_order_112 : decode cX10_order 112 = .ok (.iaload, 1) := by decide +kernel
theorem dX10_order_113 : decode cX10_order 113 = .ok (.aload_n 0, 1) := by decide +kernel
theorem dX10_order_114 : decode cX10_order 114 = .ok (.getfield 31, 3) := by decide +kernel
theorem dX10_order_117 : decode cX10_order 117 = .ok (.iload 5, 2) := by decide +kernel
theorem dX10_order_119 : decode cX10_order 119 = .ok (.iaload, 1) := by decide +kernel
theorem dX10_order_120 : decode cX10_order 120 = .ok (.if_icmp .ne 7, 3) := by decide +kernel
theorem dX10_order_123 : decode cX10_order 123 = .ok (.iconst 1, 1) := by decide +kernel
theorem dX10_order_124 : decode cX10_order 124 = .ok (.goto 4, 3) := by decide +kernel
theorem dX10_order_127 : decode cX10_order 127 = .ok (.iconst 0, 1) := by decide +kernel
theorem dX10_order_128 : decode cX10_order 128 = .ok (.istore_n 3, 1) := by decide +kernel
theorem dX10_order_129 : decode cX10_order 129 = .ok (.iload_n 2, 1) := by decide +kernel
theorem dX10_order_130 : decode cX10_order 130 = .ok (.iload_n 3, 1) := by decide +kernel
theorem dX10_order_131 : decode cX10_order 131 = .ok (.ifCond .eq 7, 3) := by decide +kernel
theorem dX10_order_134 : decode cX10_order 134 = .ok (.iconst 1, 1) := by decide +kernel
theorem dX10_order_135 : decode cX10_order 135 = .ok (.goto 4, 3) := by decide +kernel
theorem dX10_order_138 : decode cX10_order 138 = .ok (.iconst 0, 1) := by decide +kernel
theorem dX10_order_139 : decode cX10_order 139 = .ok (.iadd, 1) := by decide +kernel
theorem dX10_order_140 : decode cX10_order 140 = .ok (.istore_n 2, 1) := by decide +kernel
theorem dX10_order_141 : decode cX10_order 141 = .ok (.iinc 5 1, 3) := by decide +kernel
theorem dX10_order_144 : decode cX10_order 144 = .ok (.goto (-77), 3) := by decide +kernel
theorem dX10_order_147 : decode cX10_order 147 = .ok (.iinc 4 1, 3) := by decide +kernel
theorem dX10_order_150 : decode cX10_order 150 = .ok (.goto (-101), 3) := by decide +kernel
theorem dX10_order_153 : decode cX10_order 153 = .ok (.aload_n 0, 1) := by decide +kernel
theorem dX10_order_154 : decode cX10_order 154 = .ok (.aload_n 0, 1) := by decide +kernel
theorem dX10_order_155 : decode cX10_order 155 = .ok (.getfield 16, 3) := by decide +kernel
theorem dX10_order_158 : decode cX10_order 158 = .ok (.aload_n 0, 1) := by decide +kernel
theorem dX10_order_159 : decode cX10_order 159 = .ok (.getfield 7, 3) := by decide +kernel
theorem dX10_order_162 : decode cX10_order 162 = .ok (.invokevirtual 188, 3) := by decide +kernel
theorem dX10_order_165 : decode cX10_order 165 = .ok (.iload_n 2, 1) := by decide +kernel
theorem dX10_order_166 : decode cX10_order 166 = .ok (.ireturn, 1) := by decide +kernel
theorem dX10_strong_0 : decode cX10_strong 0 = .ok (.aload_n 0, 1) := by decide +kernel
theorem dX10_strong_1 : decode cX10_strong 1 = .ok (.iload_n 1, 1) := by decide +kernel
theorem dX10_strong_2 : decode cX10_strong 2 = .ok (.invokevirtual 78, 3) := by decide +kernel
theorem dX10_strong_5 : decode cX10_strong 5 = .ok (.ifCond .eq 21, 3) := by decide +kernel
theorem dX10_strong_8 : decode cX10_strong 8 = .ok (.aload_n 0, 1) := by decide +kernel
theorem dX10_strong_9 : decode cX10_strong 9 = .ok (.iload_n 2, 1) := by decide +kernel
theorem dX10_strong_10 : decode cX10_strong 10 = .ok (.invokevirtual 91, 3) := by decide +kernel
theorem dX10_strong_13 : decode cX10_strong 13 = .ok (.ifCond .eq 13, 3) := by decide +kernel
theorem dX10_strong_16 : decode cX10_strong 16 = .ok (.iload_n 3, 1) := by decide +kernel
theorem dX10_strong_17 : decode cX10_strong 17 = .ok (.iconst 0, 1) := by decide +kernel
theorem dX10_strong_18 : decode cX10_strong 18 = .ok (.bipush 20, 2) := by decide +kernel
theorem dX10_strong_20 : decode cX10_strong 20 = .ok (.invokestatic 50, 3) := by decide +kernel
theorem dX10_strong_23 : decode cX10_strong 23 = .ok (.ifCond .ne 10, 3) := by decide +kernel
theorem dX10_strong_26 : decode cX10_strong 26 = .ok (.aload_n 0, 1) := by decide +kernel
theorem dX10_strong_27 : decode cX10_strong 27 = .ok (.ldc 62, 2) := by decide +kernel
theorem dX10_strong_29 : decode cX10_strong 29 = .ok (.invokevirtual 63, 3) := by decide +kernel
theorem dX10_strong_32 : decode cX10_strong 32 = .ok (.ireturn, 1) := by decide +kernel
theorem dX10_strong_33 : decode cX10_strong 33 = .ok (.bipush 18, 2) := by decide +kernel
theorem dX10_strong_35 : decode cX10_strong 35 = .ok (.iconst 2, 1) := by decide +kernel
theorem dX10_strong_36 : decode cX10_strong 36 = .ok (.iload_n 1, 1) := by decide +kernel
theorem dX10_strong_37 : decode cX10_strong 37 = .ok (.imul, 1) := by decide +kernel
theorem dX10_strong_38 : decode cX10_strong 38 = .ok (.iadd, 1) := by decide +kernel
theorem dX10_strong_39 : decode cX10_strong 39 = .ok (.iconst 1, 1) := by decide +kernel
theorem dX10_strong_40 : decode cX10_strong 40 = .ok (.iadd, 1) := by decide +kernel
theorem dX10_strong_41 : decode cX10_strong 41 = .ok (.istore 4, 2) := by decide +kernel
theorem dX10_strong_43 : decode cX10_strong 43 = .ok (.aload_n 0, 1) := by decide +kernel
theorem dX10_strong_44 : decode cX10_strong 44 = .ok (.getfield 7, 3) := by decide +kernel
theorem dX10_strong_47 : decode cX10_strong 47 = .ok (.iload 4, 2) := by decide +kernel
theorem dX10_strong_49 : decode cX10_strong 49 = .ok (.iaload, 1) := by decide +kernel
theorem dX10_strong_50 : decode cX10_strong 50 = .ok (.istore 5, 2) := by decide +kernel
theorem dX10_strong_52 : decode cX10_strong 52 = .ok (.iconst (-1), 1) := by decide +kernel
theorem dX10_strong_53 : decode cX10_strong 53 = .ok (.istore 6, 2) := by decide +kernel
theorem dX10_strong_55 : decode cX10_strong 55 = .ok (.iconst 0, 1) := by decide +kernel
theorem dX10_strong_56 : decode cX10_strong 56 = .ok (.istore 7, 2) := by decide +kernel
theorem dX10_strong_58 : decode cX10_strong 58 = .ok (.iload 6, 2) := by decide +kernel
theorem dX10_strong_60 : decode cX10_strong 60 = .ok (.bipush 99, 2) := by decide +kernel
theorem dX10_strong_62 : decode cX10_strong 62 = .ok (.if_icmp .ge 43, 3) := by decide +kernel
theorem dX10_strong_65 : decode cX10_strong 65 = .ok (.iload 7, 2) := by decide +kernel
theorem dX10_strong_67 : decode cX10_strong 67 = .ok (.ifCond .ne 38, 3) := by decide +kernel
theorem dX10_strong_70 : decode cX10_strong 70 = .ok (.iinc 6 1, 3) := by decide +kernel
theorem dX10_strong_73 : decode cX10_strong 73 = .ok (.aload_n 0, 1) := by decide +kernel
theorem dX10_strong_74 : decode cX10_strong 74 = .ok (.getfield 7, 3) := by decide +kernel
theorem dX10_strong_77 : decode cX10_strong 77 = .ok (.iload 4, 2) := by decide +kernel
theorem dX10_strong_79 : decode cX10_strong 79 = .ok (.iload 6, 2) := by decide +kernel
theorem dX10_strong_81 : decode cX10_strong 81 = .ok (.iastore, 1) := by decide +kernel
theorem dX10_strong_82 : decode cX10_strong 82 = .ok (.aload_n 0, 1) := by decide +kernel
theorem dX10_strong_83 : decode cX10_strong 83 = .ok (.iload_n 3, 1) := by decide +kernel
theorem dX10_strong_84 : decode cX10_strong 84 = .ok (.invokevirtual 205, 3) := by decide +kernel
theorem dX10_strong_87 : decode cX10_strong 87 = .ok (.iload_n 2, 1) := by decide +kernel
theorem dX10_strong_88 : decode cX10_strong 88 = .ok (.ishr, 1) := by decide +kernel
theorem dX10_strong_89 : decode cX10_strong 89 = .ok (.iconst 1, 1) := by decide +kernel
theorem dX10_strong_90 : decode cX10_strong 90 = .ok (.iand, 1) := by decide +kernel
theorem dX10_strong_91 : decode cX10_strong 91 = .ok (.iconst 1, 1) := by decide +kernel
theorem dX10_strong_92 : decode cX10_strong 92 = .ok (.if_icmp .ne 7, 3) := by decide +kernel
theorem dX10_strong_95 : decode cX10_strong 95 = .ok (.iconst 1, 1) := by decide +kernel
theorem dX10_strong_96 : decode cX10_strong 96 = .ok (.goto 4, 3) := by decide +kernel
theorem dX10_strong_99 : decode cX10_strong 99 = .ok (.iconst 0, 1) := by decide +kernel
theorem dX10_strong_100 : decode cX10_strong 100 = .ok (.istore 7, 2) := by decide +kernel
theorem dX10_strong_102 : decode cX10_strong 102 = .ok (.goto (-44), 3) := by decide +kernel
theorem dX10_strong_105 : decode cX10_strong 105 = .ok (.aload_n 0, 1) := by decide +kernel
theorem dX10_strong_106 : decode cX10_strong 106 = .ok (.getfield 7, 3) := by decide +kernel
theorem dX10_strong_109 : decode cX10_strong 109 = .ok (.iload 4, 2) := by decide +kernel
theorem dX10_strong_111 : decode cX10_strong 111 = .ok (.iload 5, 2) := by decide +kernel
theorem dX10_strong_113 : decode cX10_strong 113 = .ok (.iastore, 1) := by decide +kernel
theorem dX10_strong_114 : decode cX10_strong 114 = .ok (.iload 7, 2) := by decide +kernel
theorem dX10_strong_116 : decode cX10_strong 116 = .ok (.ifCond .eq 8, 3) := by decide +kernel
theorem dX10_strong_119 : decode cX10_strong 119 = .ok (.iload 6, 2) := by decide +kernel
theorem dX10_strong_121 : decode cX10_strong 121 = .ok (.goto 9, 3) := by decide +kernel
theorem dX10_strong_124 : decode cX10_strong 124 = .ok (.aload_n 0, 1) := by decide +kernel
theorem dX10_strong_125 : decode cX10_strong 125 = .ok (.ldc 204, 2) := by decide +kernel
theorem dX10_strong_127 : decode cX10_strong 127 = .ok (.invokevirtual 63, 3) := by decide +kernel
theorem dX10_strong_130 : decode cX10_strong 130 = .ok (.ireturn, 1) := by decide +kernel
theorem dX10_divisor_0 : decode cX10_divisor 0 = .ok (.iload_n 0, 1) := by decide +kernel
theorem dX10_divisor_1 : decode cX10_divisor 1 = .ok (.istore_n 2, 1) := by decide +kernel
theorem dX10_divisor_2 : decode cX10_divisor 2 = .ok (.iload_n 1, 1) := by decide +kernel
theorem dX10_divisor_3 : decode cX10_divisor 3 = .ok (.istore_n 3, 1) := by decide +kernel
theorem dX10_divisor_4 : decode cX10_divisor 4 = .ok (.iload_n 3, 1) := by decide +kernel
theorem dX10_divisor_5 : decode cX10_divisor 5 = .ok (.ifCond .eq 16, 3) := by decide +kernel
theorem dX10_divisor_8 : decode cX10_divisor 8 = .ok (.iload_n 2, 1) := by decide +kernel
theorem dX10_divisor_9 : decode cX10_divisor 9 = .ok (.iload_n 3, 1) := by decide +kernel
theorem dX10_divisor_10 : decode cX10_divisor 10 = .ok (.irem, 1) := by decide +kernel
theorem dX10_divisor_11 : decode cX10_divisor 11 = .ok (.istore 4, 2) := by decide +kernel
theorem dX10_divisor_13 : decode cX10_divisor 13 = .ok (.iload_n 3, 1) := by decide +kernel
theorem dX10_divisor_14 : decode cX10_divisor 14 = .ok (.istore_n 2, 1) := by decide +kernel
theorem dX10_divisor_15 : decode cX10_divisor 15 = .ok (.iload 4, 2) := by decide +kernel
theorem dX10_divisor_17 : decode cX10_divisor 17 = .ok (.istore_n 3, 1) := by decide +kernel
theorem dX10_divisor_18 : decode cX10_divisor 18 = .ok (.goto (-14), 3) := by decide +kernel
theorem dX10_divisor_21 : decode cX10_divisor 21 = .ok (.iload_n 2, 1) := by decide +kernel
theorem dX10_divisor_22 : decode cX10_divisor 22 = .ok (.ireturn, 1) := by decide +kernel
theorem dX10_odds_0 : decode cX10_odds 0 = .ok (.aload_n 0, 1) := by decide +kernel
theorem dX10_odds_1 : decode cX10_odds 1 = .ok (.iload_n 1, 1) := by decide +kernel
theorem dX10_odds_2 : decode cX10_odds 2 = .ok (.invokevirtual 91, 3) := by decide +kernel
theorem dX10_odds_5 : decode cX10_odds 5 = .ok (.ifCond .eq 22, 3) := by decide +kernel
theorem dX10_odds_8 : decode cX10_odds 8 = .ok (.iload_n 2, 1) := by decide +kernel
theorem dX10_odds_9 : decode cX10_odds 9 = .ok (.iconst 0, 1) := by decide +kernel
theorem dX10_odds_10 : decode cX10_odds 10 = .ok (.bipush 60, 2) := by decide +kernel
theorem dX10_odds_12 : decode cX10_odds 12 = .ok (.invokestatic 50, 3) := by decide +kernel
theorem dX10_odds_15 : decode cX10_odds 15 = .ok (.ifCond .eq 12, 3) := by decide +kernel
theorem dX10_odds_18 : decode cX10_odds 18 = .ok (.iload_n 3, 1) := by decide +kernel
theorem dX10_odds_19 : decode cX10_odds 19 = .ok (.iconst 0, 1) := by decide +kernel
theorem dX10_odds_20 : decode cX10_odds 20 = .ok (.iconst 1, 1) := by decide +kernel
theorem dX10_odds_21 : decode cX10_odds 21 = .ok (.invokestatic 50, 3) := by decide +kernel
theorem dX10_odds_24 : decode cX10_odds 24 = .ok (.ifCond .ne 10, 3) := by decide +kernel
theorem dX10_odds_27 : decode cX10_odds 27 = .ok (.aload_n 0, 1) := by decide +kernel
theorem dX10_odds_28 : decode cX10_odds 28 = .ok (.ldc 62, 2) := by decide +kernel
theorem dX10_odds_30 : decode cX10_odds 30 = .ok (.invokevirtual 63, 3) := by decide +kernel
theorem dX10_odds_33 : decode cX10_odds 33 = .ok (.ireturn, 1) := by decide +kernel
theorem dX10_odds_34 : decode cX10_odds 34 = .ok (.aload_n 0, 1) := by decide +kernel
theorem dX10_odds_35 : decode cX10_odds 35 = .ok (.iload_n 1, 1) := by decide +kernel
theorem dX10_odds_36 : decode cX10_odds 36 = .ok (.iconst 2, 1) := by decide +kernel
theorem dX10_odds_37 : decode cX10_odds 37 = .ok (.invokevirtual 67, 3) := by decide +kernel
theorem dX10_odds_40 : decode cX10_odds 40 = .ok (.istore 4, 2) := by decide +kernel
theorem dX10_odds_42 : decode cX10_odds 42 = .ok (.iconst 0, 1) := by decide +kernel
theorem dX10_odds_43 : decode cX10_odds 43 = .ok (.istore 5, 2) := by decide +kernel
theorem dX10_odds_45 : decode cX10_odds 45 = .ok (.iconst 0, 1) := by decide +kernel
theorem dX10_odds_46 : decode cX10_odds 46 = .ok (.istore 6, 2) := by decide +kernel
theorem dX10_odds_48 : decode cX10_odds 48 = .ok (.iload 6, 2) := by decide +kernel
theorem dX10_odds_50 : decode cX10_odds 50 = .ok (.bipush 10, 2) := by decide +kernel
theorem dX10_odds_52 : decode cX10_odds 52 = .ok (.if_icmp .ge 31, 3) := by decide +kernel
theorem dX10_odds_55 : decode cX10_odds 55 = .ok (.aload_n 0, 1) := by decide +kernel
theorem dX10_odds_56 : decode cX10_odds 56 = .ok (.iload_n 1, 1) := by decide +kernel
theorem dX10_odds_57 : decode cX10_odds 57 = .ok (.iconst 2, 1) := by decide +kernel
theorem dX10_odds_58 : decode cX10_odds 58 = .ok (.iload 6, 2) := by decide +kernel
theorem dX10_odds_60 : decode cX10_odds 60 = .ok (.invokevirtual 87, 3) := by decide +kernel
theorem dX10_odds_63 : decode cX10_odds 63 = .ok (.iload 5, 2) := by decide +kernel
theorem dX10_odds_65 : decode cX10_odds 65 = .ok (.aload_n 0, 1) := by decide +kernel
theorem dX10_odds_66 : decode cX10_odds 66 = .ok (.iload_n 2, 1) := by decide +kernel
theorem dX10_odds_67 : decode cX10_odds 67 = .ok (.invokevirtual 205, 3) := by decide +kernel
theorem dX10_odds_70 : decode cX10_odds 70 = .ok (.iload_n 1, 1) := by decide +kernel
theorem dX10_odds_71 : decode cX10_odds 71 = .ok (.ishr, 1) := by decide +kernel
theorem dX10_odds_72 : decode cX10_odds 72 = .ok (.iconst 1, 1) := by decide +kernel
theorem dX10_odds_73 : decode cX10_odds 73 = .ok (.iand, 1) := by decide +kernel
theorem dX10_odds_74 : decode cX10_odds 74 = .ok (.iadd, 1) := by decide +kernel
theorem dX10_odds_75 : decode cX10_odds 75 = .ok (.istore 5, 2) := by decide +kernel
theorem dX10_odds_77 : decode cX10_odds 77 = .ok (.iinc 6 1, 3) := by decide +kernel
theorem dX10_odds_80 : decode cX10_odds 80 = .ok (.goto (-32), 3) := by decide +kernel
theorem dX10_odds_83 : decode cX10_odds 83 = .ok (.aload_n 0, 1) := by decide +kernel
theorem dX10_odds_84 : decode cX10_odds 84 = .ok (.iload_n 1, 1) := by decide +kernel
theorem dX10_odds_85 : decode cX10_odds 85 = .ok (.iconst 2, 1) := by decide +kernel
theorem dX10_odds_86 : decode cX10_odds 86 = .ok (.iload 4, 2) := by decide +kernel
theorem dX10_odds_88 : decode cX10_odds 88 = .ok (.invokevirtual 87, 3) := by decide +kernel
theorem dX10_odds_91 : decode cX10_odds 91 = .ok (.iload 5, 2) := by decide +kernel
theorem dX10_odds_93 : decode cX10_odds 93 = .ok (.bipush 10, 2) := by decide +kernel
theorem dX10_odds_95 : decode cX10_odds 95 = .ok (.invokestatic 214, 3) := by decide +kernel
theorem dX10_odds_98 : decode cX10_odds 98 = .ok (.istore 6, 2) := by decide +kernel
theorem dX10_odds_100 : decode cX10_odds 100 = .ok (.iload_n 3, 1) := by decide +kernel
theorem dX10_odds_101 : decode cX10_odds 101 = .ok (.ifCond .ne 11, 3) := by decide +kernel
theorem dX10_odds_104 : decode cX10_odds 104 = .ok (.iload 5, 2) := by decide +kernel
theorem dX10_odds_106 : decode cX10_odds 106 = .ok (.iload 6, 2) := by decide +kernel
theorem dX10_odds_108 : decode cX10_odds 108 = .ok (.idiv, 1) := by decide +kernel
theorem dX10_odds_109 : decode cX10_odds 109 = .ok (.goto 8, 3) := by decide +kernel
theorem dX10_odds_112 : decode cX10_odds 112 = .ok (.bipush 10, 2) := by decide +kernel
theorem dX10_odds_114 : decode cX10_odds 114 = .ok (.iload 6, 2) := by decide +kernel
theorem dX10_odds_116 : decode cX10_odds 116 = .ok (.idiv, 1) := by decide +kernel
theorem dX10_odds_117 : decode cX10_odds 117 = .ok (.ireturn, 1) := by decide +kernel
theorem dX10_seed_0 : decode cX10_seed 0 = .ok (.aload_n 0, 1) := by decide +kernel
theorem dX10_seed_1 : decode cX10_seed 1 = .ok (.getfield 7, 3) := by decide +kernel
theorem dX10_seed_4 : decode cX10_seed 4 = .ok (.iconst 1, 1) := by decide +kernel
theorem dX10_seed_5 : decode cX10_seed 5 = .ok (.iaload, 1) := by decide +kernel
theorem dX10_seed_6 : decode cX10_seed 6 = .ok (.istore_n 2, 1) := by decide +kernel
theorem dX10_seed_7 : decode cX10_seed 7 = .ok (.aload_n 0, 1) := by decide +kernel
theorem dX10_seed_8 : decode cX10_seed 8 = .ok (.getfield 7, 3) := by decide +kernel
theorem dX10_seed_11 : decode cX10_seed 11 = .ok (.iconst 1, 1) := by decide +kernel
theorem dX10_seed_12 : decode cX10_seed 12 = .ok (.iload_n 1, 1) := by decide +kernel
theorem dX10_seed_13 : decode cX10_seed 13 = .ok (.iastore, 1) := by decide +kernel
theorem dX10_seed_14 : decode cX10_seed 14 = .ok (.iload_n 2, 1) := by decide +kernel
theorem dX10_seed_15 : decode cX10_seed 15 = .ok (.ireturn, 1) := by decide +kernel
theorem dX10_ran_0 : decode cX10_ran 0 = .ok (.aload_n 0, 1) := by decide +kernel
theorem dX10_ran_1 : decode cX10_ran 1 = .ok (.getfield 217, 3) := by decide +kernel
theorem dX10_ran_4 : decode cX10_ran 4 = .ok (.bipush 40, 2) := by decide +kernel
theorem dX10_ran_6 : decode cX10_ran 6 = .ok (.if_icmp .ge 23, 3) := by decide +kernel
theorem dX10_ran_9 : decode cX10_ran 9 = .ok (.aload_n 0, 1) := by decide +kernel
theorem dX10_ran_10 : decode cX10_ran 10 = .ok (.getfield 46, 3) := by decide +kernel
theorem dX10_ran_13 : decode cX10_ran 13 = .ok (.aload_n 0, 1) := by decide +kernel
theorem dX10_ran_14 : decode cX10_ran 14 = .ok (.getfield 217, 3) := by decide +kernel
theorem dX10_ran_17 : decode cX10_ran 17 = .ok (.iload_n 1, 1) := by decide +kernel
theorem dX10_ran_18 : decode cX10_ran 18 = .ok (.iastore, 1) := by decide +kernel
theorem dX10_ran_19 : decode cX10_ran 19 = .ok (.aload_n 0, 1) := by decide +kernel
theorem dX10_ran_20 : decode cX10_ran 20 = .ok (.dup, 1) := by decide +kernel
theorem dX10_ran_21 : decode cX10_ran 21 = .ok (.getfield 217, 3) := by decide +kernel
theorem dX10_ran_24 : decode cX10_ran 24 = .ok (.iconst 1, 1) := by decide +kernel
theorem dX10_ran_25 : decode cX10_ran 25 = .ok (.iadd, 1) := by decide +kernel
theorem dX10_ran_26 : decode cX10_ran 26 = .ok (.putfield 217, 3) := by decide +kernel
theorem dX10_ran_29 : decode cX10_ran 29 = .ok (.return_, 1) := by decide +kernel
theorem dX10_bleatsIn_0 : decode cX10_bleatsIn 0 = .ok (.iload_n 1, 1) := by decide +kernel
theorem dX10_bleatsIn_1 : decode cX10_bleatsIn 1 = .ok (.ifCond .ne 16, 3) := by decide +kernel
theorem dX10_bleatsIn_4 : decode cX10_bleatsIn 4 = .ok (.aload_n 0, 1) := by decide +kernel
theorem dX10_bleatsIn_5 : decode cX10_bleatsIn 5 = .ok (.bipush 10, 2) := by decide +kernel
theorem dX10_bleatsIn_7 : decode cX10_bleatsIn 7 = .ok (.invokevirtual 220, 3) := by decide +kernel
theorem dX10_bleatsIn_10 : decode cX10_bleatsIn 10 = .ok (.iload_n 2, 1) := by decide +kernel
theorem dX10_bleatsIn_11 : decode cX10_bleatsIn 11 = .ok (.aload_n 0, 1) := by decide +kernel
theorem dX10_bleatsIn_12 : decode cX10_bleatsIn 12 = .ok (.getfield 223, 3) := by decide +kernel
theorem dX10_bleatsIn_15 : decode cX10_bleatsIn 15 = .ok (.iadd, 1) := by decide +kernel
theorem dX10_bleatsIn_16 : decode cX10_bleatsIn 16 = .ok (.ireturn, 1) := by decide +kernel
theorem dX10_bleatsIn_17 : decode cX10_bleatsIn 17 = .ok (.iload_n 1, 1) := by decide +kernel
theorem dX10_bleatsIn_18 : decode cX10_bleatsIn 18 = .ok (.iconst 1, 1) := by decide +kernel
theorem dX10_bleatsIn_19 : decode cX10_bleatsIn 19 = .ok (.if_icmp .ne 18, 3) := by decide +kernel
theorem dX10_bleatsIn_22 : decode cX10_bleatsIn 22 = .ok (.aload_n 0, 1) := by decide +kernel
theorem dX10_bleatsIn_23 : decode cX10_bleatsIn 23 = .ok (.bipush 20, 2) := by decide +kernel
theorem dX10_bleatsIn_25 : decode cX10_bleatsIn 25 = .ok (.invokevirtual 220, 3) := by decide +kernel
theorem dX10_bleatsIn_28 : decode cX10_bleatsIn 28 = .ok (.aload_n 0, 1) := by decide +kernel
theorem dX10_bleatsIn_29 : decode cX10_bleatsIn 29 = .ok (.iconst 0, 1) := by decide +kernel
theorem dX10_bleatsIn_30 : decode cX10_bleatsIn 30 = .ok (.iload_n 2, 1) := by decide +kernel
theorem dX10_bleatsIn_31 : decode cX10_bleatsIn 31 = .ok (.invokevirtual 226, 3) := by decide +kernel
theorem dX10_bleatsIn_34 : decode cX10_bleatsIn 34 = .ok (.iconst 3, 1) := by decide +kernel
theorem dX10_bleatsIn_35 : decode cX10_bleatsIn 35 = .ok (.imul, 1) := by decide +kernel
theorem dX10_bleatsIn_36 : decode cX10_bleatsIn 36 = .ok (.ireturn, 1) := by decide +kernel
theorem dX10_bleatsIn_37 : decode cX10_bleatsIn 37 = .ok (.aload_n 0, 1) := by decide +kernel
theorem dX10_bleatsIn_38 : decode cX10_bleatsIn 38 = .ok (.iload_n 1, 1) := by decide +kernel
theorem dX10_bleatsIn_39 : decode cX10_bleatsIn 39 = .ok (.invokestatic 100, 3) := by decide +kernel
theorem dX10_bleatsIn_42 : decode cX10_bleatsIn 42 = .ok (.iload_n 2, 1) := by decide +kernel
theorem dX10_bleatsIn_43 : decode cX10_bleatsIn 43 = .ok (.invokevirtual 226, 3) := by decide +kernel
theorem dX10_bleatsIn_46 : decode cX10_bleatsIn 46 = .ok (.ireturn, 1) := by decide +kernel
theorem dX10_shiversIn_0 : decode cX10_shiversIn 0 = .ok (.iload_n 1, 1) := by decide +kernel
theorem dX10_shiversIn_1 : decode cX10_shiversIn 1 = .ok (.ifCond .ne 16, 3) := by decide +kernel
theorem dX10_shiversIn_4 : decode cX10_shiversIn 4 = .ok (.aload_n 0, 1) := by decide +kernel
theorem dX10_shiversIn_5 : decode cX10_shiversIn 5 = .ok (.bipush 12, 2) := by decide +kernel
theorem dX10_shiversIn_7 : decode cX10_shiversIn 7 = .ok (.invokevirtual 220, 3) := by decide +kernel
theorem dX10_shiversIn_10 : decode cX10_shiversIn 10 = .ok (.iload_n 2, 1) := by decide +kernel
theorem dX10_shiversIn_11 : decode cX10_shiversIn 11 = .ok (.aload_n 0, 1) := by decide +kernel
theorem dX10_shiversIn_12 : decode cX10_shiversIn 12 = .ok (.getfield 229, 3) := by decide +kernel
theorem dX10_shiversIn_15 : decode cX10_shiversIn 15 = .ok (.isub, 1) := by decide +kernel
theorem dX10_shiversIn_16 : decode cX10_shiversIn 16 = .ok (.ireturn, 1) := by decide +kernel
theorem dX10_shiversIn_17 : decode cX10_shiversIn 17 = .ok (.iload_n 1, 1) := by decide +kernel
theorem dX10_shiversIn_18 : decode cX10_shiversIn 18 = .ok (.iconst 3, 1) := by decide +kernel
theorem dX10_shiversIn_19 : decode cX10_shiversIn 19 = .ok (.if_icmp .ne 17, 3) := by decide +kernel
theorem dX10_shiversIn_22 : decode cX10_shiversIn 22 = .ok (.aload_n 0, 1) := by decide +kernel
theorem dX10_shiversIn_23 : decode cX10_shiversIn 23 = .ok (.bipush 40, 2) := by decide +kernel
theorem dX10_shiversIn_25 : decode cX10_shiversIn 25 = .ok (.invokevirtual 220, 3) := by decide +kernel
theorem dX10_shiversIn_28 : decode cX10_shiversIn 28 = .ok (.aload_n 0, 1) := by decide +kernel
theorem dX10_shiversIn_29 : decode cX10_shiversIn 29 = .ok (.iconst 0, 1) := by decide +kernel
theorem dX10_shiversIn_30 : decode cX10_shiversIn 30 = .ok (.iload_n 2, 1) := by decide +kernel
theorem dX10_shiversIn_31 : decode cX10_shiversIn 31 = .ok (.invokevirtual 232, 3) := by decide +kernel
theorem dX10_shiversIn_34 : decode cX10_shiversIn 34 = .ok (.ineg, 1) := by decide +kernel
theorem dX10_shiversIn_35 : decode cX10_shiversIn 35 = .ok (.ireturn, 1) := by decide +kernel
theorem dX10_shiversIn_36 : decode cX10_shiversIn 36 = .ok (.iload_n 1, 1) := by decide +kernel
theorem dX10_shiversIn_37 : decode cX10_shiversIn 37 = .ok (.bipush 6, 2) := by decide +kernel
theorem dX10_shiversIn_39 : decode cX10_shiversIn 39 = .ok (.if_icmp .ne 21, 3) := by decide +kernel
theorem dX10_shiversIn_42 : decode cX10_shiversIn 42 = .ok (.aload_n 0, 1) := by decide +kernel
theorem dX10_shiversIn_43 : decode cX10_shiversIn 43 = .ok (.bipush 70, 2) := by decide +kernel
theorem dX10_shiversIn_45 : decode cX10_shiversIn 45 = .ok (.invokevirtual 220, 3) := by decide +kernel
theorem dX10_shiversIn_48 : decode cX10_shiversIn 48 = .ok (.aload_n 0, 1) := by decide +kernel
theorem dX10_shiversIn_49 : decode cX10_shiversIn 49 = .ok (.iconst 3, 1) := by decide +kernel
theorem dX10_shiversIn_50 : decode cX10_shiversIn 50 = .ok (.iload_n 2, 1) := by decide +kernel
theorem dX10_shiversIn_51 : decode cX10_shiversIn 51 = .ok (.invokevirtual 232, 3) := by decide +kernel
theorem dX10_shiversIn_54 : decode cX10_shiversIn 54 = .ok (.aload_n 0, 1) := by decide +kernel
theorem dX10_shiversIn_55 : decode cX10_shiversIn 55 = .ok (.getfield 223, 3) := by decide +kernel
theorem dX10_shiversIn_58 : decode cX10_shiversIn 58 = .ok (.ixor, 1) := by decide +kernel
theorem dX10_shiversIn_59 : decode cX10_shiversIn 59 = .ok (.ireturn, 1) := by decide +kernel
theorem dX10_shiversIn_60 : decode cX10_shiversIn 60 = .ok (.aload_n 0, 1) := by decide +kernel
theorem dX10_shiversIn_61 : decode cX10_shiversIn 61 = .ok (.iload_n 1, 1) := by decide +kernel
theorem dX10_shiversIn_62 : decode cX10_shiversIn 62 = .ok (.invokestatic 100, 3) := by decide +kernel
theorem dX10_shiversIn_65 : decode cX10_shiversIn 65 = .ok (.iload_n 2, 1) := by decide +kernel
theorem dX10_shiversIn_66 : decode cX10_shiversIn 66 = .ok (.invokevirtual 232, 3) := by decide +kernel
theorem dX10_shiversIn_69 : decode cX10_shiversIn 69 = .ok (.ireturn, 1) := by decide +kernel
theorem dX10_waitsIn_0 : decode cX10_waitsIn 0 = .ok (.iload_n 1, 1) := by decide +kernel
