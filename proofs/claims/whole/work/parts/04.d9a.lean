theorem dX9_init_0 : decode cX9_init 0 = .ok (.aload_n 0, 1) := by decide +kernel
theorem dX9_init_1 : decode cX9_init 1 = .ok (.invokespecial 1, 3) := by decide +kernel
theorem dX9_init_4 : decode cX9_init 4 = .ok (.aload_n 0, 1) := by decide +kernel
theorem dX9_init_5 : decode cX9_init 5 = .ok (.new 7, 3) := by decide +kernel
theorem dX9_init_8 : decode cX9_init 8 = .ok (.dup, 1) := by decide +kernel
theorem dX9_init_9 : decode cX9_init 9 = .ok (.invokespecial 9, 3) := by decide +kernel
theorem dX9_init_12 : decode cX9_init 12 = .ok (.putfield 10, 3) := by decide +kernel
theorem dX9_init_15 : decode cX9_init 15 = .ok (.aload_n 0, 1) := by decide +kernel
theorem dX9_init_16 : decode cX9_init 16 = .ok (.new 7, 3) := by decide +kernel
theorem dX9_init_19 : decode cX9_init 19 = .ok (.dup, 1) := by decide +kernel
theorem dX9_init_20 : decode cX9_init 20 = .ok (.invokespecial 9, 3) := by decide +kernel
theorem dX9_init_23 : decode cX9_init 23 = .ok (.putfield 16, 3) := by decide +kernel
theorem dX9_init_26 : decode cX9_init 26 = .ok (.aload_n 0, 1) := by decide +kernel
theorem dX9_init_27 : decode cX9_init 27 = .ok (.new 19, 3) := by decide +kernel
theorem dX9_init_30 : decode cX9_init 30 = .ok (.dup, 1) := by decide +kernel
theorem dX9_init_31 : decode cX9_init 31 = .ok (.invokespecial 21, 3) := by decide +kernel
theorem dX9_init_34 : decode cX9_init 34 = .ok (.putfield 22, 3) := by decide +kernel
theorem dX9_init_37 : decode cX9_init 37 = .ok (.aload_n 0, 1) := by decide +kernel
theorem dX9_init_38 : decode cX9_init 38 = .ok (.new 26, 3) := by decide +kernel
theorem dX9_init_41 : decode cX9_init 41 = .ok (.dup, 1) := by decide +kernel
theorem dX9_init_42 : decode cX9_init 42 = .ok (.invokespecial 28, 3) := by decide +kernel
theorem dX9_init_45 : decode cX9_init 45 = .ok (.putfield 29, 3) := by decide +kernel
theorem dX9_init_48 : decode cX9_init 48 = .ok (.aload_n 0, 1) := by decide +kernel
theorem dX9_init_49 : decode cX9_init 49 = .ok (.new 33, 3) := by decide +kernel
theorem dX9_init_52 : decode cX9_init 52 = .ok (.dup, 1) := by decide +kernel
theorem dX9_init_53 : decode cX9_init 53 = .ok (.invokespecial 35, 3) := by decide +kernel
theorem dX9_init_56 : decode cX9_init 56 = .ok (.putfield 36, 3) := by decide +kernel
theorem dX9_init_59 : decode cX9_init 59 = .ok (.aload_n 0, 1) := by decide +kernel
theorem dX9_init_60 : decode cX9_init 60 = .ok (.iconst 4, 1) := by decide +kernel
theorem dX9_init_61 : decode cX9_init 61 = .ok (.anewarray 40, 3) := by decide +kernel
theorem dX9_init_64 : decode cX9_init 64 = .ok (.putfield 42, 3) := by decide +kernel
theorem dX9_init_67 : decode cX9_init 67 = .ok (.aload_n 0, 1) := by decide +kernel
theorem dX9_init_68 : decode cX9_init 68 = .ok (.bipush 6, 2) := by decide +kernel
theorem dX9_init_70 : decode cX9_init 70 = .ok (.newarray .int, 2) := by decide +kernel
theorem dX9_init_72 : decode cX9_init 72 = .ok (.putfield 46, 3) := by decide +kernel
theorem dX9_init_75 : decode cX9_init 75 = .ok (.iconst 0, 1) := by decide +kernel
theorem dX9_init_76 : decode cX9_init 76 = .ok (.istore_n 1, 1) := by decide +kernel
theorem dX9_init_77 : decode cX9_init 77 = .ok (.iload_n 1, 1) := by decide +kernel
theorem dX9_init_78 : decode cX9_init 78 = .ok (.iconst 4, 1) := by decide +kernel
theorem dX9_init_79 : decode cX9_init 79 = .ok (.if_icmp .ge 22, 3) := by decide +kernel
theorem dX9_init_82 : decode cX9_init 82 = .ok (.aload_n 0, 1) := by decide +kernel
theorem dX9_init_83 : decode cX9_init 83 = .ok (.getfield 42, 3) := by decide +kernel
theorem dX9_init_86 : decode cX9_init 86 = .ok (.iload_n 1, 1) := by decide +kernel
theorem dX9_init_87 : decode cX9_init 87 = .ok (.new 40, 3) := by decide +kernel
theorem dX9_init_90 : decode cX9_init 90 = .ok (.dup, 1) := by decide +kernel
theorem dX9_init_91 : decode cX9_init 91 = .ok (.invokespecial 50, 3) := by decide +kernel
theorem dX9_init_94 : decode cX9_init 94 = .ok (.aastore, 1) := by decide +kernel
theorem dX9_init_95 : decode cX9_init 95 = .ok (.iinc 1 1, 3) := by decide +kernel
theorem dX9_init_98 : decode cX9_init 98 = .ok (.goto (-21), 3) := by decide +kernel
theorem dX9_init_101 : decode cX9_init 101 = .ok (.return_, 1) := by decide +kernel
theorem dX9_snow_0 : decode cX9_snow 0 = .ok (.iload_n 1, 1) := by decide +kernel
theorem dX9_snow_1 : decode cX9_snow 1 = .ok (.invokestatic 51, 3) := by decide +kernel
theorem dX9_snow_4 : decode cX9_snow 4 = .ok (.ifCond .eq 13, 3) := by decide +kernel
theorem dX9_snow_7 : decode cX9_snow 7 = .ok (.iload_n 2, 1) := by decide +kernel
theorem dX9_snow_8 : decode cX9_snow 8 = .ok (.sipush 999, 3) := by decide +kernel
theorem dX9_snow_11 : decode cX9_snow 11 = .ok (.invokestatic 55, 3) := by decide +kernel
theorem dX9_snow_14 : decode cX9_snow 14 = .ok (.ifCond .ne 9, 3) := by decide +kernel
theorem dX9_snow_17 : decode cX9_snow 17 = .ok (.aload_n 0, 1) := by decide +kernel
theorem dX9_snow_18 : decode cX9_snow 18 = .ok (.iconst 1, 1) := by decide +kernel
theorem dX9_snow_19 : decode cX9_snow 19 = .ok (.invokevirtual 59, 3) := by decide +kernel
theorem dX9_snow_22 : decode cX9_snow 22 = .ok (.ireturn, 1) := by decide +kernel
theorem dX9_snow_23 : decode cX9_snow 23 = .ok (.aload_n 0, 1) := by decide +kernel
theorem dX9_snow_24 : decode cX9_snow 24 = .ok (.getfield 10, 3) := by decide +kernel
theorem dX9_snow_27 : decode cX9_snow 27 = .ok (.getfield 63, 3) := by decide +kernel
theorem dX9_snow_30 : decode cX9_snow 30 = .ok (.getfield 66, 3) := by decide +kernel
theorem dX9_snow_33 : decode cX9_snow 33 = .ok (.iload_n 1, 1) := by decide +kernel
theorem dX9_snow_34 : decode cX9_snow 34 = .ok (.iaload, 1) := by decide +kernel
theorem dX9_snow_35 : decode cX9_snow 35 = .ok (.istore_n 3, 1) := by decide +kernel
theorem dX9_snow_36 : decode cX9_snow 36 = .ok (.aload_n 0, 1) := by decide +kernel
theorem dX9_snow_37 : decode cX9_snow 37 = .ok (.getfield 10, 3) := by decide +kernel
theorem dX9_snow_40 : decode cX9_snow 40 = .ok (.getfield 63, 3) := by decide +kernel
theorem dX9_snow_43 : decode cX9_snow 43 = .ok (.getfield 66, 3) := by decide +kernel
theorem dX9_snow_46 : decode cX9_snow 46 = .ok (.iload_n 1, 1) := by decide +kernel
theorem dX9_snow_47 : decode cX9_snow 47 = .ok (.iload_n 2, 1) := by decide +kernel
theorem dX9_snow_48 : decode cX9_snow 48 = .ok (.iastore, 1) := by decide +kernel
theorem dX9_snow_49 : decode cX9_snow 49 = .ok (.iload_n 3, 1) := by decide +kernel
theorem dX9_snow_50 : decode cX9_snow 50 = .ok (.ireturn, 1) := by decide +kernel
theorem dX9_ofCell_0 : decode cX9_ofCell 0 = .ok (.iload_n 1, 1) := by decide +kernel
theorem dX9_ofCell_1 : decode cX9_ofCell 1 = .ok (.invokestatic 51, 3) := by decide +kernel
theorem dX9_ofCell_4 : decode cX9_ofCell 4 = .ok (.ifCond .ne 9, 3) := by decide +kernel
theorem dX9_ofCell_7 : decode cX9_ofCell 7 = .ok (.aload_n 0, 1) := by decide +kernel
theorem dX9_ofCell_8 : decode cX9_ofCell 8 = .ok (.iconst 1, 1) := by decide +kernel
theorem dX9_ofCell_9 : decode cX9_ofCell 9 = .ok (.invokevirtual 59, 3) := by decide +kernel
theorem dX9_ofCell_12 : decode cX9_ofCell 12 = .ok (.ireturn, 1) := by decide +kernel
theorem dX9_ofCell_13 : decode cX9_ofCell 13 = .ok (.iload_n 2, 1) := by decide +kernel
theorem dX9_ofCell_14 : decode cX9_ofCell 14 = .ok (.tableswitch 63 0 2 #[26, 39, 51], 26) := by decide +kernel
theorem dX9_ofCell_40 : decode cX9_ofCell 40 = .ok (.aload_n 0, 1) := by decide +kernel
theorem dX9_ofCell_41 : decode cX9_ofCell 41 = .ok (.getfield 10, 3) := by decide +kernel
theorem dX9_ofCell_44 : decode cX9_ofCell 44 = .ok (.getfield 63, 3) := by decide +kernel
theorem dX9_ofCell_47 : decode cX9_ofCell 47 = .ok (.getfield 66, 3) := by decide +kernel
theorem dX9_ofCell_50 : decode cX9_ofCell 50 = .ok (.iload_n 1, 1) := by decide +kernel
theorem dX9_ofCell_51 : decode cX9_ofCell 51 = .ok (.iaload, 1) := by decide +kernel
theorem dX9_ofCell_52 : decode cX9_ofCell 52 = .ok (.ireturn, 1) := by decide +kernel
theorem dX9_ofCell_53 : decode cX9_ofCell 53 = .ok (.aload_n 0, 1) := by decide +kernel
theorem dX9_ofCell_54 : decode cX9_ofCell 54 = .ok (.getfield 10, 3) := by decide +kernel
theorem dX9_ofCell_57 : decode cX9_ofCell 57 = .ok (.getfield 63, 3) := by decide +kernel
theorem dX9_ofCell_60 : decode cX9_ofCell 60 = .ok (.iload_n 1, 1) := by decide +kernel
theorem dX9_ofCell_61 : decode cX9_ofCell 61 = .ok (.invokevirtual 69, 3) := by decide +kernel
theorem dX9_ofCell_64 : decode cX9_ofCell 64 = .ok (.ireturn, 1) := by decide +kernel
theorem dX9_ofCell_65 : decode cX9_ofCell 65 = .ok (.aload_n 0, 1) := by decide +kernel
theorem dX9_ofCell_66 : decode cX9_ofCell 66 = .ok (.getfield 10, 3) := by decide +kernel
theorem dX9_ofCell_69 : decode cX9_ofCell 69 = .ok (.getfield 63, 3) := by decide +kernel
theorem dX9_ofCell_72 : decode cX9_ofCell 72 = .ok (.iload_n 1, 1) := by decide +kernel
theorem dX9_ofCell_73 : decode cX9_ofCell 73 = .ok (.invokevirtual 72, 3) := by decide +kernel
theorem dX9_ofCell_76 : decode cX9_ofCell 76 = .ok (.ireturn, 1) := by decide +kernel
theorem dX9_ofCell_77 : decode cX9_ofCell 77 = .ok (.aload_n 0, 1) := by decide +kernel
theorem dX9_ofCell_78 : decode cX9_ofCell 78 = .ok (.iconst 1, 1) := by decide +kernel
theorem dX9_ofCell_79 : decode cX9_ofCell 79 = .ok (.invokevirtual 59, 3) := by decide +kernel
theorem dX9_ofCell_82 : decode cX9_ofCell 82 = .ok (.ireturn, 1) := by decide +kernel
theorem dX9_seeker_0 : decode cX9_seeker 0 = .ok (.iload_n 1, 1) := by decide +kernel
theorem dX9_seeker_1 : decode cX9_seeker 1 = .ok (.invokestatic 51, 3) := by decide +kernel
theorem dX9_seeker_4 : decode cX9_seeker 4 = .ok (.ifCond .eq 12, 3) := by decide +kernel
theorem dX9_seeker_7 : decode cX9_seeker 7 = .ok (.iload_n 2, 1) := by decide +kernel
theorem dX9_seeker_8 : decode cX9_seeker 8 = .ok (.bipush 99, 2) := by decide +kernel
theorem dX9_seeker_10 : decode cX9_seeker 10 = .ok (.invokestatic 55, 3) := by decide +kernel
theorem dX9_seeker_13 : decode cX9_seeker 13 = .ok (.ifCond .ne 9, 3) := by decide +kernel
theorem dX9_seeker_16 : decode cX9_seeker 16 = .ok (.aload_n 0, 1) := by decide +kernel
theorem dX9_seeker_17 : decode cX9_seeker 17 = .ok (.iconst 1, 1) := by decide +kernel
theorem dX9_seeker_18 : decode cX9_seeker 18 = .ok (.invokevirtual 59, 3) := by decide +kernel
theorem dX9_seeker_21 : decode cX9_seeker 21 = .ok (.ireturn, 1) := by decide +kernel
theorem dX9_seeker_22 : decode cX9_seeker 22 = .ok (.aload_n 0, 1) := by decide +kernel
theorem dX9_seeker_23 : decode cX9_seeker 23 = .ok (.getfield 10, 3) := by decide +kernel
theorem dX9_seeker_26 : decode cX9_seeker 26 = .ok (.getfield 63, 3) := by decide +kernel
theorem dX9_seeker_29 : decode cX9_seeker 29 = .ok (.getfield 75, 3) := by decide +kernel
theorem dX9_seeker_32 : decode cX9_seeker 32 = .ok (.istore_n 3, 1) := by decide +kernel
theorem dX9_seeker_33 : decode cX9_seeker 33 = .ok (.iload_n 3, 1) := by decide +kernel
theorem dX9_seeker_34 : decode cX9_seeker 34 = .ok (.bipush 6, 2) := by decide +kernel
theorem dX9_seeker_36 : decode cX9_seeker 36 = .ok (.if_icmp .lt 9, 3) := by decide +kernel
theorem dX9_seeker_39 : decode cX9_seeker 39 = .ok (.aload_n 0, 1) := by decide +kernel
theorem dX9_seeker_40 : decode cX9_seeker 40 = .ok (.iconst 4, 1) := by decide +kernel
theorem dX9_seeker_41 : decode cX9_seeker 41 = .ok (.invokevirtual 59, 3) := by decide +kernel
theorem dX9_seeker_44 : decode cX9_seeker 44 = .ok (.ireturn, 1) := by decide +kernel
theorem dX9_seeker_45 : decode cX9_seeker 45 = .ok (.aload_n 0, 1) := by decide +kernel
theorem dX9_seeker_46 : decode cX9_seeker 46 = .ok (.getfield 10, 3) := by decide +kernel
theorem dX9_seeker_49 : decode cX9_seeker 49 = .ok (.getfield 63, 3) := by decide +kernel
theorem dX9_seeker_52 : decode cX9_seeker 52 = .ok (.getfield 79, 3) := by decide +kernel
theorem dX9_seeker_55 : decode cX9_seeker 55 = .ok (.iload_n 3, 1) := by decide +kernel
theorem dX9_seeker_56 : decode cX9_seeker 56 = .ok (.aaload, 1) := by decide +kernel
theorem dX9_seeker_57 : decode cX9_seeker 57 = .ok (.iload_n 1, 1) := by decide +kernel
theorem dX9_seeker_58 : decode cX9_seeker 58 = .ok (.putfield 83, 3) := by decide +kernel
theorem dX9_seeker_61 : decode cX9_seeker 61 = .ok (.aload_n 0, 1) := by decide +kernel
theorem dX9_seeker_62 : decode cX9_seeker 62 = .ok (.getfield 10, 3) := by decide +kernel
theorem dX9_seeker_65 : decode cX9_seeker 65 = .ok (.getfield 63, 3) := by decide +kernel
theorem dX9_seeker_68 : decode cX9_seeker 68 = .ok (.getfield 79, 3) := by decide +kernel
theorem dX9_seeker_71 : decode cX9_seeker 71 = .ok (.iload_n 3, 1) := by decide +kernel
theorem dX9_seeker_72 : decode cX9_seeker 72 = .ok (.aaload, 1) := by decide +kernel
theorem dX9_seeker_73 : decode cX9_seeker 73 = .ok (.iload_n 2, 1) := by decide +kernel
theorem dX9_seeker_74 : decode cX9_seeker 74 = .ok (.putfield 88, 3) := by decide +kernel
theorem dX9_seeker_77 : decode cX9_seeker 77 = .ok (.aload_n 0, 1) := by decide +kernel
theorem dX9_seeker_78 : decode cX9_seeker 78 = .ok (.getfield 10, 3) := by decide +kernel
theorem dX9_seeker_81 : decode cX9_seeker 81 = .ok (.getfield 63, 3) := by decide +kernel
theorem dX9_seeker_84 : decode cX9_seeker 84 = .ok (.iload_n 3, 1) := by decide +kernel
theorem dX9_seeker_85 : decode cX9_seeker 85 = .ok (.iconst 1, 1) := by decide +kernel
theorem dX9_seeker_86 : decode cX9_seeker 86 = .ok (.iadd, 1) := by decide +kernel
theorem dX9_seeker_87 : decode cX9_seeker 87 = .ok (.putfield 75, 3) := by decide +kernel
theorem dX9_seeker_90 : decode cX9_seeker 90 = .ok (.iload_n 3, 1) := by decide +kernel
theorem dX9_seeker_91 : decode cX9_seeker 91 = .ok (.ireturn, 1) := by decide +kernel
theorem dX9_ofSeeker_0 : decode cX9_ofSeeker 0 = .ok (.aload_n 0, 1) := by decide +kernel
theorem dX9_ofSeeker_1 : decode cX9_ofSeeker 1 = .ok (.iload_n 1, 1) := by decide +kernel
theorem dX9_ofSeeker_2 : decode cX9_ofSeeker 2 = .ok (.invokevirtual 91, 3) := by decide +kernel
theorem dX9_ofSeeker_5 : decode cX9_ofSeeker 5 = .ok (.ifCond .ne 9, 3) := by decide +kernel
theorem dX9_ofSeeker_8 : decode cX9_ofSeeker 8 = .ok (.aload_n 0, 1) := by decide +kernel
theorem dX9_ofSeeker_9 : decode cX9_ofSeeker 9 = .ok (.iconst 1, 1) := by decide +kernel
theorem dX9_ofSeeker_10 : decode cX9_ofSeeker 10 = .ok (.invokevirtual 59, 3) := by decide +kernel
theorem dX9_ofSeeker_13 : decode cX9_ofSeeker 13 = .ok (.ireturn, 1) := by decide +kernel
theorem dX9_ofSeeker_14 : decode cX9_ofSeeker 14 = .ok (.iload_n 2, 1) := by decide +kernel
theorem dX9_ofSeeker_15 : decode cX9_ofSeeker 15 = .ok (.tableswitch 69 0 2 #[25, 41, 57], 25) := by decide +kernel
theorem dX9_ofSeeker_40 : decode cX9_ofSeeker 40 = .ok (.aload_n 0, 1) := by decide +kernel
theorem dX9_ofSeeker_41 : decode cX9_ofSeeker 41 = .ok (.getfield 10, 3) := by decide +kernel
theorem dX9_ofSeeker_44 : decode cX9_ofSeeker 44 = .ok (.getfield 63, 3) := by decide +kernel
theorem dX9_ofSeeker_47 : decode cX9_ofSeeker 47 = .ok (.getfield 79, 3) := by decide +kernel
theorem dX9_ofSeeker_50 : decode cX9_ofSeeker 50 = .ok (.iload_n 1, 1) := by decide +kernel
theorem dX9_ofSeeker_51 : decode cX9_ofSeeker 51 = .ok (.aaload, 1) := by decide +kernel
theorem dX9_ofSeeker_52 : decode cX9_ofSeeker 52 = .ok (.getfield 83, 3) := by decide +kernel
theorem dX9_ofSeeker_55 : decode cX9_ofSeeker 55 = .ok (.ireturn, 1) := by decide +kernel
theorem dX9_ofSeeker_56 : decode cX9_ofSeeker 56 = .ok (.aload_n 0, 1) := by decide +kernel
theorem dX9_ofSeeker_57 : decode cX9_ofSeeker 57 = .ok (.getfield 10, 3) := by decide +kernel
theorem dX9_ofSeeker_60 : decode cX9_ofSeeker 60 = .ok (.getfield 63, 3) := by decide +kernel
theorem dX9_ofSeeker_63 : decode cX9_ofSeeker 63 = .ok (.getfield 79, 3) := by decide +kernel
theorem dX9_ofSeeker_66 : decode cX9_ofSeeker 66 = .ok (.iload_n 1, 1) := by decide +kernel
theorem dX9_ofSeeker_67 : decode cX9_ofSeeker 67 = .ok (.aaload, 1) := by decide +kernel
theorem dX9_ofSeeker_68 : decode cX9_ofSeeker 68 = .ok (.getfield 88, 3) := by decide +kernel
theorem dX9_ofSeeker_71 : decode cX9_ofSeeker 71 = .ok (.ireturn, 1) := by decide +kernel
theorem dX9_ofSeeker_72 : decode cX9_ofSeeker 72 = .ok (.aload_n 0, 1) := by decide +kernel
theorem dX9_ofSeeker_73 : decode cX9_ofSeeker 73 = .ok (.getfield 10, 3) := by decide +kernel
theorem dX9_ofSeeker_76 : decode cX9_ofSeeker 76 = .ok (.getfield 63, 3) := by decide +kernel
theorem dX9_ofSeeker_79 : decode cX9_ofSeeker 79 = .ok (.iload_n 1, 1) := by decide +kernel
theorem dX9_ofSeeker_80 : decode cX9_ofSeeker 80 = .ok (.invokevirtual 94, 3) := by decide +kernel
theorem dX9_ofSeeker_83 : decode cX9_ofSeeker 83 = .ok (.ireturn, 1) := by decide +kernel
theorem dX9_ofSeeker_84 : decode cX9_ofSeeker 84 = .ok (.aload_n 0, 1) := by decide +kernel
theorem dX9_ofSeeker_85 : decode cX9_ofSeeker 85 = .ok (.iconst 1, 1) := by decide +kernel
theorem dX9_ofSeeker_86 : decode cX9_ofSeeker 86 = .ok (.invokevirtual 59, 3) := by decide +kernel
theorem dX9_ofSeeker_89 : decode cX9_ofSeeker 89 = .ok (.ireturn, 1) := by decide +kernel
theorem dX9_send_0 : decode cX9_send 0 = .ok (.aload_n 0, 1) := by decide +kernel
theorem dX9_send_1 : decode cX9_send 1 = .ok (.iload_n 1, 1) := by decide +kernel
theorem dX9_send_2 : decode cX9_send 2 = .ok (.invokevirtual 91, 3) := by decide +kernel
theorem dX9_send_5 : decode cX9_send 5 = .ok (.ifCond .ne 9, 3) := by decide +kernel
theorem dX9_send_8 : decode cX9_send 8 = .ok (.aload_n 0, 1) := by decide +kernel
theorem dX9_send_9 : decode cX9_send 9 = .ok (.iconst 1, 1) := by decide +kernel
theorem dX9_send_10 : decode cX9_send 10 = .ok (.invokevirtual 59, 3) := by decide +kernel
theorem dX9_send_13 : decode cX9_send 13 = .ok (.ireturn, 1) := by decide +kernel
theorem dX9_send_14 : decode cX9_send 14 = .ok (.aload_n 0, 1) := by decide +kernel
theorem dX9_send_15 : decode cX9_send 15 = .ok (.getfield 10, 3) := by decide +kernel
theorem dX9_send_18 : decode cX9_send 18 = .ok (.getfield 63, 3) := by decide +kernel
theorem dX9_send_21 : decode cX9_send 21 = .ok (.getfield 79, 3) := by decide +kernel
theorem dX9_send_24 : decode cX9_send 24 = .ok (.iload_n 1, 1) := by decide +kernel
theorem dX9_send_25 : decode cX9_send 25 = .ok (.aaload, 1) := by decide +kernel
theorem dX9_send_26 : decode cX9_send 26 = .ok (.astore 4, 2) := by decide +kernel
theorem dX9_send_28 : decode cX9_send 28 = .ok (.iload_n 2, 1) := by decide +kernel
theorem dX9_send_29 : decode cX9_send 29 = .ok (.ifCond .ne 26, 3) := by decide +kernel
theorem dX9_send_32 : decode cX9_send 32 = .ok (.iload_n 3, 1) := by decide +kernel
theorem dX9_send_33 : decode cX9_send 33 = .ok (.invokestatic 51, 3) := by decide +kernel
theorem dX9_send_36 : decode cX9_send 36 = .ok (.ifCond .eq 19, 3) := by decide +kernel
theorem dX9_send_39 : decode cX9_send 39 = .ok (.aload 4, 2) := by decide +kernel
theorem dX9_send_41 : decode cX9_send 41 = .ok (.getfield 83, 3) := by decide +kernel
theorem dX9_send_44 : decode cX9_send 44 = .ok (.istore 5, 2) := by decide +kernel
theorem dX9_send_46 : decode cX9_send 46 = .ok (.aload 4, 2) := by decide +kernel
theorem dX9_send_48 : decode cX9_send 48 = .ok (.iload_n 3, 1) := by decide +kernel
theorem dX9_send_49 : decode cX9_send 49 = .ok (.putfield 83, 3) := by decide +kernel
theorem dX9_send_52 : decode cX9_send 52 = .ok (.iload 5, 2) := by decide +kernel
theorem dX9_send_54 : decode cX9_send 54 = .ok (.ireturn, 1) := by decide +kernel
theorem dX9_send_55 : decode cX9_send 55 = .ok (.iload_n 2, 1) := by decide +kernel
theorem dX9_send_56 : decode cX9_send 56 = .ok (.iconst 1, 1) := by decide +kernel
theorem dX9_send_57 : decode cX9_send 57 = .ok (.if_icmp .ne 28, 3) := by decide +kernel
theorem dX9_send_60 : decode cX9_send 60 = .ok (.iload_n 3, 1) := by decide +kernel
theorem dX9_send_61 : decode cX9_send 61 = .ok (.bipush 99, 2) := by decide +kernel
theorem dX9_send_63 : decode cX9_send 63 = .ok (.invokestatic 55, 3) := by decide +kernel
theorem dX9_send_66 : decode cX9_send 66 = .ok (.ifCond .eq 19, 3) := by decide +kernel
theorem dX9_send_69 : decode cX9_send 69 = .ok (.aload 4, 2) := by decide +kernel
theorem dX9_send_71 : decode cX9_send 71 = .ok (.getfield 88, 3) := by decide +kernel
theorem dX9_send_74 : decode cX9_send 74 = .ok (.istore 5, 2) := by decide +kernel
theorem dX9_send_76 : decode cX9_send 76 = .ok (.aload 4, 2) := by decide +kernel
theorem dX9_send_78 : decode cX9_send 78 = .ok (.iload_n 3, 1) := by decide +kernel
theorem dX9_send_79 : decode cX9_send 79 = .ok (.putfield 88, 3) := by decide +kernel
theorem dX9_send_82 : decode cX9_send 82 = .ok (.iload 5, 2) := by decide +kernel
theorem dX9_send_84 : decode cX9_send 84 = .ok (.ireturn, 1) := by decide +kernel
theorem dX9_send_85 : decode cX9_send 85 = .ok (.aload_n 0, 1) := by decide +kernel
theorem dX9_send_86 : decode cX9_send 86 = .ok (.iconst 1, 1) := by decide +kernel
theorem dX9_send_87 : decode cX9_send 87 = .ok (.invokevirtual 59, 3) := by decide +kernel
theorem dX9_send_90 : decode cX9_send 90 = .ok (.ireturn, 1) := by decide +kernel
theorem dX9_sheep_0 : decode cX9_sheep 0 = .ok (.iload_n 1, 1) := by decide +kernel
theorem dX9_sheep_1 : decode cX9_sheep 1 = .ok (.invokestatic 97, 3) := by decide +kernel
theorem dX9_sheep_4 : decode cX9_sheep 4 = .ok (.ifCond .eq 28, 3) := by decide +kernel
theorem dX9_sheep_7 : decode cX9_sheep 7 = .ok (.iload_n 2, 1) := by decide +kernel
theorem dX9_sheep_8 : decode cX9_sheep 8 = .ok (.invokestatic 51, 3) := by decide +kernel
theorem dX9_sheep_11 : decode cX9_sheep 11 = .ok (.ifCond .eq 21, 3) := by decide +kernel
theorem dX9_sheep_14 : decode cX9_sheep 14 = .ok (.iload_n 3, 1) := by decide +kernel
theorem dX9_sheep_15 : decode cX9_sheep 15 = .ok (.bipush 99, 2) := by decide +kernel
theorem dX9_sheep_17 : decode cX9_sheep 17 = .ok (.invokestatic 55, 3) := by decide +kernel
theorem dX9_sheep_20 : decode cX9_sheep 20 = .ok (.ifCond .eq 12, 3) := by decide +kernel
theorem dX9_sheep_23 : decode cX9_sheep 23 = .ok (.aload_n 0, 1) := by decide +kernel
theorem dX9_sheep_24 : decode cX9_sheep 24 = .ok (.iload 4, 2) := by decide +kernel
theorem dX9_sheep_26 : decode cX9_sheep 26 = .ok (.invokevirtual 100, 3) := by decide +kernel
theorem dX9_sheep_29 : decode cX9_sheep 29 = .ok (.ifCond .ne 9, 3) := by decide +kernel
theorem dX9_sheep_32 : decode cX9_sheep 32 = .ok (.aload_n 0, 1) := by decide +kernel
theorem dX9_sheep_33 : decode cX9_sheep 33 = .ok (.iconst 1, 1) := by decide +kernel
theorem dX9_sheep_34 : decode cX9_sheep 34 = .ok (.invokevirtual 59, 3) := by decide +kernel
theorem dX9_sheep_37 : decode cX9_sheep 37 = .ok (.ireturn, 1) := by decide +kernel
theorem dX9_sheep_38 : decode cX9_sheep 38 = .ok (.aload_n 0, 1) := by decide +kernel
theorem dX9_sheep_39 : decode cX9_sheep 39 = .ok (.getfield 10, 3) := by decide +kernel
theorem dX9_sheep_42 : decode cX9_sheep 42 = .ok (.getfield 63, 3) := by decide +kernel
theorem dX9_sheep_45 : decode cX9_sheep 45 = .ok (.getfield 103, 3) := by decide +kernel
theorem dX9_sheep_48 : decode cX9_sheep 48 = .ok (.istore 5, 2) := by decide +kernel
theorem dX9_sheep_50 : decode cX9_sheep 50 = .ok (.iload 5, 2) := by decide +kernel
theorem dX9_sheep_52 : decode cX9_sheep 52 = .ok (.bipush 7, 2) := by decide +kernel
theorem dX9_sheep_54 : decode cX9_sheep 54 = .ok (.if_icmp .lt 9, 3) := by decide +kernel
theorem dX9_sheep_57 : decode cX9_sheep 57 = .ok (.aload_n 0, 1) := by decide +kernel
theorem dX9_sheep_58 : decode cX9_sheep 58 = .ok (.iconst 4, 1) := by decide +kernel
theorem dX9_sheep_59 : decode cX9_sheep 59 = .ok (.invokevirtual 59, 3) := by decide +kernel
theorem dX9_sheep_62 : decode cX9_sheep 62 = .ok (.ireturn, 1) := by decide +kernel
theorem dX9_sheep_63 : decode cX9_sheep 63 = .ok (.aload_n 0, 1) := by decide +kernel
theorem dX9_sheep_64 : decode cX9_sheep 64 = .ok (.getfield 10, 3) := by decide +kernel
theorem dX9_sheep_67 : decode cX9_sheep 67 = .ok (.getfield 63, 3) := by decide +kernel
theorem dX9_sheep_70 : decode cX9_sheep 70 = .ok (.getfield 106, 3) := by decide +kernel
theorem dX9_sheep_73 : decode cX9_sheep 73 = .ok (.iload 5, 2) := by decide +kernel
theorem dX9_sheep_75 : decode cX9_sheep 75 = .ok (.aaload, 1) := by decide +kernel
theorem dX9_sheep_76 : decode cX9_sheep 76 = .ok (.astore 6, 2) := by decide +kernel
theorem dX9_sheep_78 : decode cX9_sheep 78 = .ok (.aload 6, 2) := by decide +kernel
theorem dX9_sheep_80 : decode cX9_sheep 80 = .ok (.iload_n 1, 1) := by decide +kernel
theorem dX9_sheep_81 : decode cX9_sheep 81 = .ok (.bipush 10, 2) := by decide +kernel
theorem dX9_sheep_83 : decode cX9_sheep 83 = .ok (.idiv, 1) := by decide +kernel
theorem dX9_sheep_84 : decode cX9_sheep 84 = .ok (.putfield 110, 3) := by decide +kernel
theorem dX9_sheep_87 : decode cX9_sheep 87 = .ok (.aload 6, 2) := by decide +kernel
theorem dX9_sheep_89 : decode cX9_sheep 89 = .ok (.iload_n 1, 1) := by decide +kernel
theorem dX9_sheep_90 : decode cX9_sheep 90 = .ok (.bipush 10, 2) := by decide +kernel
theorem dX9_sheep_92 : decode cX9_sheep 92 = .ok (.irem, 1) := by decide +kernel
theorem dX9_sheep_93 : decode cX9_sheep 93 = .ok (.putfield 115, 3) := by decide +kernel
theorem dX9_sheep_96 : decode cX9_sheep 96 = .ok (.aload 6, 2) := by decide +kernel
theorem dX9_sheep_98 : decode cX9_sheep 98 = .ok (.iload_n 2, 1) := by decide +kernel
theorem dX9_sheep_99 : decode cX9_sheep 99 = .ok (.putfield 118, 3) := by decide +kernel
theorem dX9_sheep_102 : decode cX9_sheep 102 = .ok (.aload 6, 2) := by decide +kernel
theorem dX9_sheep_104 : decode cX9_sheep 104 = .ok (.iload_n 3, 1) := by decide +kernel
theorem dX9_sheep_105 : decode cX9_sheep 105 = .ok (.putfield 121, 3) := by decide +kernel
theorem dX9_sheep_108 : decode cX9_sheep 108 = .ok (.aload 6, 2) := by decide +kernel
theorem dX9_sheep_110 : decode cX9_sheep 110 = .ok (.iload 4, 2) := by decide +kernel
theorem dX9_sheep_112 : decode cX9_sheep 112 = .ok (.putfield 124, 3) := by decide +kernel
theorem dX9_sheep_115 : decode cX9_sheep 115 = .ok (.aload 6, 2) := by decide +kernel
theorem dX9_sheep_117 : decode cX9_sheep 117 = .ok (.iconst 0, 1) := by decide +kernel
theorem dX9_sheep_118 : decode cX9_sheep 118 = .ok (.putfield 127, 3) := by decide +kernel
theorem dX9_sheep_121 : decode cX9_sheep 121 = .ok (.aload_n 0, 1) := by decide +kernel
theorem dX9_sheep_122 : decode cX9_sheep 122 = .ok (.getfield 10, 3) := by decide +kernel
theorem dX9_sheep_125 : decode cX9_sheep 125 = .ok (.getfield 63, 3) := by decide +kernel
theorem dX9_sheep_128 : decode cX9_sheep 128 = .ok (.iload 5, 2) := by decide +kernel
theorem dX9_sheep_130 : decode cX9_sheep 130 = .ok (.iconst 1, 1) := by decide +kernel
theorem dX9_sheep_131 : decode cX9_sheep 131 = .ok (.iadd, 1) := by decide +kernel
theorem dX9_sheep_132 : decode cX9_sheep 132 = .ok (.putfield 103, 3) := by decide +kernel
theorem dX9_sheep_135 : decode cX9_sheep 135 = .ok (.iload 5, 2) := by decide +kernel
theorem dX9_sheep_137 : decode cX9_sheep 137 = .ok (.ireturn, 1) := by decide +kernel
theorem dX9_ofSheep_0 : decode cX9_ofSheep 0 = .ok (.aload_n 0, 1) := by decide +kernel
theorem dX9_ofSheep_1 : decode cX9_ofSheep 1 = .ok (.iload_n 1, 1) := by decide +kernel
theorem dX9_ofSheep_2 : decode cX9_ofSheep 2 = .ok (.invokevirtual 131, 3) := by decide +kernel
theorem dX9_ofSheep_5 : decode cX9_ofSheep 5 = .ok (.ifCond .ne 9, 3) := by decide +kernel
theorem dX9_ofSheep_8 : decode cX9_ofSheep 8 = .ok (.aload_n 0, 1) := by decide +kernel
theorem dX9_ofSheep_9 : decode cX9_ofSheep 9 = .ok (.iconst 1, 1) := by decide +kernel
theorem dX9_ofSheep_10 : decode cX9_ofSheep 10 = .ok (.invokevirtual 59, 3) := by decide +kernel
theorem dX9_ofSheep_13 : decode cX9_ofSheep 13 = .ok (.ireturn, 1) := by decide +kernel
theorem dX9_ofSheep_14 : decode cX9_ofSheep 14 = .ok (.aload_n 0, 1) := by decide +kernel
theorem dX9_ofSheep_15 : decode cX9_ofSheep 15 = .ok (.getfield 10, 3) := by decide +kernel
theorem dX9_ofSheep_18 : decode cX9_ofSheep 18 = .ok (.getfield 63, 3) := by decide +kernel
theorem dX9_ofSheep_21 : decode cX9_ofSheep 21 = .ok (.getfield 106, 3) := by decide +kernel
theorem dX9_ofSheep_24 : decode cX9_ofSheep 24 = .ok (.iload_n 1, 1) := by decide +kernel
theorem dX9_ofSheep_25 : decode cX9_ofSheep 25 = .ok (.aaload, 1) := by decide +kernel
theorem dX9_ofSheep_26 : decode cX9_ofSheep 26 = .ok (.astore_n 3, 1) := by decide +kernel
theorem dX9_ofSheep_27 : decode cX9_ofSheep 27 = .ok (.iload_n 2, 1) := by decide +kernel
theorem dX9_ofSheep_28 : decode cX9_ofSheep 28 = .ok (.tableswitch 116 0 7 #[48, 53, 58, 63, 68, 73, 86, 101], 48) := by decide +kernel
theorem dX9_ofSheep_76 : decode cX9_ofSheep 76 = .ok (.aload_n 3, 1) := by decide +kernel
theorem dX9_ofSheep_77 : decode cX9_ofSheep 77 = .ok (.getfield 110, 3) := by decide +kernel
theorem dX9_ofSheep_80 : decode cX9_ofSheep 80 = .ok (.ireturn, 1) := by decide +kernel
theorem dX9_ofSheep_81 : decode cX9_ofSheep 81 = .ok (.aload_n 3, 1) := by decide +kernel
theorem dX9_ofSheep_82 : decode cX9_ofSheep 82 = .ok (.getfield 115, 3) := by decide +kernel
theorem dX9_ofSheep_85 : decode cX9_ofSheep 85 = .ok (.ireturn, 1) := by decide +kernel
theorem dX9_ofSheep_86 : decode cX9_ofSheep 86 = .ok (.aload_n 3, 1) := by decide +kernel
theorem dX9_ofSheep_87 : decode cX9_ofSheep 87 = .ok (.getfield 118, 3) := by decide +kernel
theorem dX9_ofSheep_90 : decode cX9_ofSheep 90 = .ok (.ireturn, 1) := by decide +kernel
theorem dX9_ofSheep_91 : decode cX9_ofSheep 91 = .ok (.aload_n 3, 1) := by decide +kernel
theorem dX9_ofSheep_92 : decode cX9_ofSheep 92 = .ok (.getfield 121, 3) := by decide +kernel
theorem dX9_ofSheep_95 : decode cX9_ofSheep 95 = .ok (.ireturn, 1) := by decide +kernel
theorem dX9_ofSheep_96 : decode cX9_ofSheep 96 = .ok (.aload_n 3, 1) := by decide +kernel
theorem dX9_ofSheep_97 : decode cX9_ofSheep 97 = .ok (.getfield 124, 3) := by decide +kernel
theorem dX9_ofSheep_100 : decode cX9_ofSheep 100 = .ok (.ireturn, 1) := by decide +kernel
theorem dX9_ofSheep_101 : decode cX9_ofSheep 101 = .ok (.aload_n 3, 1) := by decide +kernel
theorem dX9_ofSheep_102 : decode cX9_ofSheep 102 = .ok (.getfield 127, 3) := by decide +kernel
theorem dX9_ofSheep_105 : decode cX9_ofSheep 105 = .ok (.ifCond .eq 7, 3) := by decide +kernel
theorem dX9_ofSheep_108 : decode cX9_ofSheep 108 = .ok (.iconst 1, 1) := by decide +kernel
theorem dX9_ofSheep_109 : decode cX9_ofSheep 109 = .ok (.goto 4, 3) := by decide +kernel
theorem dX9_ofSheep_112 : decode cX9_ofSheep 112 = .ok (.iconst 0, 1) := by decide +kernel
theorem dX9_ofSheep_113 : decode cX9_ofSheep 113 = .ok (.ireturn, 1) := by decide +kernel
theorem dX9_ofSheep_114 : decode cX9_ofSheep 114 = .ok (.aload_n 3, 1) := by decide +kernel
theorem dX9_ofSheep_115 : decode cX9_ofSheep 115 = .ok (.aload_n 0, 1) := by decide +kernel
theorem dX9_ofSheep_116 : decode cX9_ofSheep 116 = .ok (.getfield 10, 3) := by decide +kernel
theorem dX9_ofSheep_119 : decode cX9_ofSheep 119 = .ok (.getfield 63, 3) := by decide +kernel
theorem dX9_ofSheep_122 : decode cX9_ofSheep 122 = .ok (.getfield 134, 3) := by decide +kernel
theorem dX9_ofSheep_125 : decode cX9_ofSheep 125 = .ok (.invokevirtual 137, 3) := by decide +kernel
theorem dX9_ofSheep_128 : decode cX9_ofSheep 128 = .ok (.ireturn, 1) := by decide +kernel
theorem dX9_ofSheep_129 : decode cX9_ofSheep 129 = .ok (.aload_n 3, 1) := by decide +kernel
theorem dX9_ofSheep_130 : decode cX9_ofSheep 130 = .ok (.aload_n 0, 1) := by decide +kernel
theorem dX9_ofSheep_131 : decode cX9_ofSheep 131 = .ok (.getfield 10, 3) := by decide +kernel
theorem dX9_ofSheep_134 : decode cX9_ofSheep 134 = .ok (.getfield 63, 3) := by decide +kernel
theorem dX9_ofSheep_137 : decode cX9_ofSheep 137 = .ok (.getfield 134, 3) := by decide +kernel
theorem dX9_ofSheep_140 : decode cX9_ofSheep 140 = .ok (.invokevirtual 140, 3) := by decide +kernel
theorem dX9_ofSheep_143 : decode cX9_ofSheep 143 = .ok (.ireturn, 1) := by decide +kernel
theorem dX9_ofSheep_144 : decode cX9_ofSheep 144 = .ok (.aload_n 0, 1) := by decide +kernel
theorem dX9_ofSheep_145 : decode cX9_ofSheep 145 = .ok (.iconst 1, 1) := by decide +kernel
theorem dX9_ofSheep_146 : decode cX9_ofSheep 146 = .ok (.invokevirtual 59, 3) := by decide +kernel
theorem dX9_ofSheep_149 : decode cX9_ofSheep 149 = .ok (.ireturn, 1) := by decide +kernel
theorem dX9_change_0 : decode cX9_change 0 = .ok (.aload_n 0, 1) := by decide +kernel
theorem dX9_change_1 : decode cX9_change 1 = .ok (.iload_n 1, 1) := by decide +kernel
theorem dX9_change_2 : decode cX9_change 2 = .ok (.invokevirtual 131, 3) := by decide +kernel
theorem dX9_change_5 : decode cX9_change 5 = .ok (.ifCond .eq 12, 3) := by decide +kernel
theorem dX9_change_8 : decode cX9_change 8 = .ok (.aload_n 0, 1) := by decide +kernel
theorem dX9_change_9 : decode cX9_change 9 = .ok (.iload_n 2, 1) := by decide +kernel
theorem dX9_change_10 : decode cX9_change 10 = .ok (.iload_n 3, 1) := by decide +kernel
theorem dX9_change_11 : decode cX9_change 11 = .ok (.invokevirtual 143, 3) := by decide +kernel
theorem dX9_change_14 : decode cX9_change 14 = .ok (.ifCond .ne 9, 3) := by decide +kernel
theorem dX9_change_17 : decode cX9_change 17 = .ok (.aload_n 0, 1) := by decide +kernel
theorem dX9_change_18 : decode cX9_change 18 = .ok (.iconst 1, 1) := by decide +kernel
theorem dX9_change_19 : decode cX9_change 19 = .ok (.invokevirtual 59, 3) := by decide +kernel
theorem dX9_change_22 : decode cX9_change 22 = .ok (.ireturn, 1) := by decide +kernel
theorem dX9_change_23 : decode cX9_change 23 = .ok (.aload_n 0, 1) := by decide +kernel
theorem dX9_change_24 : decode cX9_change 24 = .ok (.getfield 10, 3) := by decide +kernel
theorem dX9_change_27 : decode cX9_change 27 = .ok (.getfield 63, 3) := by decide +kernel
theorem dX9_change_30 : decode cX9_change 30 = .ok (.getfield 106, 3) := by decide +kernel
theorem dX9_change_33 : decode cX9_change 33 = .ok (.iload_n 1, 1) := by decide +kernel
theorem dX9_change_34 : decode cX9_change 34 = .ok (.aaload, 1) := by decide +kernel
theorem dX9_change_35 : decode cX9_change 35 = .ok (.astore 4, 2) := by decide +kernel
theorem dX9_change_37 : decode cX9_change 37 = .ok (.iload_n 2, 1) := by decide +kernel
theorem dX9_change_38 : decode cX9_change 38 = .ok (.tableswitch 74 0 2 #[26, 42, 58], 26) := by decide +kernel
theorem dX9_change_64 : decode cX9_change 64 = .ok (.aload 4, 2) := by decide +kernel
theorem dX9_change_66 : decode cX9_change 66 = .ok (.getfield 118, 3) := by decide +kernel
theorem dX9_change_69 : decode cX9_change 69 = .ok (.istore 5, 2) := by decide +kernel
theorem dX9_change_71 : decode cX9_change 71 = .ok (.aload 4, 2) := by decide +kernel
theorem dX9_change_73 : decode cX9_change 73 = .ok (.iload_n 3, 1) := by decide +kernel
theorem dX9_change_74 : decode cX9_change 74 = .ok (.putfield 118, 3) := by decide +kernel
theorem dX9_change_77 : decode cX9_change 77 = .ok (.iload 5, 2) := by decide +kernel
theorem dX9_change_79 : decode cX9_change 79 = .ok (.ireturn, 1) := by decide +kernel
theorem dX9_change_80 : decode cX9_change 80 = .ok (.aload 4, 2) := by decide +kernel
theorem dX9_change_82 : decode cX9_change 82 = .ok (.getfield 121, 3) := by decide +kernel
theorem dX9_change_85 : decode cX9_change 85 = .ok (.istore 5, 2) := by decide +kernel
theorem dX9_change_87 : decode cX9_change 87 = .ok (.aload 4, 2) := by decide +kernel
theorem dX9_change_89 : decode cX9_change 89 = .ok (.iload_n 3, 1) := by decide +kernel
theorem dX9_change_90 : decode cX9_change 90 = .ok (.putfield 121, 3) := by decide +kernel
theorem dX9_change_93 : decode cX9_change 93 = .ok (.iload 5, 2) := by decide +kernel
theorem dX9_change_95 : decode cX9_change 95 = .ok (.ireturn, 1) := by decide +kernel
theorem dX9_change_96 : decode cX9_change 96 = .ok (.aload 4, 2) := by decide +kernel
theorem dX9_change_98 : decode cX9_change 98 = .ok (.getfield 124, 3) := by decide +kernel
theorem dX9_change_101 : decode cX9_change 101 = .ok (.istore 5, 2) := by decide +kernel
theorem dX9_change_103 : decode cX9_change 103 = .ok (.aload 4, 2) := by decide +kernel
theorem dX9_change_105 : decode cX9_change 105 = .ok (.iload_n 3, 1) := by decide +kernel
theorem dX9_change_106 : decode cX9_change 106 = .ok (.putfield 124, 3) := by decide +kernel
theorem dX9_change_109 : decode cX9_change 109 = .ok (.iload 5, 2) := by decide +kernel
theorem dX9_change_111 : decode cX9_change 111 = .ok (.ireturn, 1) := by decide +kernel
theorem dX9_change_112 : decode cX9_change 112 = .ok (.aload 4, 2) := by decide +kernel
theorem dX9_change_114 : decode cX9_change 114 = .ok (.getfield 127, 3) := by decide +kernel
theorem dX9_change_117 : decode cX9_change 117 = .ok (.ifCond .eq 7, 3) := by decide +kernel
theorem dX9_change_120 : decode cX9_change 120 = .ok (.iconst 1, 1) := by decide +kernel
theorem dX9_change_121 : decode cX9_change 121 = .ok (.goto 4, 3) := by decide +kernel
theorem dX9_change_124 : decode cX9_change 124 = .ok (.iconst 0, 1) := by decide +kernel
theorem dX9_change_125 : decode cX9_change 125 = .ok (.istore 5, 2) := by decide +kernel
theorem dX9_change_127 : decode cX9_change 127 = .ok (.aload 4, 2) := by decide +kernel
theorem dX9_change_129 : decode cX9_change 129 = .ok (.iload_n 3, 1) := by decide +kernel
theorem dX9_change_130 : decode cX9_change 130 = .ok (.iconst 1, 1) := by decide +kernel
theorem dX9_change_131 : decode cX9_change 131 = .ok (.if_icmp .ne 7, 3) := by decide +kernel
theorem dX9_change_134 : decode cX9_change 134 = .ok (.iconst 1, 1) := by decide +kernel
theorem dX9_change_135 : decode cX9_change 135 = .ok (.goto 4, 3) := by decide +kernel
theorem dX9_change_138 : decode cX9_change 138 = .ok (.iconst 0, 1) := by decide +kernel
theorem dX9_change_139 : decode cX9_change 139 = .ok (.putfield 127, 3) := by decide +kernel
theorem dX9_change_142 : decode cX9_change 142 = .ok (.iload 5, 2) := by decide +kernel
theorem dX9_change_144 : decode cX9_change 144 = .ok (.ireturn, 1) := by decide +kernel
theorem dX9_become_0 : decode cX9_become 0 = .ok (.aload_n 0, 1) := by decide +kernel
theorem dX9_become_1 : decode cX9_become 1 = .ok (.iload_n 1, 1) := by decide +kernel
theorem dX9_become_2 : decode cX9_become 2 = .ok (.invokevirtual 131, 3) := by decide +kernel
theorem dX9_become_5 : decode cX9_become 5 = .ok (.ifCond .eq 10, 3) := by decide +kernel
theorem dX9_become_8 : decode cX9_become 8 = .ok (.iload_n 2, 1) := by decide +kernel
theorem dX9_become_9 : decode cX9_become 9 = .ok (.invokestatic 97, 3) := by decide +kernel
theorem dX9_become_12 : decode cX9_become 12 = .ok (.ifCond .ne 9, 3) := by decide +kernel
theorem dX9_become_15 : decode cX9_become 15 = .ok (.aload_n 0, 1) := by decide +kernel
theorem dX9_become_16 : decode cX9_become 16 = .ok (.iconst 1, 1) := by decide +kernel
theorem dX9_become_17 : decode cX9_become 17 = .ok (.invokevirtual 59, 3) := by decide +kernel
theorem dX9_become_20 : decode cX9_become 20 = .ok (.ireturn, 1) := by decide +kernel
theorem dX9_become_21 : decode cX9_become 21 = .ok (.aload_n 0, 1) := by decide +kernel
theorem dX9_become_22 : decode cX9_become 22 = .ok (.getfield 10, 3) := by decide +kernel
theorem dX9_become_25 : decode cX9_become 25 = .ok (.getfield 63, 3) := by decide +kernel
theorem dX9_become_28 : decode cX9_become 28 = .ok (.getfield 106, 3) := by decide +kernel
theorem dX9_become_31 : decode cX9_become 31 = .ok (.iload_n 1, 1) := by decide +kernel
theorem dX9_become_32 : decode cX9_become 32 = .ok (.aaload, 1) := by decide +kernel
theorem dX9_become_33 : decode cX9_become 33 = .ok (.astore_n 3, 1) := by decide +kernel
theorem dX9_become_34 : decode cX9_become 34 = .ok (.aload_n 3, 1) := by decide +kernel
theorem dX9_become_35 : decode cX9_become 35 = .ok (.getfield 110, 3) := by decide +kernel
theorem dX9_become_38 : decode cX9_become 38 = .ok (.istore 4, 2) := by decide +kernel
theorem dX9_become_40 : decode cX9_become 40 = .ok (.aload_n 3, 1) := by decide +kernel
theorem dX9_become_41 : decode cX9_become 41 = .ok (.iload_n 2, 1) := by decide +kernel
theorem dX9_become_42 : decode cX9_become 42 = .ok (.bipush 10, 2) := by decide +kernel
theorem dX9_become_44 : decode cX9_become 44 = .ok (.idiv, 1) := by decide +kernel
theorem dX9_become_45 : decode cX9_become 45 = .ok (.putfield 110, 3) := by decide +kernel
theorem dX9_become_48 : decode cX9_become 48 = .ok (.aload_n 3, 1) := by decide +kernel
theorem dX9_become_49 : decode cX9_become 49 = .ok (.iload_n 2, 1) := by decide +kernel
theorem dX9_become_50 : decode cX9_become 50 = .ok (.bipush 10, 2) := by decide +kernel
theorem dX9_become_52 : decode cX9_become 52 = .ok (.irem, 1) := by decide +kernel
theorem dX9_become_53 : decode cX9_become 53 = .ok (.putfield 115, 3) := by decide +kernel
theorem dX9_become_56 : decode cX9_become 56 = .ok (.iload 4, 2) := by decide +kernel
theorem dX9_become_58 : decode cX9_become 58 = .ok (.ireturn, 1) := by decide +kernel
theorem dX9_as_0 : decode cX9_as 0 = .ok (.aload_n 0, 1) := by decide +kernel
theorem dX9_as_1 : decode cX9_as 1 = .ok (.iload_n 1, 1) := by decide +kernel
theorem dX9_as_2 : decode cX9_as 2 = .ok (.invokevirtual 131, 3) := by decide +kernel
theorem dX9_as_5 : decode cX9_as 5 = .ok (.ifCond .eq 12, 3) := by decide +kernel
theorem dX9_as_8 : decode cX9_as 8 = .ok (.iload_n 2, 1) := by decide +kernel
theorem dX9_as_9 : decode cX9_as 9 = .ok (.bipush 6, 2) := by decide +kernel
theorem dX9_as_11 : decode cX9_as 11 = .ok (.invokestatic 55, 3) := by decide +kernel
theorem dX9_as_14 : decode cX9_as 14 = .ok (.ifCond .ne 9, 3) := by decide +kernel
theorem dX9_as_17 : decode cX9_as 17 = .ok (.aload_n 0, 1) := by decide +kernel
theorem dX9_as_18 : decode cX9_as 18 = .ok (.iconst 1, 1) := by decide +kernel
theorem dX9_as_19 : decode cX9_as 19 = .ok (.invokevirtual 59, 3) := by decide +kernel
theorem dX9_as_22 : decode cX9_as 22 = .ok (.ireturn, 1) := by decide +kernel
theorem dX9_as_23 : decode cX9_as 23 = .ok (.aload_n 0, 1) := by decide +kernel
theorem dX9_as_24 : decode cX9_as 24 = .ok (.getfield 10, 3) := by decide +kernel
theorem dX9_as_27 : decode cX9_as 27 = .ok (.getfield 63, 3) := by decide +kernel
theorem dX9_as_30 : decode cX9_as 30 = .ok (.getfield 106, 3) := by decide +kernel
theorem dX9_as_33 : decode cX9_as 33 = .ok (.iload_n 1, 1) := by decide +kernel
theorem dX9_as_34 : decode cX9_as 34 = .ok (.aaload, 1) := by decide +kernel
theorem dX9_as_35 : decode cX9_as 35 = .ok (.astore_n 3, 1) := by decide +kernel
theorem dX9_as_36 : decode cX9_as 36 = .ok (.aload_n 3, 1) := by decide +kernel
theorem dX9_as_37 : decode cX9_as 37 = .ok (.getfield 110, 3) := by decide +kernel
theorem dX9_as_40 : decode cX9_as 40 = .ok (.iload_n 2, 1) := by decide +kernel
theorem dX9_as_41 : decode cX9_as 41 = .ok (.invokestatic 146, 3) := by decide +kernel
theorem dX9_as_44 : decode cX9_as 44 = .ok (.ifCond .eq 10, 3) := by decide +kernel
theorem dX9_as_47 : decode cX9_as 47 = .ok (.aload_n 3, 1) := by decide +kernel
theorem dX9_as_48 : decode cX9_as 48 = .ok (.getfield 115, 3) := by decide +kernel
theorem dX9_as_51 : decode cX9_as 51 = .ok (.goto 8, 3) := by decide +kernel
theorem dX9_as_54 : decode cX9_as 54 = .ok (.aload_n 0, 1) := by decide +kernel
theorem dX9_as_55 : decode cX9_as 55 = .ok (.iconst 5, 1) := by decide +kernel
theorem dX9_as_56 : decode cX9_as 56 = .ok (.invokevirtual 59, 3) := by decide +kernel
theorem dX9_as_59 : decode cX9_as 59 = .ok (.ireturn, 1) := by decide +kernel
theorem dX9_feed_0 : decode cX9_feed 0 = .ok (.iload_n 3, 1) := by decide +kernel
theorem dX9_feed_1 : decode cX9_feed 1 = .ok (.iconst 1, 1) := by decide +kernel
theorem dX9_feed_2 : decode cX9_feed 2 = .ok (.if_icmp .lt 9, 3) := by decide +kernel
theorem dX9_feed_5 : decode cX9_feed 5 = .ok (.iload_n 3, 1) := by decide +kernel
theorem dX9_feed_6 : decode cX9_feed 6 = .ok (.bipush 8, 2) := by decide +kernel
theorem dX9_feed_8 : decode cX9_feed 8 = .ok (.if_icmp .le 9, 3) := by decide +kernel
theorem dX9_feed_11 : decode cX9_feed 11 = .ok (.aload_n 0, 1) := by decide +kernel
theorem dX9_feed_12 : decode cX9_feed 12 = .ok (.iconst 1, 1) := by decide +kernel
theorem dX9_feed_13 : decode cX9_feed 13 = .ok (.invokevirtual 59, 3) := by decide +kernel
theorem dX9_feed_16 : decode cX9_feed 16 = .ok (.ireturn, 1) := by decide +kernel
theorem dX9_feed_17 : decode cX9_feed 17 = .ok (.aload_n 0, 1) := by decide +kernel
theorem dX9_feed_18 : decode cX9_feed 18 = .ok (.getfield 10, 3) := by decide +kernel
theorem dX9_feed_21 : decode cX9_feed 21 = .ok (.getfield 149, 3) := by decide +kernel
theorem dX9_feed_24 : decode cX9_feed 24 = .ok (.getfield 153, 3) := by decide +kernel
theorem dX9_feed_27 : decode cX9_feed 27 = .ok (.iload_n 3, 1) := by decide +kernel
theorem dX9_feed_28 : decode cX9_feed 28 = .ok (.iadd, 1) := by decide +kernel
theorem dX9_feed_29 : decode cX9_feed 29 = .ok (.bipush 50, 2) := by decide +kernel
theorem dX9_feed_31 : decode cX9_feed 31 = .ok (.if_icmp .le 9, 3) := by decide +kernel
theorem dX9_feed_34 : decode cX9_feed 34 = .ok (.aload_n 0, 1) := by decide +kernel
theorem dX9_feed_35 : decode cX9_feed 35 = .ok (.iconst 4, 1) := by decide +kernel
theorem dX9_feed_36 : decode cX9_feed 36 = .ok (.invokevirtual 59, 3) := by decide +kernel
theorem dX9_feed_39 : decode cX9_feed 39 = .ok (.ireturn, 1) := by decide +kernel
theorem dX9_feed_40 : decode cX9_feed 40 = .ok (.iconst 0, 1) := by decide +kernel
theorem dX9_feed_41 : decode cX9_feed 41 = .ok (.istore 4, 2) := by decide +kernel
theorem dX9_feed_43 : decode cX9_feed 43 = .ok (.iload 4, 2) := by decide +kernel
theorem dX9_feed_45 : decode cX9_feed 45 = .ok (.iload_n 3, 1) := by decide +kernel
theorem dX9_feed_46 : decode cX9_feed 46 = .ok (.if_icmp .ge 32, 3) := by decide +kernel
theorem dX9_feed_49 : decode cX9_feed 49 = .ok (.aload_n 0, 1) := by decide +kernel
theorem dX9_feed_50 : decode cX9_feed 50 = .ok (.getfield 10, 3) := by decide +kernel
theorem dX9_feed_53 : decode cX9_feed 53 = .ok (.getfield 149, 3) := by decide +kernel
theorem dX9_feed_56 : decode cX9_feed 56 = .ok (.lload_n 1, 1) := by decide +kernel
theorem dX9_feed_57 : decode cX9_feed 57 = .ok (.bipush 8, 2) := by decide +kernel
theorem dX9_feed_59 : decode cX9_feed 59 = .ok (.iload 4, 2) := by decide +kernel
theorem dX9_feed_61 : decode cX9_feed 61 = .ok (.imul, 1) := by decide +kernel
theorem dX9_feed_62 : decode cX9_feed 62 = .ok (.lushr, 1) := by decide +kernel
theorem dX9_feed_63 : decode cX9_feed 63 = .ok (.l2i, 1) := by decide +kernel
theorem dX9_feed_64 : decode cX9_feed 64 = .ok (.sipush 255, 3) := by decide +kernel
theorem dX9_feed_67 : decode cX9_feed 67 = .ok (.iand, 1) := by decide +kernel
theorem dX9_feed_68 : decode cX9_feed 68 = .ok (.invokevirtual 158, 3) := by decide +kernel
theorem dX9_feed_71 : decode cX9_feed 71 = .ok (.pop, 1) := by decide +kernel
theorem dX9_feed_72 : decode cX9_feed 72 = .ok (.iinc 4 1, 3) := by decide +kernel
theorem dX9_feed_75 : decode cX9_feed 75 = .ok (.goto (-32), 3) := by decide +kernel
theorem dX9_feed_78 : decode cX9_feed 78 = .ok (.aload_n 0, 1) := by decide +kernel
theorem dX9_feed_79 : decode cX9_feed 79 = .ok (.getfield 10, 3) := by decide +kernel
theorem dX9_feed_82 : decode cX9_feed 82 = .ok (.getfield 149, 3) := by decide +kernel
theorem dX9_feed_85 : decode cX9_feed 85 = .ok (.getfield 153, 3) := by decide +kernel
theorem dX9_feed_88 : decode cX9_feed 88 = .ok (.ireturn, 1) := by decide +kernel
theorem dX9_text_0 : decode cX9_text 0 = .ok (.iload_n 1, 1) := by decide +kernel
theorem dX9_text_1 : decode cX9_text 1 = .ok (.iconst 1, 1) := by decide +kernel
theorem dX9_text_2 : decode cX9_text 2 = .ok (.invokestatic 55, 3) := by decide +kernel
theorem dX9_text_5 : decode cX9_text 5 = .ok (.ifCond .ne 9, 3) := by decide +kernel
theorem dX9_text_8 : decode cX9_text 8 = .ok (.aload_n 0, 1) := by decide +kernel
theorem dX9_text_9 : decode cX9_text 9 = .ok (.iconst 1, 1) := by decide +kernel
theorem dX9_text_10 : decode cX9_text 10 = .ok (.invokevirtual 59, 3) := by decide +kernel
theorem dX9_text_13 : decode cX9_text 13 = .ok (.ireturn, 1) := by decide +kernel
theorem dX9_text_14 : decode cX9_text 14 = .ok (.aload_n 0, 1) := by decide +kernel
theorem dX9_text_15 : decode cX9_text 15 = .ok (.getfield 29, 3) := by decide +kernel
theorem dX9_text_18 : decode cX9_text 18 = .ok (.aload_n 0, 1) := by decide +kernel
theorem dX9_text_19 : decode cX9_text 19 = .ok (.getfield 10, 3) := by decide +kernel
theorem dX9_text_22 : decode cX9_text 22 = .ok (.getfield 149, 3) := by decide +kernel
theorem dX9_text_25 : decode cX9_text 25 = .ok (.iload_n 1, 1) := by decide +kernel
theorem dX9_text_26 : decode cX9_text 26 = .ok (.invokevirtual 161, 3) := by decide +kernel
theorem dX9_text_29 : decode cX9_text 29 = .ok (.istore_n 2, 1) := by decide +kernel
theorem dX9_text_30 : decode cX9_text 30 = .ok (.aload_n 0, 1) := by decide +kernel
theorem dX9_text_31 : decode cX9_text 31 = .ok (.getfield 10, 3) := by decide +kernel
theorem dX9_text_34 : decode cX9_text 34 = .ok (.getfield 149, 3) := by decide +kernel
theorem dX9_text_37 : decode cX9_text 37 = .ok (.invokevirtual 165, 3) := by decide +kernel
theorem dX9_text_40 : decode cX9_text 40 = .ok (.iload_n 2, 1) := by decide +kernel
theorem dX9_text_41 : decode cX9_text 41 = .ok (.ifCond .ne 14, 3) := by decide +kernel
theorem dX9_text_44 : decode cX9_text 44 = .ok (.bipush (-10), 2) := by decide +kernel
theorem dX9_text_46 : decode cX9_text 46 = .ok (.aload_n 0, 1) := by decide +kernel
theorem dX9_text_47 : decode cX9_text 47 = .ok (.getfield 29, 3) := by decide +kernel
theorem dX9_text_50 : decode cX9_text 50 = .ok (.getfield 168, 3) := by decide +kernel
theorem dX9_text_53 : decode cX9_text 53 = .ok (.isub, 1) := by decide +kernel
theorem dX9_text_54 : decode cX9_text 54 = .ok (.ireturn, 1) := by decide +kernel
theorem dX9_text_55 : decode cX9_text 55 = .ok (.aload_n 0, 1) := by decide +kernel
theorem dX9_text_56 : decode cX9_text 56 = .ok (.getfield 10, 3) := by decide +kernel
theorem dX9_text_59 : decode cX9_text 59 = .ok (.getfield 63, 3) := by decide +kernel
theorem dX9_text_62 : decode cX9_text 62 = .ok (.iload_n 1, 1) := by decide +kernel
theorem dX9_text_63 : decode cX9_text 63 = .ok (.invokevirtual 171, 3) := by decide +kernel
theorem dX9_text_66 : decode cX9_text 66 = .ok (.getfield 175, 3) := by decide +kernel
theorem dX9_text_69 : decode cX9_text 69 = .ok (.aload_n 0, 1) := by decide +kernel
theorem dX9_text_70 : decode cX9_text 70 = .ok (.getfield 29, 3) := by decide +kernel
theorem dX9_text_73 : decode cX9_text 73 = .ok (.getfield 180, 3) := by decide +kernel
theorem dX9_text_76 : decode cX9_text 76 = .ok (.invokevirtual 181, 3) := by decide +kernel
theorem dX9_text_79 : decode cX9_text 79 = .ok (.iconst 1, 1) := by decide +kernel
theorem dX9_text_80 : decode cX9_text 80 = .ok (.ireturn, 1) := by decide +kernel
theorem dX9_law_0 : decode cX9_law 0 = .ok (.iload_n 1, 1) := by decide +kernel
theorem dX9_law_1 : decode cX9_law 1 = .ok (.iconst 1, 1) := by decide +kernel
theorem dX9_law_2 : decode cX9_law 2 = .ok (.invokestatic 55, 3) := by decide +kernel
theorem dX9_law_5 : decode cX9_law 5 = .ok (.ifCond .ne 9, 3) := by decide +kernel
theorem dX9_law_8 : decode cX9_law 8 = .ok (.aload_n 0, 1) := by decide +kernel
theorem dX9_law_9 : decode cX9_law 9 = .ok (.iconst 1, 1) := by decide +kernel
theorem dX9_law_10 : decode cX9_law 10 = .ok (.invokevirtual 59, 3) := by decide +kernel
theorem dX9_law_13 : decode cX9_law 13 = .ok (.ireturn, 1) := by decide +kernel
theorem dX9_law_14 : decode cX9_law 14 = .ok (.aload_n 0, 1) := by decide +kernel
theorem dX9_law_15 : decode cX9_law 15 = .ok (.getfield 10, 3) := by decide +kernel
theorem dX9_law_18 : decode cX9_law 18 = .ok (.getfield 63, 3) := by decide +kernel
theorem dX9_law_21 : decode cX9_law 21 = .ok (.iload_n 1, 1) := by decide +kernel
theorem dX9_law_22 : decode cX9_law 22 = .ok (.invokevirtual 171, 3) := by decide +kernel
theorem dX9_law_25 : decode cX9_law 25 = .ok (.iload_n 2, 1) := by decide +kernel
theorem dX9_law_26 : decode cX9_law 26 = .ok (.iload_n 3, 1) := by decide +kernel
theorem dX9_law_27 : decode cX9_law 27 = .ok (.iload 4, 2) := by decide +kernel
theorem dX9_law_29 : decode cX9_law 29 = .ok (.invokevirtual 185, 3) := by decide +kernel
theorem dX9_law_32 : decode cX9_law 32 = .ok (.ireturn, 1) := by decide +kernel
theorem dX9_hours_0 : decode cX9_hours 0 = .ok (.iload_n 1, 1) := by decide +kernel
theorem dX9_hours_1 : decode cX9_hours 1 = .ok (.iconst 1, 1) := by decide +kernel
theorem dX9_hours_2 : decode cX9_hours 2 = .ok (.if_icmp .lt 9, 3) := by decide +kernel
theorem dX9_hours_5 : decode cX9_hours 5 = .ok (.iload_n 1, 1) := by decide +kernel
theorem dX9_hours_6 : decode cX9_hours 6 = .ok (.bipush 60, 2) := by decide +kernel
theorem dX9_hours_8 : decode cX9_hours 8 = .ok (.if_icmp .le 9, 3) := by decide +kernel
theorem dX9_hours_11 : decode cX9_hours 11 = .ok (.aload_n 0, 1) := by decide +kernel
theorem dX9_hours_12 : decode cX9_hours 12 = .ok (.iconst 1, 1) := by decide +kernel
theorem dX9_hours_13 : decode cX9_hours 13 = .ok (.invokevirtual 59, 3) := by decide +kernel
theorem dX9_hours_16 : decode cX9_hours 16 = .ok (.ireturn, 1) := by decide +kernel
theorem dX9_hours_17 : decode cX9_hours 17 = .ok (.aload_n 0, 1) := by decide +kernel
theorem dX9_hours_18 : decode cX9_hours 18 = .ok (.getfield 10, 3) := by decide +kernel
theorem dX9_hours_21 : decode cX9_hours 21 = .ok (.getfield 63, 3) := by decide +kernel
theorem dX9_hours_24 : decode cX9_hours 24 = .ok (.getfield 134, 3) := by decide +kernel
theorem dX9_hours_27 : decode cX9_hours 27 = .ok (.iload_n 1, 1) := by decide +kernel
theorem dX9_hours_28 : decode cX9_hours 28 = .ok (.iadd, 1) := by decide +kernel
theorem dX9_hours_29 : decode cX9_hours 29 = .ok (.sipush 9999, 3) := by decide +kernel
theorem dX9_hours_32 : decode cX9_hours 32 = .ok (.if_icmp .le 9, 3) := by decide +kernel
theorem dX9_hours_35 : decode cX9_hours 35 = .ok (.aload_n 0, 1) := by decide +kernel
theorem dX9_hours_36 : decode cX9_hours 36 = .ok (.iconst 3, 1) := by decide +kernel
theorem dX9_hours_37 : decode cX9_hours 37 = .ok (.invokevirtual 59, 3) := by decide +kernel
theorem dX9_hours_40 : decode cX9_hours 40 = .ok (.ireturn, 1) := by decide +kernel
theorem dX9_hours_41 : decode cX9_hours 41 = .ok (.aload_n 0, 1) := by decide +kernel
theorem dX9_hours_42 : decode cX9_hours 42 = .ok (.getfield 10, 3) := by decide +kernel
theorem dX9_hours_45 : decode cX9_hours 45 = .ok (.getfield 63, 3) := by decide +kernel
theorem dX9_hours_48 : decode cX9_hours 48 = .ok (.iload_n 1, 1) := by decide +kernel
theorem dX9_hours_49 : decode cX9_hours 49 = .ok (.invokevirtual 189, 3) := by decide +kernel
theorem dX9_hours_52 : decode cX9_hours 52 = .ok (.aload_n 0, 1) := by decide +kernel
theorem dX9_hours_53 : decode cX9_hours 53 = .ok (.getfield 10, 3) := by decide +kernel
theorem dX9_hours_56 : decode cX9_hours 56 = .ok (.getfield 63, 3) := by decide +kernel
theorem dX9_hours_59 : decode cX9_hours 59 = .ok (.invokevirtual 193, 3) := by decide +kernel
theorem dX9_hours_62 : decode cX9_hours 62 = .ok (.ireturn, 1) := by decide +kernel
theorem dX9_loose_0 : decode cX9_loose 0 = .ok (.iload_n 1, 1) := by decide +kernel
theorem dX9_loose_1 : decode cX9_loose 1 = .ok (.iconst 1, 1) := by decide +kernel
theorem dX9_loose_2 : decode cX9_loose 2 = .ok (.if_icmp .lt 9, 3) := by decide +kernel
theorem dX9_loose_5 : decode cX9_loose 5 = .ok (.iload_n 1, 1) := by decide +kernel
theorem dX9_loose_6 : decode cX9_loose 6 = .ok (.bipush 40, 2) := by decide +kernel
theorem dX9_loose_8 : decode cX9_loose 8 = .ok (.if_icmp .le 9, 3) := by decide +kernel
theorem dX9_loose_11 : decode cX9_loose 11 = .ok (.aload_n 0, 1) := by decide +kernel
theorem dX9_loose_12 : decode cX9_loose 12 = .ok (.iconst 1, 1) := by decide +kernel
theorem dX9_loose_13 : decode cX9_loose 13 = .ok (.invokevirtual 59, 3) := by decide +kernel
theorem dX9_loose_16 : decode cX9_loose 16 = .ok (.ireturn, 1) := by decide +kernel
theorem dX9_loose_17 : decode cX9_loose 17 = .ok (.aload_n 0, 1) := by decide +kernel
theorem dX9_loose_18 : decode cX9_loose 18 = .ok (.getfield 10, 3) := by decide +kernel
theorem dX9_loose_21 : decode cX9_loose 21 = .ok (.getfield 63, 3) := by decide +kernel
theorem dX9_loose_24 : decode cX9_loose 24 = .ok (.getfield 134, 3) := by decide +kernel
theorem dX9_loose_27 : decode cX9_loose 27 = .ok (.iload_n 1, 1) := by decide +kernel
theorem dX9_loose_28 : decode cX9_loose 28 = .ok (.iadd, 1) := by decide +kernel
theorem dX9_loose_29 : decode cX9_loose 29 = .ok (.sipush 9999, 3) := by decide +kernel
theorem dX9_loose_32 : decode cX9_loose 32 = .ok (.if_icmp .le 9, 3) := by decide +kernel
theorem dX9_loose_35 : decode cX9_loose 35 = .ok (.aload_n 0, 1) := by decide +kernel
theorem dX9_loose_36 : decode cX9_loose 36 = .ok (.iconst 3, 1) := by decide +kernel
theorem dX9_loose_37 : decode cX9_loose 37 = .ok (.invokevirtual 59, 3) := by decide +kernel
theorem dX9_loose_40 : decode cX9_loose 40 = .ok (.ireturn, 1) := by decide +kernel
theorem dX9_loose_41 : decode cX9_loose 41 = .ok (.iconst 0, 1) := by decide +kernel
theorem dX9_loose_42 : decode cX9_loose 42 = .ok (.istore_n 2, 1) := by decide +kernel
theorem dX9_loose_43 : decode cX9_loose 43 = .ok (.iload_n 2, 1) := by decide +kernel
theorem dX9_loose_44 : decode cX9_loose 44 = .ok (.iload_n 1, 1) := by decide +kernel
theorem dX9_loose_45 : decode cX9_loose 45 = .ok (.if_icmp .ge 27, 3) := by decide +kernel
theorem dX9_loose_48 : decode cX9_loose 48 = .ok (.aload_n 0, 1) := by decide +kernel
theorem dX9_loose_49 : decode cX9_loose 49 = .ok (.getfield 10, 3) := by decide +kernel
theorem dX9_loose_52 : decode cX9_loose 52 = .ok (.invokevirtual 197, 3) := by decide +kernel
theorem dX9_loose_55 : decode cX9_loose 55 = .ok (.aload_n 0, 1) := by decide +kernel
theorem dX9_loose_56 : decode cX9_loose 56 = .ok (.getfield 10, 3) := by decide +kernel
theorem dX9_loose_59 : decode cX9_loose 59 = .ok (.getfield 63, 3) := by decide +kernel
theorem dX9_loose_62 : decode cX9_loose 62 = .ok (.iconst 1, 1) := by decide +kernel
theorem dX9_loose_63 : decode cX9_loose 63 = .ok (.invokevirtual 189, 3) := by decide +kernel
theorem dX9_loose_66 : decode cX9_loose 66 = .ok (.iinc 2 1, 3) := by decide +kernel
theorem dX9_loose_69 : decode cX9_loose 69 = .ok (.goto (-26), 3) := by decide +kernel
theorem dX9_loose_72 : decode cX9_loose 72 = .ok (.aload_n 0, 1) := by decide +kernel
theorem dX9_loose_73 : decode cX9_loose 73 = .ok (.getfield 10, 3) := by decide +kernel
theorem dX9_loose_76 : decode cX9_loose 76 = .ok (.getfield 63, 3) := by decide +kernel
theorem dX9_loose_79 : decode cX9_loose 79 = .ok (.invokevirtual 193, 3) := by decide +kernel
theorem dX9_loose_82 : decode cX9_loose 82 = .ok (.ireturn, 1) := by decide +kernel
theorem dX9_then_0 : decode cX9_then 0 = .ok (.iload_n 1, 1) := by decide +kernel
theorem dX9_then_1 : decode cX9_then 1 = .ok (.bipush 60, 2) := by decide +kernel
theorem dX9_then_3 : decode cX9_then 3 = .ok (.invokestatic 55, 3) := by decide +kernel
theorem dX9_then_6 : decode cX9_then 6 = .ok (.ifCond .eq 19, 3) := by decide +kernel
theorem dX9_then_9 : decode cX9_then 9 = .ok (.aload_n 0, 1) := by decide +kernel
theorem dX9_then_10 : decode cX9_then 10 = .ok (.iload_n 2, 1) := by decide +kernel
theorem dX9_then_11 : decode cX9_then 11 = .ok (.invokevirtual 131, 3) := by decide +kernel
theorem dX9_then_14 : decode cX9_then 14 = .ok (.ifCond .eq 11, 3) := by decide +kernel
theorem dX9_then_17 : decode cX9_then 17 = .ok (.iload_n 3, 1) := by decide +kernel
theorem dX9_then_18 : decode cX9_then 18 = .ok (.iconst 2, 1) := by decide +kernel
theorem dX9_then_19 : decode cX9_then 19 = .ok (.invokestatic 55, 3) := by decide +kernel
theorem dX9_then_22 : decode cX9_then 22 = .ok (.ifCond .ne 9, 3) := by decide +kernel
theorem dX9_then_25 : decode cX9_then 25 = .ok (.aload_n 0, 1) := by decide +kernel
theorem dX9_then_26 : decode cX9_then 26 = .ok (.iconst 1, 1) := by decide +kernel
theorem dX9_then_27 : decode cX9_then 27 = .ok (.invokevirtual 59, 3) := by decide +kernel
theorem dX9_then_30 : decode cX9_then 30 = .ok (.ireturn, 1) := by decide +kernel
theorem dX9_then_31 : decode cX9_then 31 = .ok (.aload_n 0, 1) := by decide +kernel
theorem dX9_then_32 : decode cX9_then 32 = .ok (.invokevirtual 200, 3) := by decide +kernel
theorem dX9_then_35 : decode cX9_then 35 = .ok (.aload_n 0, 1) := by decide +kernel
theorem dX9_then_36 : decode cX9_then 36 = .ok (.getfield 22, 3) := by decide +kernel
theorem dX9_then_39 : decode cX9_then 39 = .ok (.iload_n 1, 1) := by decide +kernel
theorem dX9_then_40 : decode cX9_then 40 = .ok (.invokevirtual 189, 3) := by decide +kernel
theorem dX9_then_43 : decode cX9_then 43 = .ok (.aload_n 0, 1) := by decide +kernel
theorem dX9_then_44 : decode cX9_then 44 = .ok (.getfield 22, 3) := by decide +kernel
theorem dX9_then_47 : decode cX9_then 47 = .ok (.getfield 106, 3) := by decide +kernel
theorem dX9_then_50 : decode cX9_then 50 = .ok (.iload_n 2, 1) := by decide +kernel
theorem dX9_then_51 : decode cX9_then 51 = .ok (.aaload, 1) := by decide +kernel
theorem dX9_then_52 : decode cX9_then 52 = .ok (.astore 4, 2) := by decide +kernel
theorem dX9_then_54 : decode cX9_then 54 = .ok (.iload_n 3, 1) := by decide +kernel
theorem dX9_then_55 : decode cX9_then 55 = .ok (.lookupswitch 45 #[(0, 25), (1, 31)], 25) := by decide +kernel
theorem dX9_then_80 : decode cX9_then 80 = .ok (.aload 4, 2) := by decide +kernel
theorem dX9_then_82 : decode cX9_then 82 = .ok (.getfield 121, 3) := by decide +kernel
theorem dX9_then_85 : decode cX9_then 85 = .ok (.ireturn, 1) := by decide +kernel
theorem dX9_then_86 : decode cX9_then 86 = .ok (.aload 4, 2) := by decide +kernel
theorem dX9_then_88 : decode cX9_then 88 = .ok (.getfield 127, 3) := by decide +kernel
theorem dX9_then_91 : decode cX9_then 91 = .ok (.ifCond .eq 7, 3) := by decide +kernel
theorem dX9_then_94 : decode cX9_then 94 = .ok (.iconst 1, 1) := by decide +kernel
theorem dX9_then_95 : decode cX9_then 95 = .ok (.goto 4, 3) := by decide +kernel
theorem dX9_then_98 : decode cX9_then 98 = .ok (.iconst 0, 1) := by decide +kernel
theorem dX9_then_99 : decode cX9_then 99 = .ok (.ireturn, 1) := by decide +kernel
theorem dX9_then_100 : decode cX9_then 100 = .ok (.aload_n 0, 1) := by decide +kernel
theorem dX9_then_101 : decode cX9_then 101 = .ok (.getfield 22, 3) := by decide +kernel
theorem dX9_then_104 : decode cX9_then 104 = .ok (.aload 4, 2) := by decide +kernel
theorem dX9_then_106 : decode cX9_then 106 = .ok (.getfield 118, 3) := by decide +kernel
theorem dX9_then_109 : decode cX9_then 109 = .ok (.invokevirtual 203, 3) := by decide +kernel
theorem dX9_then_112 : decode cX9_then 112 = .ok (.ireturn, 1) := by decide +kernel
theorem dX9_when_0 : decode cX9_when 0 = .ok (.aload_n 0, 1) := by decide +kernel
theorem dX9_when_1 : decode cX9_when 1 = .ok (.iload_n 1, 1) := by decide +kernel
theorem dX9_when_2 : decode cX9_when 2 = .ok (.invokevirtual 131, 3) := by decide +kernel
theorem dX9_when_5 : decode cX9_when 5 = .ok (.ifCond .ne 9, 3) := by decide +kernel
theorem dX9_when_8 : decode cX9_when 8 = .ok (.aload_n 0, 1) := by decide +kernel
theorem dX9_when_9 : decode cX9_when 9 = .ok (.iconst 1, 1) := by decide +kernel
theorem dX9_when_10 : decode cX9_when 10 = .ok (.invokevirtual 59, 3) := by decide +kernel
theorem dX9_when_13 : decode cX9_when 13 = .ok (.ireturn, 1) := by decide +kernel
theorem dX9_when_14 : decode cX9_when 14 = .ok (.aload_n 0, 1) := by decide +kernel
theorem dX9_when_15 : decode cX9_when 15 = .ok (.invokevirtual 200, 3) := by decide +kernel
theorem dX9_when_18 : decode cX9_when 18 = .ok (.aload_n 0, 1) := by decide +kernel
theorem dX9_when_19 : decode cX9_when 19 = .ok (.getfield 22, 3) := by decide +kernel
theorem dX9_when_22 : decode cX9_when 22 = .ok (.iload_n 1, 1) := by decide +kernel
theorem dX9_when_23 : decode cX9_when 23 = .ok (.bipush 60, 2) := by decide +kernel
theorem dX9_when_25 : decode cX9_when 25 = .ok (.invokevirtual 206, 3) := by decide +kernel
theorem dX9_when_28 : decode cX9_when 28 = .ok (.istore_n 2, 1) := by decide +kernel
theorem dX9_when_29 : decode cX9_when 29 = .ok (.aload_n 0, 1) := by decide +kernel
theorem dX9_when_30 : decode cX9_when 30 = .ok (.getfield 22, 3) := by decide +kernel
theorem dX9_when_33 : decode cX9_when 33 = .ok (.getfield 106, 3) := by decide +kernel
theorem dX9_when_36 : decode cX9_when 36 = .ok (.iload_n 1, 1) := by decide +kernel
theorem dX9_when_37 : decode cX9_when 37 = .ok (.aaload, 1) := by decide +kernel
theorem dX9_when_38 : decode cX9_when 38 = .ok (.getfield 127, 3) := by decide +kernel
theorem dX9_when_41 : decode cX9_when 41 = .ok (.ifCond .eq 7, 3) := by decide +kernel
theorem dX9_when_44 : decode cX9_when 44 = .ok (.iload_n 2, 1) := by decide +kernel
theorem dX9_when_45 : decode cX9_when 45 = .ok (.goto 8, 3) := by decide +kernel
theorem dX9_when_48 : decode cX9_when 48 = .ok (.aload_n 0, 1) := by decide +kernel
theorem dX9_when_49 : decode cX9_when 49 = .ok (.iconst 2, 1) := by decide +kernel
theorem dX9_when_50 : decode cX9_when 50 = .ok (.invokevirtual 59, 3) := by decide +kernel
theorem dX9_when_53 : decode cX9_when 53 = .ok (.ireturn, 1) := by decide +kernel
theorem dX9_saved_0 : decode cX9_saved 0 = .ok (.aload_n 0, 1) := by decide +kernel
theorem dX9_saved_1 : decode cX9_saved 1 = .ok (.invokevirtual 200, 3) := by decide +kernel
theorem dX9_saved_4 : decode cX9_saved 4 = .ok (.aload_n 0, 1) := by decide +kernel
theorem dX9_saved_5 : decode cX9_saved 5 = .ok (.getfield 22, 3) := by decide +kernel
theorem dX9_saved_8 : decode cX9_saved 8 = .ok (.bipush 60, 2) := by decide +kernel
theorem dX9_saved_10 : decode cX9_saved 10 = .ok (.invokevirtual 189, 3) := by decide +kernel
theorem dX9_saved_13 : decode cX9_saved 13 = .ok (.aload_n 0, 1) := by decide +kernel
theorem dX9_saved_14 : decode cX9_saved 14 = .ok (.getfield 22, 3) := by decide +kernel
theorem dX9_saved_17 : decode cX9_saved 17 = .ok (.invokevirtual 193, 3) := by decide +kernel
theorem dX9_saved_20 : decode cX9_saved 20 = .ok (.ireturn, 1) := by decide +kernel
theorem dX9_add_0 : decode cX9_add 0 = .ok (.aload_n 0, 1) := by decide +kernel
theorem dX9_add_1 : decode cX9_add 1 = .ok (.iload_n 1, 1) := by decide +kernel
theorem dX9_add_2 : decode cX9_add 2 = .ok (.invokevirtual 131, 3) := by decide +kernel
theorem dX9_add_5 : decode cX9_add 5 = .ok (.ifCond .eq 12, 3) := by decide +kernel
theorem dX9_add_8 : decode cX9_add 8 = .ok (.iload_n 2, 1) := by decide +kernel
theorem dX9_add_9 : decode cX9_add 9 = .ok (.bipush 20, 2) := by decide +kernel
theorem dX9_add_11 : decode cX9_add 11 = .ok (.invokestatic 55, 3) := by decide +kernel
theorem dX9_add_14 : decode cX9_add 14 = .ok (.ifCond .ne 9, 3) := by decide +kernel
theorem dX9_add_17 : decode cX9_add 17 = .ok (.aload_n 0, 1) := by decide +kernel
theorem dX9_add_18 : decode cX9_add 18 = .ok (.iconst 1, 1) := by decide +kernel
theorem dX9_add_19 : decode cX9_add 19 = .ok (.invokevirtual 59, 3) := by decide +kernel
theorem dX9_add_22 : decode cX9_add 22 = .ok (.ireturn, 1) := by decide +kernel
theorem dX9_add_23 : decode cX9_add 23 = .ok (.aload_n 0, 1) := by decide +kernel
theorem dX9_add_24 : decode cX9_add 24 = .ok (.getfield 10, 3) := by decide +kernel
theorem dX9_add_27 : decode cX9_add 27 = .ok (.getfield 63, 3) := by decide +kernel
theorem dX9_add_30 : decode cX9_add 30 = .ok (.getfield 106, 3) := by decide +kernel
theorem dX9_add_33 : decode cX9_add 33 = .ok (.iload_n 1, 1) := by decide +kernel
theorem dX9_add_34 : decode cX9_add 34 = .ok (.aaload, 1) := by decide +kernel
theorem dX9_add_35 : decode cX9_add 35 = .ok (.getfield 124, 3) := by decide +kernel
theorem dX9_add_38 : decode cX9_add 38 = .ok (.istore_n 3, 1) := by decide +kernel
theorem dX9_add_39 : decode cX9_add 39 = .ok (.iconst (-1), 1) := by decide +kernel
theorem dX9_add_40 : decode cX9_add 40 = .ok (.istore 4, 2) := by decide +kernel
theorem dX9_add_42 : decode cX9_add 42 = .ok (.bipush 7, 2) := by decide +kernel
theorem dX9_add_44 : decode cX9_add 44 = .ok (.istore 5, 2) := by decide +kernel
theorem dX9_add_46 : decode cX9_add 46 = .ok (.iconst 0, 1) := by decide +kernel
theorem dX9_add_47 : decode cX9_add 47 = .ok (.istore 6, 2) := by decide +kernel
theorem dX9_add_49 : decode cX9_add 49 = .ok (.iload 6, 2) := by decide +kernel
theorem dX9_add_51 : decode cX9_add 51 = .ok (.iconst 1, 1) := by decide +kernel
theorem dX9_add_52 : decode cX9_add 52 = .ok (.aload_n 0, 1) := by decide +kernel
theorem dX9_add_53 : decode cX9_add 53 = .ok (.getfield 10, 3) := by decide +kernel
theorem dX9_add_56 : decode cX9_add 56 = .ok (.getfield 63, 3) := by decide +kernel
theorem dX9_add_59 : decode cX9_add 59 = .ok (.getfield 75, 3) := by decide +kernel
theorem dX9_add_62 : decode cX9_add 62 = .ok (.ishl, 1) := by decide +kernel
theorem dX9_add_63 : decode cX9_add 63 = .ok (.if_icmp .ge 97, 3) := by decide +kernel
theorem dX9_add_66 : decode cX9_add 66 = .ok (.iload 6, 2) := by decide +kernel
theorem dX9_add_68 : decode cX9_add 68 = .ok (.iload_n 3, 1) := by decide +kernel
theorem dX9_add_69 : decode cX9_add 69 = .ok (.iand, 1) := by decide +kernel
theorem dX9_add_70 : decode cX9_add 70 = .ok (.ifCond .ne 17, 3) := by decide +kernel
theorem dX9_add_73 : decode cX9_add 73 = .ok (.iload 6, 2) := by decide +kernel
theorem dX9_add_75 : decode cX9_add 75 = .ok (.invokestatic 210, 3) := by decide +kernel
theorem dX9_add_78 : decode cX9_add 78 = .ok (.iload 5, 2) := by decide +kernel
theorem dX9_add_80 : decode cX9_add 80 = .ok (.if_icmp .ge 7, 3) := by decide +kernel
theorem dX9_add_83 : decode cX9_add 83 = .ok (.iconst 1, 1) := by decide +kernel
theorem dX9_add_84 : decode cX9_add 84 = .ok (.goto 4, 3) := by decide +kernel
theorem dX9_add_87 : decode cX9_add 87 = .ok (.iconst 0, 1) := by decide +kernel
theorem dX9_add_88 : decode cX9_add 88 = .ok (.istore 7, 2) := by decide +kernel
theorem dX9_add_90 : decode cX9_add 90 = .ok (.iload 7, 2) := by decide +kernel
theorem dX9_add_92 : decode cX9_add 92 = .ok (.ifCond .ne 6, 3) := by decide +kernel
theorem dX9_add_95 : decode cX9_add 95 = .ok (.goto 59, 3) := by decide +kernel
theorem dX9_add_98 : decode cX9_add 98 = .ok (.aload_n 0, 1) := by decide +kernel
theorem dX9_add_99 : decode cX9_add 99 = .ok (.invokevirtual 200, 3) := by decide +kernel
theorem dX9_add_102 : decode cX9_add 102 = .ok (.aload_n 0, 1) := by decide +kernel
theorem dX9_add_103 : decode cX9_add 103 = .ok (.getfield 22, 3) := by decide +kernel
theorem dX9_add_106 : decode cX9_add 106 = .ok (.getfield 106, 3) := by decide +kernel
theorem dX9_add_109 : decode cX9_add 109 = .ok (.iload_n 1, 1) := by decide +kernel
theorem dX9_add_110 : decode cX9_add 110 = .ok (.aaload, 1) := by decide +kernel
theorem dX9_add_111 : decode cX9_add 111 = .ok (.iload_n 3, 1) := by decide +kernel
theorem dX9_add_112 : decode cX9_add 112 = .ok (.iload 6, 2) := by decide +kernel
theorem dX9_add_114 : decode cX9_add 114 = .ok (.ior, 1) := by decide +kernel
theorem dX9_add_115 : decode cX9_add 115 = .ok (.putfield 124, 3) := by decide +kernel
theorem dX9_add_118 : decode cX9_add 118 = .ok (.aload_n 0, 1) := by decide +kernel
theorem dX9_add_119 : decode cX9_add 119 = .ok (.getfield 22, 3) := by decide +kernel
theorem dX9_add_122 : decode cX9_add 122 = .ok (.iload_n 1, 1) := by decide +kernel
theorem dX9_add_123 : decode cX9_add 123 = .ok (.iload_n 2, 1) := by decide +kernel
theorem dX9_add_124 : decode cX9_add 124 = .ok (.invokevirtual 206, 3) := by decide +kernel
theorem dX9_add_127 : decode cX9_add 127 = .ok (.pop, 1) := by decide +kernel
theorem dX9_add_128 : decode cX9_add 128 = .ok (.aload_n 0, 1) := by decide +kernel
theorem dX9_add_129 : decode cX9_add 129 = .ok (.getfield 22, 3) := by decide +kernel
theorem dX9_add_132 : decode cX9_add 132 = .ok (.getfield 106, 3) := by decide +kernel
theorem dX9_add_135 : decode cX9_add 135 = .ok (.iload_n 1, 1) := by decide +kernel
theorem dX9_add_136 : decode cX9_add 136 = .ok (.aaload, 1) := by decide +kernel
theorem dX9_add_137 : decode cX9_add 137 = .ok (.getfield 127, 3) := by decide +kernel
theorem dX9_add_140 : decode cX9_add 140 = .ok (.ifCond .eq 14, 3) := by decide +kernel
theorem dX9_add_143 : decode cX9_add 143 = .ok (.iload 6, 2) := by decide +kernel
theorem dX9_add_145 : decode cX9_add 145 = .ok (.istore 4, 2) := by decide +kernel
theorem dX9_add_147 : decode cX9_add 147 = .ok (.iload 6, 2) := by decide +kernel
theorem dX9_add_149 : decode cX9_add 149 = .ok (.invokestatic 210, 3) := by decide +kernel
theorem dX9_add_152 : decode cX9_add 152 = .ok (.istore 5, 2) := by decide +kernel
theorem dX9_add_154 : decode cX9_add 154 = .ok (.iinc 6 1, 3) := by decide +kernel
theorem dX9_add_157 : decode cX9_add 157 = .ok (.goto (-108), 3) := by decide +kernel
theorem dX9_add_160 : decode cX9_add 160 = .ok (.iload 4, 2) := by decide +kernel
theorem dX9_add_162 : decode cX9_add 162 = .ok (.ifCond .lt 8, 3) := by decide +kernel
theorem dX9_add_165 : decode cX9_add 165 = .ok (.iload 4, 2) := by decide +kernel
theorem dX9_add_167 : decode cX9_add 167 = .ok (.goto 8, 3) := by decide +kernel
theorem dX9_add_170 : decode cX9_add 170 = .ok (.aload_n 0, 1) := by decide +kernel
theorem dX9_add_171 : decode cX9_add 171 = .ok (.iconst 2, 1) := by decide +kernel
theorem dX9_add_172 : decode cX9_add 172 = .ok (.invokevirtual 59, 3) := by decide +kernel
theorem dX9_add_175 : decode cX9_add 175 = .ok (.ireturn, 1) := by decide +kernel
theorem dX9_start_0 : decode cX9_start 0 = .ok (.aload_n 0, 1) := by decide +kernel
theorem dX9_start_1 : decode cX9_start 1 = .ok (.iload_n 1, 1) := by decide +kernel
theorem dX9_start_2 : decode cX9_start 2 = .ok (.invokevirtual 91, 3) := by decide +kernel
theorem dX9_start_5 : decode cX9_start 5 = .ok (.ifCond .eq 20, 3) := by decide +kernel
theorem dX9_start_8 : decode cX9_start 8 = .ok (.iload_n 2, 1) := by decide +kernel
theorem dX9_start_9 : decode cX9_start 9 = .ok (.bipush 20, 2) := by decide +kernel
theorem dX9_start_11 : decode cX9_start 11 = .ok (.invokestatic 55, 3) := by decide +kernel
theorem dX9_start_14 : decode cX9_start 14 = .ok (.ifCond .eq 11, 3) := by decide +kernel
theorem dX9_start_17 : decode cX9_start 17 = .ok (.iload_n 3, 1) := by decide +kernel
theorem dX9_start_18 : decode cX9_start 18 = .ok (.iconst 1, 1) := by decide +kernel
theorem dX9_start_19 : decode cX9_start 19 = .ok (.invokestatic 55, 3) := by decide +kernel
theorem dX9_start_22 : decode cX9_start 22 = .ok (.ifCond .ne 9, 3) := by decide +kernel
theorem dX9_start_25 : decode cX9_start 25 = .ok (.aload_n 0, 1) := by decide +kernel
theorem dX9_start_26 : decode cX9_start 26 = .ok (.iconst 1, 1) := by decide +kernel
theorem dX9_start_27 : decode cX9_start 27 = .ok (.invokevirtual 59, 3) := by decide +kernel
theorem dX9_start_30 : decode cX9_start 30 = .ok (.ireturn, 1) := by decide +kernel
theorem dX9_start_31 : decode cX9_start 31 = .ok (.iconst 0, 1) := by decide +kernel
theorem dX9_start_32 : decode cX9_start 32 = .ok (.istore 4, 2) := by decide +kernel
theorem dX9_start_34 : decode cX9_start 34 = .ok (.iconst (-1), 1) := by decide +kernel
theorem dX9_start_35 : decode cX9_start 35 = .ok (.istore 5, 2) := by decide +kernel
theorem dX9_start_37 : decode cX9_start 37 = .ok (.iconst 0, 1) := by decide +kernel
theorem dX9_start_38 : decode cX9_start 38 = .ok (.istore 6, 2) := by decide +kernel
theorem dX9_start_40 : decode cX9_start 40 = .ok (.iload 6, 2) := by decide +kernel
theorem dX9_start_42 : decode cX9_start 42 = .ok (.bipush 10, 2) := by decide +kernel
theorem dX9_start_44 : decode cX9_start 44 = .ok (.if_icmp .ge 62, 3) := by decide +kernel
theorem dX9_start_47 : decode cX9_start 47 = .ok (.aload_n 0, 1) := by decide +kernel
theorem dX9_start_48 : decode cX9_start 48 = .ok (.invokevirtual 200, 3) := by decide +kernel
theorem dX9_start_51 : decode cX9_start 51 = .ok (.aload_n 0, 1) := by decide +kernel
theorem dX9_start_52 : decode cX9_start 52 = .ok (.getfield 22, 3) := by decide +kernel
theorem dX9_start_55 : decode cX9_start 55 = .ok (.getfield 79, 3) := by decide +kernel
theorem dX9_start_58 : decode cX9_start 58 = .ok (.iload_n 1, 1) := by decide +kernel
theorem dX9_start_59 : decode cX9_start 59 = .ok (.aaload, 1) := by decide +kernel
theorem dX9_start_60 : decode cX9_start 60 = .ok (.iload 6, 2) := by decide +kernel
theorem dX9_start_62 : decode cX9_start 62 = .ok (.putfield 83, 3) := by decide +kernel
theorem dX9_start_65 : decode cX9_start 65 = .ok (.aload_n 0, 1) := by decide +kernel
theorem dX9_start_66 : decode cX9_start 66 = .ok (.getfield 22, 3) := by decide +kernel
theorem dX9_start_69 : decode cX9_start 69 = .ok (.iload_n 2, 1) := by decide +kernel
theorem dX9_start_70 : decode cX9_start 70 = .ok (.invokevirtual 189, 3) := by decide +kernel
theorem dX9_start_73 : decode cX9_start 73 = .ok (.aload_n 0, 1) := by decide +kernel
theorem dX9_start_74 : decode cX9_start 74 = .ok (.getfield 22, 3) := by decide +kernel
theorem dX9_start_77 : decode cX9_start 77 = .ok (.invokevirtual 193, 3) := by decide +kernel
theorem dX9_start_80 : decode cX9_start 80 = .ok (.invokestatic 210, 3) := by decide +kernel
theorem dX9_start_83 : decode cX9_start 83 = .ok (.istore 7, 2) := by decide +kernel
theorem dX9_start_85 : decode cX9_start 85 = .ok (.iload 7, 2) := by decide +kernel
theorem dX9_start_87 : decode cX9_start 87 = .ok (.iload 5, 2) := by decide +kernel
theorem dX9_start_89 : decode cX9_start 89 = .ok (.if_icmp .le 11, 3) := by decide +kernel
theorem dX9_start_92 : decode cX9_start 92 = .ok (.iload 6, 2) := by decide +kernel
theorem dX9_start_94 : decode cX9_start 94 = .ok (.istore 4, 2) := by decide +kernel
theorem dX9_start_96 : decode cX9_start 96 = .ok (.iload 7, 2) := by decide +kernel
theorem dX9_start_98 : decode cX9_start 98 = .ok (.istore 5, 2) := by decide +kernel
theorem dX9_start_100 : decode cX9_start 100 = .ok (.iinc 6 1, 3) := by decide +kernel
theorem dX9_start_103 : decode cX9_start 103 = .ok (.goto (-63), 3) := by decide +kernel
theorem dX9_start_106 : decode cX9_start 106 = .ok (.iload_n 3, 1) := by decide +kernel
theorem dX9_start_107 : decode cX9_start 107 = .ok (.ifCond .ne 8, 3) := by decide +kernel
theorem dX9_start_110 : decode cX9_start 110 = .ok (.iload 4, 2) := by decide +kernel
theorem dX9_start_112 : decode cX9_start 112 = .ok (.goto 5, 3) := by decide +kernel
theorem dX9_start_115 : decode cX9_start 115 = .ok (.iload 5, 2) := by decide +kernel
theorem dX9_start_117 : decode cX9_start 117 = .ok (.ireturn, 1) := by decide +kernel
theorem dX9_missed_0 : decode cX9_missed 0 = .ok (.iload_n 1, 1) := by decide +kernel
theorem dX9_missed_1 : decode cX9_missed 1 = .ok (.bipush 60, 2) := by decide +kernel
theorem dX9_missed_3 : decode cX9_missed 3 = .ok (.invokestatic 55, 3) := by decide +kernel
theorem dX9_missed_6 : decode cX9_missed 6 = .ok (.ifCond .eq 11, 3) := by decide +kernel
theorem dX9_missed_9 : decode cX9_missed 9 = .ok (.iload_n 2, 1) := by decide +kernel
theorem dX9_missed_10 : decode cX9_missed 10 = .ok (.iconst 1, 1) := by decide +kernel
theorem dX9_missed_11 : decode cX9_missed 11 = .ok (.invokestatic 55, 3) := by decide +kernel
theorem dX9_missed_14 : decode cX9_missed 14 = .ok (.ifCond .ne 9, 3) := by decide +kernel
theorem dX9_missed_17 : decode cX9_missed 17 = .ok (.aload_n 0, 1) := by decide +kernel
theorem dX9_missed_18 : decode cX9_missed 18 = .ok (.iconst 1, 1) := by decide +kernel
theorem dX9_missed_19 : decode cX9_missed 19 = .ok (.invokevirtual 59, 3) := by decide +kernel
theorem dX9_missed_22 : decode cX9_missed 22 = .ok (.ireturn, 1) := by decide +kernel
theorem dX9_missed_23 : decode cX9_missed 23 = .ok (.aload_n 0, 1) := by decide +kernel
theorem dX9_missed_24 : decode cX9_missed 24 = .ok (.getfield 10, 3) := by decide +kernel
theorem dX9_missed_27 : decode cX9_missed 27 = .ok (.getfield 63, 3) := by decide +kernel
theorem dX9_missed_30 : decode cX9_missed 30 = .ok (.getfield 75, 3) := by decide +kernel
theorem dX9_missed_33 : decode cX9_missed 33 = .ok (.ifCond .ne 9, 3) := by decide +kernel
theorem dX9_missed_36 : decode cX9_missed 36 = .ok (.aload_n 0, 1) := by decide +kernel
theorem dX9_missed_37 : decode cX9_missed 37 = .ok (.iconst 2, 1) := by decide +kernel
theorem dX9_missed_38 : decode cX9_missed 38 = .ok (.invokevirtual 59, 3) := by decide +kernel
theorem dX9_missed_41 : decode cX9_missed 41 = .ok (.ireturn, 1) := by decide +kernel
theorem dX9_missed_42 : decode cX9_missed 42 = .ok (.iconst 0, 1) := by decide +kernel
theorem dX9_missed_43 : decode cX9_missed 43 = .ok (.istore_n 3, 1) := by decide +kernel
theorem dX9_missed_44 : decode cX9_missed 44 = .ok (.bipush 8, 2) := by decide +kernel
theorem dX9_missed_46 : decode cX9_missed 46 = .ok (.istore 4, 2) := by decide +kernel
theorem dX9_missed_48 : decode cX9_missed 48 = .ok (.iconst 0, 1) := by decide +kernel
theorem dX9_missed_49 : decode cX9_missed 49 = .ok (.istore 5, 2) := by decide +kernel
theorem dX9_missed_51 : decode cX9_missed 51 = .ok (.iload 5, 2) := by decide +kernel
theorem dX9_missed_53 : decode cX9_missed 53 = .ok (.aload_n 0, 1) := by decide +kernel
theorem dX9_missed_54 : decode cX9_missed 54 = .ok (.getfield 10, 3) := by decide +kernel
theorem dX9_missed_57 : decode cX9_missed 57 = .ok (.getfield 63, 3) := by decide +kernel
theorem dX9_missed_60 : decode cX9_missed 60 = .ok (.getfield 75, 3) := by decide +kernel
theorem dX9_missed_63 : decode cX9_missed 63 = .ok (.if_icmp .ge 56, 3) := by decide +kernel
theorem dX9_missed_66 : decode cX9_missed 66 = .ok (.aload_n 0, 1) := by decide +kernel
theorem dX9_missed_67 : decode cX9_missed 67 = .ok (.invokevirtual 200, 3) := by decide +kernel
theorem dX9_missed_70 : decode cX9_missed 70 = .ok (.aload_n 0, 1) := by decide +kernel
theorem dX9_missed_71 : decode cX9_missed 71 = .ok (.getfield 22, 3) := by decide +kernel
theorem dX9_missed_74 : decode cX9_missed 74 = .ok (.iload 5, 2) := by decide +kernel
theorem dX9_missed_76 : decode cX9_missed 76 = .ok (.invokevirtual 215, 3) := by decide +kernel
theorem dX9_missed_79 : decode cX9_missed 79 = .ok (.aload_n 0, 1) := by decide +kernel
theorem dX9_missed_80 : decode cX9_missed 80 = .ok (.getfield 22, 3) := by decide +kernel
theorem dX9_missed_83 : decode cX9_missed 83 = .ok (.iload_n 1, 1) := by decide +kernel
theorem dX9_missed_84 : decode cX9_missed 84 = .ok (.invokevirtual 189, 3) := by decide +kernel
theorem dX9_missed_87 : decode cX9_missed 87 = .ok (.aload_n 0, 1) := by decide +kernel
theorem dX9_missed_88 : decode cX9_missed 88 = .ok (.getfield 22, 3) := by decide +kernel
theorem dX9_missed_91 : decode cX9_missed 91 = .ok (.invokevirtual 193, 3) := by decide +kernel
theorem dX9_missed_94 : decode cX9_missed 94 = .ok (.invokestatic 210, 3) := by decide +kernel
theorem dX9_missed_97 : decode cX9_missed 97 = .ok (.istore 6, 2) := by decide +kernel
