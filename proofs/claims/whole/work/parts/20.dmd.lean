theorem dX10_waitsIn_1 : decode cX10_waitsIn 1 = .ok (.ifCond .ne 21, 3) := by decide +kernel
theorem dX10_waitsIn_4 : decode cX10_waitsIn 4 = .ok (.aload_n 0, 1) := by decide +kernel
theorem dX10_waitsIn_5 : decode cX10_waitsIn 5 = .ok (.bipush 11, 2) := by decide +kernel
theorem dX10_waitsIn_7 : decode cX10_waitsIn 7 = .ok (.invokevirtual 220, 3) := by decide +kernel
theorem dX10_waitsIn_10 : decode cX10_waitsIn 10 = .ok (.aload_n 0, 1) := by decide +kernel
theorem dX10_waitsIn_11 : decode cX10_waitsIn 11 = .ok (.aload_n 0, 1) := by decide +kernel
theorem dX10_waitsIn_12 : decode cX10_waitsIn 12 = .ok (.getfield 235, 3) := by decide +kernel
theorem dX10_waitsIn_15 : decode cX10_waitsIn 15 = .ok (.iload_n 2, 1) := by decide +kernel
theorem dX10_waitsIn_16 : decode cX10_waitsIn 16 = .ok (.invokevirtual 226, 3) := by decide +kernel
theorem dX10_waitsIn_19 : decode cX10_waitsIn 19 = .ok (.iconst 2, 1) := by decide +kernel
theorem dX10_waitsIn_20 : decode cX10_waitsIn 20 = .ok (.imul, 1) := by decide +kernel
theorem dX10_waitsIn_21 : decode cX10_waitsIn 21 = .ok (.ireturn, 1) := by decide +kernel
theorem dX10_waitsIn_22 : decode cX10_waitsIn 22 = .ok (.iload_n 1, 1) := by decide +kernel
theorem dX10_waitsIn_23 : decode cX10_waitsIn 23 = .ok (.iconst 2, 1) := by decide +kernel
theorem dX10_waitsIn_24 : decode cX10_waitsIn 24 = .ok (.if_icmp .ne 28, 3) := by decide +kernel
theorem dX10_waitsIn_27 : decode cX10_waitsIn 27 = .ok (.aload_n 0, 1) := by decide +kernel
theorem dX10_waitsIn_28 : decode cX10_waitsIn 28 = .ok (.bipush 30, 2) := by decide +kernel
theorem dX10_waitsIn_30 : decode cX10_waitsIn 30 = .ok (.invokevirtual 220, 3) := by decide +kernel
theorem dX10_waitsIn_33 : decode cX10_waitsIn 33 = .ok (.aload_n 0, 1) := by decide +kernel
theorem dX10_waitsIn_34 : decode cX10_waitsIn 34 = .ok (.iconst 0, 1) := by decide +kernel
theorem dX10_waitsIn_35 : decode cX10_waitsIn 35 = .ok (.iload_n 2, 1) := by decide +kernel
theorem dX10_waitsIn_36 : decode cX10_waitsIn 36 = .ok (.invokevirtual 238, 3) := by decide +kernel
theorem dX10_waitsIn_39 : decode cX10_waitsIn 39 = .ok (.istore_n 3, 1) := by decide +kernel
theorem dX10_waitsIn_40 : decode cX10_waitsIn 40 = .ok (.iload_n 3, 1) := by decide +kernel
theorem dX10_waitsIn_41 : decode cX10_waitsIn 41 = .ok (.aload_n 0, 1) := by decide +kernel
theorem dX10_waitsIn_42 : decode cX10_waitsIn 42 = .ok (.aload_n 0, 1) := by decide +kernel
theorem dX10_waitsIn_43 : decode cX10_waitsIn 43 = .ok (.getfield 235, 3) := by decide +kernel
theorem dX10_waitsIn_46 : decode cX10_waitsIn 46 = .ok (.iconst 1, 1) := by decide +kernel
theorem dX10_waitsIn_47 : decode cX10_waitsIn 47 = .ok (.invokevirtual 232, 3) := by decide +kernel
theorem dX10_waitsIn_50 : decode cX10_waitsIn 50 = .ok (.isub, 1) := by decide +kernel
theorem dX10_waitsIn_51 : decode cX10_waitsIn 51 = .ok (.ireturn, 1) := by decide +kernel
theorem dX10_waitsIn_52 : decode cX10_waitsIn 52 = .ok (.iload_n 1, 1) := by decide +kernel
theorem dX10_waitsIn_53 : decode cX10_waitsIn 53 = .ok (.iconst 5, 1) := by decide +kernel
theorem dX10_waitsIn_54 : decode cX10_waitsIn 54 = .ok (.if_icmp .ne 18, 3) := by decide +kernel
theorem dX10_waitsIn_57 : decode cX10_waitsIn 57 = .ok (.aload_n 0, 1) := by decide +kernel
theorem dX10_waitsIn_58 : decode cX10_waitsIn 58 = .ok (.bipush 60, 2) := by decide +kernel
theorem dX10_waitsIn_60 : decode cX10_waitsIn 60 = .ok (.invokevirtual 220, 3) := by decide +kernel
theorem dX10_waitsIn_63 : decode cX10_waitsIn 63 = .ok (.aload_n 0, 1) := by decide +kernel
theorem dX10_waitsIn_64 : decode cX10_waitsIn 64 = .ok (.iconst 2, 1) := by decide +kernel
theorem dX10_waitsIn_65 : decode cX10_waitsIn 65 = .ok (.iload_n 2, 1) := by decide +kernel
theorem dX10_waitsIn_66 : decode cX10_waitsIn 66 = .ok (.iconst 1, 1) := by decide +kernel
theorem dX10_waitsIn_67 : decode cX10_waitsIn 67 = .ok (.iadd, 1) := by decide +kernel
theorem dX10_waitsIn_68 : decode cX10_waitsIn 68 = .ok (.invokevirtual 238, 3) := by decide +kernel
theorem dX10_waitsIn_71 : decode cX10_waitsIn 71 = .ok (.ireturn, 1) := by decide +kernel
theorem dX10_waitsIn_72 : decode cX10_waitsIn 72 = .ok (.aload_n 0, 1) := by decide +kernel
theorem dX10_waitsIn_73 : decode cX10_waitsIn 73 = .ok (.iload_n 1, 1) := by decide +kernel
theorem dX10_waitsIn_74 : decode cX10_waitsIn 74 = .ok (.invokestatic 100, 3) := by decide +kernel
theorem dX10_waitsIn_77 : decode cX10_waitsIn 77 = .ok (.iload_n 2, 1) := by decide +kernel
theorem dX10_waitsIn_78 : decode cX10_waitsIn 78 = .ok (.invokevirtual 238, 3) := by decide +kernel
theorem dX10_waitsIn_81 : decode cX10_waitsIn 81 = .ok (.ireturn, 1) := by decide +kernel
theorem dX10_tellsIn_0 : decode cX10_tellsIn 0 = .ok (.iload_n 1, 1) := by decide +kernel
theorem dX10_tellsIn_1 : decode cX10_tellsIn 1 = .ok (.ifCond .ne 31, 3) := by decide +kernel
theorem dX10_tellsIn_4 : decode cX10_tellsIn 4 = .ok (.aload_n 0, 1) := by decide +kernel
theorem dX10_tellsIn_5 : decode cX10_tellsIn 5 = .ok (.bipush 13, 2) := by decide +kernel
theorem dX10_tellsIn_7 : decode cX10_tellsIn 7 = .ok (.invokevirtual 220, 3) := by decide +kernel
theorem dX10_tellsIn_10 : decode cX10_tellsIn 10 = .ok (.aload_n 0, 1) := by decide +kernel
theorem dX10_tellsIn_11 : decode cX10_tellsIn 11 = .ok (.aload_n 0, 1) := by decide +kernel
theorem dX10_tellsIn_12 : decode cX10_tellsIn 12 = .ok (.getfield 235, 3) := by decide +kernel
theorem dX10_tellsIn_15 : decode cX10_tellsIn 15 = .ok (.iload_n 2, 1) := by decide +kernel
theorem dX10_tellsIn_16 : decode cX10_tellsIn 16 = .ok (.invokevirtual 238, 3) := by decide +kernel
theorem dX10_tellsIn_19 : decode cX10_tellsIn 19 = .ok (.istore_n 3, 1) := by decide +kernel
theorem dX10_tellsIn_20 : decode cX10_tellsIn 20 = .ok (.iload_n 3, 1) := by decide +kernel
theorem dX10_tellsIn_21 : decode cX10_tellsIn 21 = .ok (.aload_n 0, 1) := by decide +kernel
theorem dX10_tellsIn_22 : decode cX10_tellsIn 22 = .ok (.aload_n 0, 1) := by decide +kernel
theorem dX10_tellsIn_23 : decode cX10_tellsIn 23 = .ok (.getfield 235, 3) := by decide +kernel
theorem dX10_tellsIn_26 : decode cX10_tellsIn 26 = .ok (.iload_n 2, 1) := by decide +kernel
theorem dX10_tellsIn_27 : decode cX10_tellsIn 27 = .ok (.invokevirtual 232, 3) := by decide +kernel
theorem dX10_tellsIn_30 : decode cX10_tellsIn 30 = .ok (.ixor, 1) := by decide +kernel
theorem dX10_tellsIn_31 : decode cX10_tellsIn 31 = .ok (.ireturn, 1) := by decide +kernel
theorem dX10_tellsIn_32 : decode cX10_tellsIn 32 = .ok (.iload_n 1, 1) := by decide +kernel
theorem dX10_tellsIn_33 : decode cX10_tellsIn 33 = .ok (.iconst 4, 1) := by decide +kernel
theorem dX10_tellsIn_34 : decode cX10_tellsIn 34 = .ok (.if_icmp .ne 28, 3) := by decide +kernel
theorem dX10_tellsIn_37 : decode cX10_tellsIn 37 = .ok (.aload_n 0, 1) := by decide +kernel
theorem dX10_tellsIn_38 : decode cX10_tellsIn 38 = .ok (.bipush 50, 2) := by decide +kernel
theorem dX10_tellsIn_40 : decode cX10_tellsIn 40 = .ok (.invokevirtual 220, 3) := by decide +kernel
theorem dX10_tellsIn_43 : decode cX10_tellsIn 43 = .ok (.aload_n 0, 1) := by decide +kernel
theorem dX10_tellsIn_44 : decode cX10_tellsIn 44 = .ok (.iconst 1, 1) := by decide +kernel
theorem dX10_tellsIn_45 : decode cX10_tellsIn 45 = .ok (.iload_n 2, 1) := by decide +kernel
theorem dX10_tellsIn_46 : decode cX10_tellsIn 46 = .ok (.invokevirtual 241, 3) := by decide +kernel
theorem dX10_tellsIn_49 : decode cX10_tellsIn 49 = .ok (.istore_n 3, 1) := by decide +kernel
theorem dX10_tellsIn_50 : decode cX10_tellsIn 50 = .ok (.iload_n 3, 1) := by decide +kernel
theorem dX10_tellsIn_51 : decode cX10_tellsIn 51 = .ok (.aload_n 0, 1) := by decide +kernel
theorem dX10_tellsIn_52 : decode cX10_tellsIn 52 = .ok (.aload_n 0, 1) := by decide +kernel
theorem dX10_tellsIn_53 : decode cX10_tellsIn 53 = .ok (.getfield 235, 3) := by decide +kernel
theorem dX10_tellsIn_56 : decode cX10_tellsIn 56 = .ok (.iconst 2, 1) := by decide +kernel
theorem dX10_tellsIn_57 : decode cX10_tellsIn 57 = .ok (.invokevirtual 226, 3) := by decide +kernel
theorem dX10_tellsIn_60 : decode cX10_tellsIn 60 = .ok (.isub, 1) := by decide +kernel
theorem dX10_tellsIn_61 : decode cX10_tellsIn 61 = .ok (.ireturn, 1) := by decide +kernel
theorem dX10_tellsIn_62 : decode cX10_tellsIn 62 = .ok (.iload_n 1, 1) := by decide +kernel
theorem dX10_tellsIn_63 : decode cX10_tellsIn 63 = .ok (.bipush 6, 2) := by decide +kernel
theorem dX10_tellsIn_65 : decode cX10_tellsIn 65 = .ok (.if_icmp .ne 28, 3) := by decide +kernel
theorem dX10_tellsIn_68 : decode cX10_tellsIn 68 = .ok (.aload_n 0, 1) := by decide +kernel
theorem dX10_tellsIn_69 : decode cX10_tellsIn 69 = .ok (.bipush 71, 2) := by decide +kernel
theorem dX10_tellsIn_71 : decode cX10_tellsIn 71 = .ok (.invokevirtual 220, 3) := by decide +kernel
theorem dX10_tellsIn_74 : decode cX10_tellsIn 74 = .ok (.aload_n 0, 1) := by decide +kernel
theorem dX10_tellsIn_75 : decode cX10_tellsIn 75 = .ok (.aload_n 0, 1) := by decide +kernel
theorem dX10_tellsIn_76 : decode cX10_tellsIn 76 = .ok (.getfield 235, 3) := by decide +kernel
theorem dX10_tellsIn_79 : decode cX10_tellsIn 79 = .ok (.iload_n 2, 1) := by decide +kernel
theorem dX10_tellsIn_80 : decode cX10_tellsIn 80 = .ok (.invokevirtual 238, 3) := by decide +kernel
theorem dX10_tellsIn_83 : decode cX10_tellsIn 83 = .ok (.istore_n 3, 1) := by decide +kernel
theorem dX10_tellsIn_84 : decode cX10_tellsIn 84 = .ok (.iload_n 3, 1) := by decide +kernel
theorem dX10_tellsIn_85 : decode cX10_tellsIn 85 = .ok (.aload_n 0, 1) := by decide +kernel
theorem dX10_tellsIn_86 : decode cX10_tellsIn 86 = .ok (.iconst 3, 1) := by decide +kernel
theorem dX10_tellsIn_87 : decode cX10_tellsIn 87 = .ok (.iload_n 2, 1) := by decide +kernel
theorem dX10_tellsIn_88 : decode cX10_tellsIn 88 = .ok (.invokevirtual 241, 3) := by decide +kernel
theorem dX10_tellsIn_91 : decode cX10_tellsIn 91 = .ok (.isub, 1) := by decide +kernel
theorem dX10_tellsIn_92 : decode cX10_tellsIn 92 = .ok (.ireturn, 1) := by decide +kernel
theorem dX10_tellsIn_93 : decode cX10_tellsIn 93 = .ok (.aload_n 0, 1) := by decide +kernel
theorem dX10_tellsIn_94 : decode cX10_tellsIn 94 = .ok (.iload_n 1, 1) := by decide +kernel
theorem dX10_tellsIn_95 : decode cX10_tellsIn 95 = .ok (.invokestatic 100, 3) := by decide +kernel
theorem dX10_tellsIn_98 : decode cX10_tellsIn 98 = .ok (.iload_n 2, 1) := by decide +kernel
theorem dX10_tellsIn_99 : decode cX10_tellsIn 99 = .ok (.invokevirtual 241, 3) := by decide +kernel
theorem dX10_tellsIn_102 : decode cX10_tellsIn 102 = .ok (.ireturn, 1) := by decide +kernel
theorem dX10_voice_0 : decode cX10_voice 0 = .ok (.aload_n 0, 1) := by decide +kernel
theorem dX10_voice_1 : decode cX10_voice 1 = .ok (.iload_n 1, 1) := by decide +kernel
theorem dX10_voice_2 : decode cX10_voice 2 = .ok (.invokevirtual 91, 3) := by decide +kernel
theorem dX10_voice_5 : decode cX10_voice 5 = .ok (.ifCond .eq 12, 3) := by decide +kernel
theorem dX10_voice_8 : decode cX10_voice 8 = .ok (.iload_n 2, 1) := by decide +kernel
theorem dX10_voice_9 : decode cX10_voice 9 = .ok (.iconst 0, 1) := by decide +kernel
theorem dX10_voice_10 : decode cX10_voice 10 = .ok (.iconst 3, 1) := by decide +kernel
theorem dX10_voice_11 : decode cX10_voice 11 = .ok (.invokestatic 50, 3) := by decide +kernel
theorem dX10_voice_14 : decode cX10_voice 14 = .ok (.ifCond .ne 10, 3) := by decide +kernel
theorem dX10_voice_17 : decode cX10_voice 17 = .ok (.aload_n 0, 1) := by decide +kernel
theorem dX10_voice_18 : decode cX10_voice 18 = .ok (.ldc 62, 2) := by decide +kernel
theorem dX10_voice_20 : decode cX10_voice 20 = .ok (.invokevirtual 63, 3) := by decide +kernel
theorem dX10_voice_23 : decode cX10_voice 23 = .ok (.ireturn, 1) := by decide +kernel
theorem dX10_voice_24 : decode cX10_voice 24 = .ok (.aload_n 0, 1) := by decide +kernel
theorem dX10_voice_25 : decode cX10_voice 25 = .ok (.iconst 0, 1) := by decide +kernel
theorem dX10_voice_26 : decode cX10_voice 26 = .ok (.putfield 217, 3) := by decide +kernel
theorem dX10_voice_29 : decode cX10_voice 29 = .ok (.aload_n 0, 1) := by decide +kernel
theorem dX10_voice_30 : decode cX10_voice 30 = .ok (.aload_n 0, 1) := by decide +kernel
theorem dX10_voice_31 : decode cX10_voice 31 = .ok (.iload_n 1, 1) := by decide +kernel
theorem dX10_voice_32 : decode cX10_voice 32 = .ok (.iconst 0, 1) := by decide +kernel
theorem dX10_voice_33 : decode cX10_voice 33 = .ok (.invokevirtual 67, 3) := by decide +kernel
theorem dX10_voice_36 : decode cX10_voice 36 = .ok (.putfield 235, 3) := by decide +kernel
theorem dX10_voice_39 : decode cX10_voice 39 = .ok (.aload_n 0, 1) := by decide +kernel
theorem dX10_voice_40 : decode cX10_voice 40 = .ok (.iload_n 1, 1) := by decide +kernel
theorem dX10_voice_41 : decode cX10_voice 41 = .ok (.putfield 223, 3) := by decide +kernel
theorem dX10_voice_44 : decode cX10_voice 44 = .ok (.aload_n 0, 1) := by decide +kernel
theorem dX10_voice_45 : decode cX10_voice 45 = .ok (.aload_n 0, 1) := by decide +kernel
theorem dX10_voice_46 : decode cX10_voice 46 = .ok (.iload_n 1, 1) := by decide +kernel
theorem dX10_voice_47 : decode cX10_voice 47 = .ok (.iconst 1, 1) := by decide +kernel
theorem dX10_voice_48 : decode cX10_voice 48 = .ok (.invokevirtual 67, 3) := by decide +kernel
theorem dX10_voice_51 : decode cX10_voice 51 = .ok (.putfield 229, 3) := by decide +kernel
theorem dX10_voice_54 : decode cX10_voice 54 = .ok (.iload_n 2, 1) := by decide +kernel
theorem dX10_voice_55 : decode cX10_voice 55 = .ok (.tableswitch 55 0 2 #[25, 35, 45], 25) := by decide +kernel
theorem dX10_voice_80 : decode cX10_voice 80 = .ok (.aload_n 0, 1) := by decide +kernel
theorem dX10_voice_81 : decode cX10_voice 81 = .ok (.aload_n 0, 1) := by decide +kernel
theorem dX10_voice_82 : decode cX10_voice 82 = .ok (.getfield 235, 3) := by decide +kernel
theorem dX10_voice_85 : decode cX10_voice 85 = .ok (.iload_n 3, 1) := by decide +kernel
theorem dX10_voice_86 : decode cX10_voice 86 = .ok (.invokevirtual 226, 3) := by decide +kernel
theorem dX10_voice_89 : decode cX10_voice 89 = .ok (.ireturn, 1) := by decide +kernel
theorem dX10_voice_90 : decode cX10_voice 90 = .ok (.aload_n 0, 1) := by decide +kernel
theorem dX10_voice_91 : decode cX10_voice 91 = .ok (.aload_n 0, 1) := by decide +kernel
theorem dX10_voice_92 : decode cX10_voice 92 = .ok (.getfield 235, 3) := by decide +kernel
theorem dX10_voice_95 : decode cX10_voice 95 = .ok (.iload_n 3, 1) := by decide +kernel
theorem dX10_voice_96 : decode cX10_voice 96 = .ok (.invokevirtual 238, 3) := by decide +kernel
theorem dX10_voice_99 : decode cX10_voice 99 = .ok (.ireturn, 1) := by decide +kernel
theorem dX10_voice_100 : decode cX10_voice 100 = .ok (.aload_n 0, 1) := by decide +kernel
theorem dX10_voice_101 : decode cX10_voice 101 = .ok (.aload_n 0, 1) := by decide +kernel
theorem dX10_voice_102 : decode cX10_voice 102 = .ok (.getfield 235, 3) := by decide +kernel
theorem dX10_voice_105 : decode cX10_voice 105 = .ok (.iload_n 3, 1) := by decide +kernel
theorem dX10_voice_106 : decode cX10_voice 106 = .ok (.invokevirtual 232, 3) := by decide +kernel
theorem dX10_voice_109 : decode cX10_voice 109 = .ok (.ireturn, 1) := by decide +kernel
theorem dX10_voice_110 : decode cX10_voice 110 = .ok (.aload_n 0, 1) := by decide +kernel
theorem dX10_voice_111 : decode cX10_voice 111 = .ok (.aload_n 0, 1) := by decide +kernel
theorem dX10_voice_112 : decode cX10_voice 112 = .ok (.getfield 235, 3) := by decide +kernel
theorem dX10_voice_115 : decode cX10_voice 115 = .ok (.iload_n 3, 1) := by decide +kernel
theorem dX10_voice_116 : decode cX10_voice 116 = .ok (.invokevirtual 241, 3) := by decide +kernel
theorem dX10_voice_119 : decode cX10_voice 119 = .ok (.ireturn, 1) := by decide +kernel
theorem dX10_trace_0 : decode cX10_trace 0 = .ok (.iload_n 1, 1) := by decide +kernel
theorem dX10_trace_1 : decode cX10_trace 1 = .ok (.iconst 0, 1) := by decide +kernel
theorem dX10_trace_2 : decode cX10_trace 2 = .ok (.aload_n 0, 1) := by decide +kernel
theorem dX10_trace_3 : decode cX10_trace 3 = .ok (.getfield 217, 3) := by decide +kernel
theorem dX10_trace_6 : decode cX10_trace 6 = .ok (.iconst 1, 1) := by decide +kernel
theorem dX10_trace_7 : decode cX10_trace 7 = .ok (.isub, 1) := by decide +kernel
theorem dX10_trace_8 : decode cX10_trace 8 = .ok (.invokestatic 50, 3) := by decide +kernel
theorem dX10_trace_11 : decode cX10_trace 11 = .ok (.ifCond .eq 12, 3) := by decide +kernel
theorem dX10_trace_14 : decode cX10_trace 14 = .ok (.aload_n 0, 1) := by decide +kernel
theorem dX10_trace_15 : decode cX10_trace 15 = .ok (.getfield 46, 3) := by decide +kernel
theorem dX10_trace_18 : decode cX10_trace 18 = .ok (.iload_n 1, 1) := by decide +kernel
theorem dX10_trace_19 : decode cX10_trace 19 = .ok (.iaload, 1) := by decide +kernel
theorem dX10_trace_20 : decode cX10_trace 20 = .ok (.goto 9, 3) := by decide +kernel
theorem dX10_trace_23 : decode cX10_trace 23 = .ok (.aload_n 0, 1) := by decide +kernel
theorem dX10_trace_24 : decode cX10_trace 24 = .ok (.ldc 204, 2) := by decide +kernel
theorem dX10_trace_26 : decode cX10_trace 26 = .ok (.invokevirtual 63, 3) := by decide +kernel
theorem dX10_trace_29 : decode cX10_trace 29 = .ok (.ireturn, 1) := by decide +kernel
theorem dX10_narrow_0 : decode cX10_narrow 0 = .ok (.iload_n 0, 1) := by decide +kernel
theorem dX10_narrow_1 : decode cX10_narrow 1 = .ok (.bipush 8, 2) := by decide +kernel
theorem dX10_narrow_3 : decode cX10_narrow 3 = .ok (.if_icmp .ne 8, 3) := by decide +kernel
theorem dX10_narrow_6 : decode cX10_narrow 6 = .ok (.iload_n 1, 1) := by decide +kernel
theorem dX10_narrow_7 : decode cX10_narrow 7 = .ok (.i2b, 1) := by decide +kernel
theorem dX10_narrow_8 : decode cX10_narrow 8 = .ok (.goto 15, 3) := by decide +kernel
theorem dX10_narrow_11 : decode cX10_narrow 11 = .ok (.iload_n 0, 1) := by decide +kernel
theorem dX10_narrow_12 : decode cX10_narrow 12 = .ok (.bipush 16, 2) := by decide +kernel
theorem dX10_narrow_14 : decode cX10_narrow 14 = .ok (.if_icmp .ne 8, 3) := by decide +kernel
theorem dX10_narrow_17 : decode cX10_narrow 17 = .ok (.iload_n 1, 1) := by decide +kernel
theorem dX10_narrow_18 : decode cX10_narrow 18 = .ok (.i2s, 1) := by decide +kernel
theorem dX10_narrow_19 : decode cX10_narrow 19 = .ok (.goto 4, 3) := by decide +kernel
theorem dX10_narrow_22 : decode cX10_narrow 22 = .ok (.iload_n 1, 1) := by decide +kernel
theorem dX10_narrow_23 : decode cX10_narrow 23 = .ok (.ireturn, 1) := by decide +kernel
theorem dX10_sheet_0 : decode cX10_sheet 0 = .ok (.iload_n 1, 1) := by decide +kernel
theorem dX10_sheet_1 : decode cX10_sheet 1 = .ok (.invokestatic 208, 3) := by decide +kernel
theorem dX10_sheet_4 : decode cX10_sheet 4 = .ok (.ifCond .eq 25, 3) := by decide +kernel
theorem dX10_sheet_7 : decode cX10_sheet 7 = .ok (.iload_n 2, 1) := by decide +kernel
theorem dX10_sheet_8 : decode cX10_sheet 8 = .ok (.ifCond .eq 28, 3) := by decide +kernel
theorem dX10_sheet_11 : decode cX10_sheet 11 = .ok (.iload_n 2, 1) := by decide +kernel
theorem dX10_sheet_12 : decode cX10_sheet 12 = .ok (.bipush 8, 2) := by decide +kernel
theorem dX10_sheet_14 : decode cX10_sheet 14 = .ok (.if_icmp .eq 22, 3) := by decide +kernel
theorem dX10_sheet_17 : decode cX10_sheet 17 = .ok (.iload_n 2, 1) := by decide +kernel
theorem dX10_sheet_18 : decode cX10_sheet 18 = .ok (.bipush 16, 2) := by decide +kernel
theorem dX10_sheet_20 : decode cX10_sheet 20 = .ok (.if_icmp .eq 16, 3) := by decide +kernel
theorem dX10_sheet_23 : decode cX10_sheet 23 = .ok (.iload_n 2, 1) := by decide +kernel
theorem dX10_sheet_24 : decode cX10_sheet 24 = .ok (.bipush 32, 2) := by decide +kernel
theorem dX10_sheet_26 : decode cX10_sheet 26 = .ok (.if_icmp .eq 10, 3) := by decide +kernel
theorem dX10_sheet_29 : decode cX10_sheet 29 = .ok (.aload_n 0, 1) := by decide +kernel
theorem dX10_sheet_30 : decode cX10_sheet 30 = .ok (.ldc 62, 2) := by decide +kernel
theorem dX10_sheet_32 : decode cX10_sheet 32 = .ok (.invokevirtual 63, 3) := by decide +kernel
theorem dX10_sheet_35 : decode cX10_sheet 35 = .ok (.ireturn, 1) := by decide +kernel
theorem dX10_sheet_36 : decode cX10_sheet 36 = .ok (.iload_n 2, 1) := by decide +kernel
theorem dX10_sheet_37 : decode cX10_sheet 37 = .ok (.ifCond .eq 14, 3) := by decide +kernel
theorem dX10_sheet_40 : decode cX10_sheet 40 = .ok (.iload_n 3, 1) := by decide +kernel
theorem dX10_sheet_41 : decode cX10_sheet 41 = .ok (.ifCond .ge 10, 3) := by decide +kernel
theorem dX10_sheet_44 : decode cX10_sheet 44 = .ok (.aload_n 0, 1) := by decide +kernel
theorem dX10_sheet_45 : decode cX10_sheet 45 = .ok (.ldc 199, 2) := by decide +kernel
theorem dX10_sheet_47 : decode cX10_sheet 47 = .ok (.invokevirtual 63, 3) := by decide +kernel
theorem dX10_sheet_50 : decode cX10_sheet 50 = .ok (.ireturn, 1) := by decide +kernel
theorem dX10_sheet_51 : decode cX10_sheet 51 = .ok (.iload_n 2, 1) := by decide +kernel
theorem dX10_sheet_52 : decode cX10_sheet 52 = .ok (.ifCond .eq 16, 3) := by decide +kernel
theorem dX10_sheet_55 : decode cX10_sheet 55 = .ok (.iload_n 3, 1) := by decide +kernel
theorem dX10_sheet_56 : decode cX10_sheet 56 = .ok (.bipush 40, 2) := by decide +kernel
theorem dX10_sheet_58 : decode cX10_sheet 58 = .ok (.if_icmp .le 10, 3) := by decide +kernel
theorem dX10_sheet_61 : decode cX10_sheet 61 = .ok (.aload_n 0, 1) := by decide +kernel
theorem dX10_sheet_62 : decode cX10_sheet 62 = .ok (.ldc 62, 2) := by decide +kernel
theorem dX10_sheet_64 : decode cX10_sheet 64 = .ok (.invokevirtual 63, 3) := by decide +kernel
theorem dX10_sheet_67 : decode cX10_sheet 67 = .ok (.ireturn, 1) := by decide +kernel
theorem dX10_sheet_68 : decode cX10_sheet 68 = .ok (.aload_n 0, 1) := by decide +kernel
theorem dX10_sheet_69 : decode cX10_sheet 69 = .ok (.getfield 34, 3) := by decide +kernel
theorem dX10_sheet_72 : decode cX10_sheet 72 = .ok (.iload_n 1, 1) := by decide +kernel
theorem dX10_sheet_73 : decode cX10_sheet 73 = .ok (.iload_n 2, 1) := by decide +kernel
theorem dX10_sheet_74 : decode cX10_sheet 74 = .ok (.iastore, 1) := by decide +kernel
theorem dX10_sheet_75 : decode cX10_sheet 75 = .ok (.aload_n 0, 1) := by decide +kernel
theorem dX10_sheet_76 : decode cX10_sheet 76 = .ok (.getfield 37, 3) := by decide +kernel
theorem dX10_sheet_79 : decode cX10_sheet 79 = .ok (.iload_n 1, 1) := by decide +kernel
theorem dX10_sheet_80 : decode cX10_sheet 80 = .ok (.iload_n 2, 1) := by decide +kernel
theorem dX10_sheet_81 : decode cX10_sheet 81 = .ok (.ifCond .ne 7, 3) := by decide +kernel
theorem dX10_sheet_84 : decode cX10_sheet 84 = .ok (.iconst 0, 1) := by decide +kernel
theorem dX10_sheet_85 : decode cX10_sheet 85 = .ok (.goto 4, 3) := by decide +kernel
theorem dX10_sheet_88 : decode cX10_sheet 88 = .ok (.iload_n 3, 1) := by decide +kernel
theorem dX10_sheet_89 : decode cX10_sheet 89 = .ok (.iastore, 1) := by decide +kernel
theorem dX10_sheet_90 : decode cX10_sheet 90 = .ok (.iconst 0, 1) := by decide +kernel
theorem dX10_sheet_91 : decode cX10_sheet 91 = .ok (.istore 4, 2) := by decide +kernel
theorem dX10_sheet_93 : decode cX10_sheet 93 = .ok (.iload 4, 2) := by decide +kernel
theorem dX10_sheet_95 : decode cX10_sheet 95 = .ok (.bipush 40, 2) := by decide +kernel
theorem dX10_sheet_97 : decode cX10_sheet 97 = .ok (.if_icmp .ge 22, 3) := by decide +kernel
theorem dX10_sheet_100 : decode cX10_sheet 100 = .ok (.aload_n 0, 1) := by decide +kernel
theorem dX10_sheet_101 : decode cX10_sheet 101 = .ok (.getfield 40, 3) := by decide +kernel
theorem dX10_sheet_104 : decode cX10_sheet 104 = .ok (.bipush 40, 2) := by decide +kernel
theorem dX10_sheet_106 : decode cX10_sheet 106 = .ok (.iload_n 1, 1) := by decide +kernel
theorem dX10_sheet_107 : decode cX10_sheet 107 = .ok (.imul, 1) := by decide +kernel
theorem dX10_sheet_108 : decode cX10_sheet 108 = .ok (.iload 4, 2) := by decide +kernel
theorem dX10_sheet_110 : decode cX10_sheet 110 = .ok (.iadd, 1) := by decide +kernel
theorem dX10_sheet_111 : decode cX10_sheet 111 = .ok (.iconst 0, 1) := by decide +kernel
theorem dX10_sheet_112 : decode cX10_sheet 112 = .ok (.iastore, 1) := by decide +kernel
theorem dX10_sheet_113 : decode cX10_sheet 113 = .ok (.iinc 4 1, 3) := by decide +kernel
theorem dX10_sheet_116 : decode cX10_sheet 116 = .ok (.goto (-23), 3) := by decide +kernel
theorem dX10_sheet_119 : decode cX10_sheet 119 = .ok (.iconst 1, 1) := by decide +kernel
theorem dX10_sheet_120 : decode cX10_sheet 120 = .ok (.ireturn, 1) := by decide +kernel
theorem dX10_put_0 : decode cX10_put 0 = .ok (.iload_n 1, 1) := by decide +kernel
theorem dX10_put_1 : decode cX10_put 1 = .ok (.invokestatic 208, 3) := by decide +kernel
theorem dX10_put_4 : decode cX10_put 4 = .ok (.ifCond .ne 10, 3) := by decide +kernel
theorem dX10_put_7 : decode cX10_put 7 = .ok (.aload_n 0, 1) := by decide +kernel
theorem dX10_put_8 : decode cX10_put 8 = .ok (.ldc 62, 2) := by decide +kernel
theorem dX10_put_10 : decode cX10_put 10 = .ok (.invokevirtual 63, 3) := by decide +kernel
theorem dX10_put_13 : decode cX10_put 13 = .ok (.ireturn, 1) := by decide +kernel
theorem dX10_put_14 : decode cX10_put 14 = .ok (.aload_n 0, 1) := by decide +kernel
theorem dX10_put_15 : decode cX10_put 15 = .ok (.getfield 34, 3) := by decide +kernel
theorem dX10_put_18 : decode cX10_put 18 = .ok (.iload_n 1, 1) := by decide +kernel
theorem dX10_put_19 : decode cX10_put 19 = .ok (.iaload, 1) := by decide +kernel
theorem dX10_put_20 : decode cX10_put 20 = .ok (.ifCond .ne 10, 3) := by decide +kernel
theorem dX10_put_23 : decode cX10_put 23 = .ok (.aload_n 0, 1) := by decide +kernel
theorem dX10_put_24 : decode cX10_put 24 = .ok (.ldc 204, 2) := by decide +kernel
theorem dX10_put_26 : decode cX10_put 26 = .ok (.invokevirtual 63, 3) := by decide +kernel
theorem dX10_put_29 : decode cX10_put 29 = .ok (.ireturn, 1) := by decide +kernel
theorem dX10_put_30 : decode cX10_put 30 = .ok (.iload_n 2, 1) := by decide +kernel
theorem dX10_put_31 : decode cX10_put 31 = .ok (.iconst 0, 1) := by decide +kernel
theorem dX10_put_32 : decode cX10_put 32 = .ok (.aload_n 0, 1) := by decide +kernel
theorem dX10_put_33 : decode cX10_put 33 = .ok (.getfield 37, 3) := by decide +kernel
theorem dX10_put_36 : decode cX10_put 36 = .ok (.iload_n 1, 1) := by decide +kernel
theorem dX10_put_37 : decode cX10_put 37 = .ok (.iaload, 1) := by decide +kernel
theorem dX10_put_38 : decode cX10_put 38 = .ok (.iconst 1, 1) := by decide +kernel
theorem dX10_put_39 : decode cX10_put 39 = .ok (.isub, 1) := by decide +kernel
theorem dX10_put_40 : decode cX10_put 40 = .ok (.invokestatic 50, 3) := by decide +kernel
theorem dX10_put_43 : decode cX10_put 43 = .ok (.ifCond .ne 10, 3) := by decide +kernel
theorem dX10_put_46 : decode cX10_put 46 = .ok (.aload_n 0, 1) := by decide +kernel
theorem dX10_put_47 : decode cX10_put 47 = .ok (.ldc 62, 2) := by decide +kernel
theorem dX10_put_49 : decode cX10_put 49 = .ok (.invokevirtual 63, 3) := by decide +kernel
theorem dX10_put_52 : decode cX10_put 52 = .ok (.ireturn, 1) := by decide +kernel
theorem dX10_put_53 : decode cX10_put 53 = .ok (.aload_n 0, 1) := by decide +kernel
theorem dX10_put_54 : decode cX10_put 54 = .ok (.getfield 40, 3) := by decide +kernel
theorem dX10_put_57 : decode cX10_put 57 = .ok (.bipush 40, 2) := by decide +kernel
theorem dX10_put_59 : decode cX10_put 59 = .ok (.iload_n 1, 1) := by decide +kernel
theorem dX10_put_60 : decode cX10_put 60 = .ok (.imul, 1) := by decide +kernel
theorem dX10_put_61 : decode cX10_put 61 = .ok (.iload_n 2, 1) := by decide +kernel
theorem dX10_put_62 : decode cX10_put 62 = .ok (.iadd, 1) := by decide +kernel
theorem dX10_put_63 : decode cX10_put 63 = .ok (.aload_n 0, 1) := by decide +kernel
theorem dX10_put_64 : decode cX10_put 64 = .ok (.getfield 34, 3) := by decide +kernel
theorem dX10_put_67 : decode cX10_put 67 = .ok (.iload_n 1, 1) := by decide +kernel
theorem dX10_put_68 : decode cX10_put 68 = .ok (.iaload, 1) := by decide +kernel
theorem dX10_put_69 : decode cX10_put 69 = .ok (.iload_n 3, 1) := by decide +kernel
theorem dX10_put_70 : decode cX10_put 70 = .ok (.invokestatic 244, 3) := by decide +kernel
theorem dX10_put_73 : decode cX10_put 73 = .ok (.iastore, 1) := by decide +kernel
theorem dX10_put_74 : decode cX10_put 74 = .ok (.iconst 1, 1) := by decide +kernel
theorem dX10_put_75 : decode cX10_put 75 = .ok (.ireturn, 1) := by decide +kernel
theorem dX10_move_0 : decode cX10_move 0 = .ok (.iload_n 1, 1) := by decide +kernel
theorem dX10_move_1 : decode cX10_move 1 = .ok (.invokestatic 208, 3) := by decide +kernel
theorem dX10_move_4 : decode cX10_move 4 = .ok (.ifCond .eq 10, 3) := by decide +kernel
theorem dX10_move_7 : decode cX10_move 7 = .ok (.iload_n 3, 1) := by decide +kernel
theorem dX10_move_8 : decode cX10_move 8 = .ok (.invokestatic 208, 3) := by decide +kernel
theorem dX10_move_11 : decode cX10_move 11 = .ok (.ifCond .ne 10, 3) := by decide +kernel
theorem dX10_move_14 : decode cX10_move 14 = .ok (.aload_n 0, 1) := by decide +kernel
theorem dX10_move_15 : decode cX10_move 15 = .ok (.ldc 62, 2) := by decide +kernel
theorem dX10_move_17 : decode cX10_move 17 = .ok (.invokevirtual 63, 3) := by decide +kernel
theorem dX10_move_20 : decode cX10_move 20 = .ok (.ireturn, 1) := by decide +kernel
theorem dX10_move_21 : decode cX10_move 21 = .ok (.aload_n 0, 1) := by decide +kernel
theorem dX10_move_22 : decode cX10_move 22 = .ok (.getfield 34, 3) := by decide +kernel
theorem dX10_move_25 : decode cX10_move 25 = .ok (.iload_n 1, 1) := by decide +kernel
theorem dX10_move_26 : decode cX10_move 26 = .ok (.iaload, 1) := by decide +kernel
theorem dX10_move_27 : decode cX10_move 27 = .ok (.ifCond .eq 12, 3) := by decide +kernel
theorem dX10_move_30 : decode cX10_move 30 = .ok (.aload_n 0, 1) := by decide +kernel
theorem dX10_move_31 : decode cX10_move 31 = .ok (.getfield 34, 3) := by decide +kernel
theorem dX10_move_34 : decode cX10_move 34 = .ok (.iload_n 3, 1) := by decide +kernel
theorem dX10_move_35 : decode cX10_move 35 = .ok (.iaload, 1) := by decide +kernel
theorem dX10_move_36 : decode cX10_move 36 = .ok (.ifCond .ne 10, 3) := by decide +kernel
theorem dX10_move_39 : decode cX10_move 39 = .ok (.aload_n 0, 1) := by decide +kernel
theorem dX10_move_40 : decode cX10_move 40 = .ok (.ldc 204, 2) := by decide +kernel
theorem dX10_move_42 : decode cX10_move 42 = .ok (.invokevirtual 63, 3) := by decide +kernel
theorem dX10_move_45 : decode cX10_move 45 = .ok (.ireturn, 1) := by decide +kernel
theorem dX10_move_46 : decode cX10_move 46 = .ok (.aload_n 0, 1) := by decide +kernel
theorem dX10_move_47 : decode cX10_move 47 = .ok (.getfield 34, 3) := by decide +kernel
theorem dX10_move_50 : decode cX10_move 50 = .ok (.iload_n 1, 1) := by decide +kernel
theorem dX10_move_51 : decode cX10_move 51 = .ok (.iaload, 1) := by decide +kernel
theorem dX10_move_52 : decode cX10_move 52 = .ok (.aload_n 0, 1) := by decide +kernel
theorem dX10_move_53 : decode cX10_move 53 = .ok (.getfield 34, 3) := by decide +kernel
theorem dX10_move_56 : decode cX10_move 56 = .ok (.iload_n 3, 1) := by decide +kernel
theorem dX10_move_57 : decode cX10_move 57 = .ok (.iaload, 1) := by decide +kernel
theorem dX10_move_58 : decode cX10_move 58 = .ok (.if_icmp .eq 10, 3) := by decide +kernel
theorem dX10_move_61 : decode cX10_move 61 = .ok (.aload_n 0, 1) := by decide +kernel
theorem dX10_move_62 : decode cX10_move 62 = .ok (.ldc 103, 2) := by decide +kernel
theorem dX10_move_64 : decode cX10_move 64 = .ok (.invokevirtual 63, 3) := by decide +kernel
theorem dX10_move_67 : decode cX10_move 67 = .ok (.ireturn, 1) := by decide +kernel
theorem dX10_move_68 : decode cX10_move 68 = .ok (.iload 5, 2) := by decide +kernel
theorem dX10_move_70 : decode cX10_move 70 = .ok (.ifCond .lt 39, 3) := by decide +kernel
theorem dX10_move_73 : decode cX10_move 73 = .ok (.iload_n 2, 1) := by decide +kernel
theorem dX10_move_74 : decode cX10_move 74 = .ok (.ifCond .lt 35, 3) := by decide +kernel
theorem dX10_move_77 : decode cX10_move 77 = .ok (.iload 4, 2) := by decide +kernel
theorem dX10_move_79 : decode cX10_move 79 = .ok (.ifCond .lt 30, 3) := by decide +kernel
theorem dX10_move_82 : decode cX10_move 82 = .ok (.iload_n 2, 1) := by decide +kernel
theorem dX10_move_83 : decode cX10_move 83 = .ok (.aload_n 0, 1) := by decide +kernel
theorem dX10_move_84 : decode cX10_move 84 = .ok (.getfield 37, 3) := by decide +kernel
theorem dX10_move_87 : decode cX10_move 87 = .ok (.iload_n 1, 1) := by decide +kernel
theorem dX10_move_88 : decode cX10_move 88 = .ok (.iaload, 1) := by decide +kernel
theorem dX10_move_89 : decode cX10_move 89 = .ok (.iload 5, 2) := by decide +kernel
theorem dX10_move_91 : decode cX10_move 91 = .ok (.isub, 1) := by decide +kernel
theorem dX10_move_92 : decode cX10_move 92 = .ok (.if_icmp .gt 17, 3) := by decide +kernel
theorem dX10_move_95 : decode cX10_move 95 = .ok (.iload 4, 2) := by decide +kernel
theorem dX10_move_97 : decode cX10_move 97 = .ok (.aload_n 0, 1) := by decide +kernel
theorem dX10_move_98 : decode cX10_move 98 = .ok (.getfield 37, 3) := by decide +kernel
theorem dX10_move_101 : decode cX10_move 101 = .ok (.iload_n 3, 1) := by decide +kernel
theorem dX10_move_102 : decode cX10_move 102 = .ok (.iaload, 1) := by decide +kernel
theorem dX10_move_103 : decode cX10_move 103 = .ok (.iload 5, 2) := by decide +kernel
theorem dX10_move_105 : decode cX10_move 105 = .ok (.isub, 1) := by decide +kernel
theorem dX10_move_106 : decode cX10_move 106 = .ok (.if_icmp .le 10, 3) := by decide +kernel
theorem dX10_move_109 : decode cX10_move 109 = .ok (.aload_n 0, 1) := by decide +kernel
theorem dX10_move_110 : decode cX10_move 110 = .ok (.ldc 62, 2) := by decide +kernel
theorem dX10_move_112 : decode cX10_move 112 = .ok (.invokevirtual 63, 3) := by decide +kernel
theorem dX10_move_115 : decode cX10_move 115 = .ok (.ireturn, 1) := by decide +kernel
theorem dX10_move_116 : decode cX10_move 116 = .ok (.iconst 0, 1) := by decide +kernel
theorem dX10_move_117 : decode cX10_move 117 = .ok (.istore 6, 2) := by decide +kernel
theorem dX10_move_119 : decode cX10_move 119 = .ok (.iload 6, 2) := by decide +kernel
theorem dX10_move_121 : decode cX10_move 121 = .ok (.iload 5, 2) := by decide +kernel
theorem dX10_move_123 : decode cX10_move 123 = .ok (.if_icmp .ge 30, 3) := by decide +kernel
theorem dX10_move_126 : decode cX10_move 126 = .ok (.aload_n 0, 1) := by decide +kernel
theorem dX10_move_127 : decode cX10_move 127 = .ok (.getfield 43, 3) := by decide +kernel
theorem dX10_move_130 : decode cX10_move 130 = .ok (.iload 6, 2) := by decide +kernel
theorem dX10_move_132 : decode cX10_move 132 = .ok (.aload_n 0, 1) := by decide +kernel
theorem dX10_move_133 : decode cX10_move 133 = .ok (.getfield 40, 3) := by decide +kernel
theorem dX10_move_136 : decode cX10_move 136 = .ok (.bipush 40, 2) := by decide +kernel
theorem dX10_move_138 : decode cX10_move 138 = .ok (.iload_n 1, 1) := by decide +kernel
theorem dX10_move_139 : decode cX10_move 139 = .ok (.imul, 1) := by decide +kernel
theorem dX10_move_140 : decode cX10_move 140 = .ok (.iload_n 2, 1) := by decide +kernel
theorem dX10_move_141 : decode cX10_move 141 = .ok (.iadd, 1) := by decide +kernel
theorem dX10_move_142 : decode cX10_move 142 = .ok (.iload 6, 2) := by decide +kernel
theorem dX10_move_144 : decode cX10_move 144 = .ok (.iadd, 1) := by decide +kernel
theorem dX10_move_145 : decode cX10_move 145 = .ok (.iaload, 1) := by decide +kernel
theorem dX10_move_146 : decode cX10_move 146 = .ok (.iastore, 1) := by decide +kernel
theorem dX10_move_147 : decode cX10_move 147 = .ok (.iinc 6 1, 3) := by decide +kernel
theorem dX10_move_150 : decode cX10_move 150 = .ok (.goto (-31), 3) := by decide +kernel
theorem dX10_move_153 : decode cX10_move 153 = .ok (.iconst 0, 1) := by decide +kernel
theorem dX10_move_154 : decode cX10_move 154 = .ok (.istore 6, 2) := by decide +kernel
theorem dX10_move_156 : decode cX10_move 156 = .ok (.iload 6, 2) := by decide +kernel
theorem dX10_move_158 : decode cX10_move 158 = .ok (.iload 5, 2) := by decide +kernel
theorem dX10_move_160 : decode cX10_move 160 = .ok (.if_icmp .ge 31, 3) := by decide +kernel
theorem dX10_move_163 : decode cX10_move 163 = .ok (.aload_n 0, 1) := by decide +kernel
theorem dX10_move_164 : decode cX10_move 164 = .ok (.getfield 40, 3) := by decide +kernel
theorem dX10_move_167 : decode cX10_move 167 = .ok (.bipush 40, 2) := by decide +kernel
theorem dX10_move_169 : decode cX10_move 169 = .ok (.iload_n 3, 1) := by decide +kernel
theorem dX10_move_170 : decode cX10_move 170 = .ok (.imul, 1) := by decide +kernel
theorem dX10_move_171 : decode cX10_move 171 = .ok (.iload 4, 2) := by decide +kernel
theorem dX10_move_173 : decode cX10_move 173 = .ok (.iadd, 1) := by decide +kernel
theorem dX10_move_174 : decode cX10_move 174 = .ok (.iload 6, 2) := by decide +kernel
theorem dX10_move_176 : decode cX10_move 176 = .ok (.iadd, 1) := by decide +kernel
theorem dX10_move_177 : decode cX10_move 177 = .ok (.aload_n 0, 1) := by decide +kernel
theorem dX10_move_178 : decode cX10_move 178 = .ok (.getfield 43, 3) := by decide +kernel
theorem dX10_move_181 : decode cX10_move 181 = .ok (.iload 6, 2) := by decide +kernel
theorem dX10_move_183 : decode cX10_move 183 = .ok (.iaload, 1) := by decide +kernel
theorem dX10_move_184 : decode cX10_move 184 = .ok (.iastore, 1) := by decide +kernel
theorem dX10_move_185 : decode cX10_move 185 = .ok (.iinc 6 1, 3) := by decide +kernel
theorem dX10_move_188 : decode cX10_move 188 = .ok (.goto (-32), 3) := by decide +kernel
theorem dX10_move_191 : decode cX10_move 191 = .ok (.iload 5, 2) := by decide +kernel
theorem dX10_move_193 : decode cX10_move 193 = .ok (.ireturn, 1) := by decide +kernel
theorem dX10_snows_0 : decode cX10_snows 0 = .ok (.iload_n 1, 1) := by decide +kernel
theorem dX10_snows_1 : decode cX10_snows 1 = .ok (.invokestatic 208, 3) := by decide +kernel
theorem dX10_snows_4 : decode cX10_snows 4 = .ok (.ifCond .ne 10, 3) := by decide +kernel
theorem dX10_snows_7 : decode cX10_snows 7 = .ok (.aload_n 0, 1) := by decide +kernel
theorem dX10_snows_8 : decode cX10_snows 8 = .ok (.ldc 62, 2) := by decide +kernel
theorem dX10_snows_10 : decode cX10_snows 10 = .ok (.invokevirtual 63, 3) := by decide +kernel
theorem dX10_snows_13 : decode cX10_snows 13 = .ok (.ireturn, 1) := by decide +kernel
theorem dX10_snows_14 : decode cX10_snows 14 = .ok (.aload_n 0, 1) := by decide +kernel
theorem dX10_snows_15 : decode cX10_snows 15 = .ok (.getfield 34, 3) := by decide +kernel
theorem dX10_snows_18 : decode cX10_snows 18 = .ok (.iload_n 1, 1) := by decide +kernel
theorem dX10_snows_19 : decode cX10_snows 19 = .ok (.iaload, 1) := by decide +kernel
theorem dX10_snows_20 : decode cX10_snows 20 = .ok (.ifCond .ne 10, 3) := by decide +kernel
theorem dX10_snows_23 : decode cX10_snows 23 = .ok (.aload_n 0, 1) := by decide +kernel
theorem dX10_snows_24 : decode cX10_snows 24 = .ok (.ldc 204, 2) := by decide +kernel
theorem dX10_snows_26 : decode cX10_snows 26 = .ok (.invokevirtual 63, 3) := by decide +kernel
theorem dX10_snows_29 : decode cX10_snows 29 = .ok (.ireturn, 1) := by decide +kernel
theorem dX10_snows_30 : decode cX10_snows 30 = .ok (.iconst 0, 1) := by decide +kernel
theorem dX10_snows_31 : decode cX10_snows 31 = .ok (.istore_n 2, 1) := by decide +kernel
theorem dX10_snows_32 : decode cX10_snows 32 = .ok (.iload_n 2, 1) := by decide +kernel
theorem dX10_snows_33 : decode cX10_snows 33 = .ok (.aload_n 0, 1) := by decide +kernel
theorem dX10_snows_34 : decode cX10_snows 34 = .ok (.getfield 37, 3) := by decide +kernel
theorem dX10_snows_37 : decode cX10_snows 37 = .ok (.iload_n 1, 1) := by decide +kernel
theorem dX10_snows_38 : decode cX10_snows 38 = .ok (.iaload, 1) := by decide +kernel
theorem dX10_snows_39 : decode cX10_snows 39 = .ok (.if_icmp .ge 57, 3) := by decide +kernel
theorem dX10_snows_42 : decode cX10_snows 42 = .ok (.iload_n 2, 1) := by decide +kernel
theorem dX10_snows_43 : decode cX10_snows 43 = .ok (.invokestatic 54, 3) := by decide +kernel
theorem dX10_snows_46 : decode cX10_snows 46 = .ok (.ifCond .eq 50, 3) := by decide +kernel
theorem dX10_snows_49 : decode cX10_snows 49 = .ok (.aload_n 0, 1) := by decide +kernel
theorem dX10_snows_50 : decode cX10_snows 50 = .ok (.getfield 40, 3) := by decide +kernel
theorem dX10_snows_53 : decode cX10_snows 53 = .ok (.bipush 40, 2) := by decide +kernel
theorem dX10_snows_55 : decode cX10_snows 55 = .ok (.iload_n 1, 1) := by decide +kernel
theorem dX10_snows_56 : decode cX10_snows 56 = .ok (.imul, 1) := by decide +kernel
theorem dX10_snows_57 : decode cX10_snows 57 = .ok (.iload_n 2, 1) := by decide +kernel
theorem dX10_snows_58 : decode cX10_snows 58 = .ok (.iadd, 1) := by decide +kernel
theorem dX10_snows_59 : decode cX10_snows 59 = .ok (.iaload, 1) := by decide +kernel
theorem dX10_snows_60 : decode cX10_snows 60 = .ok (.iconst 0, 1) := by decide +kernel
theorem dX10_snows_61 : decode cX10_snows 61 = .ok (.sipush 999, 3) := by decide +kernel
theorem dX10_snows_64 : decode cX10_snows 64 = .ok (.invokestatic 50, 3) := by decide +kernel
theorem dX10_snows_67 : decode cX10_snows 67 = .ok (.ifCond .eq 29, 3) := by decide +kernel
theorem dX10_snows_70 : decode cX10_snows 70 = .ok (.aload_n 0, 1) := by decide +kernel
theorem dX10_snows_71 : decode cX10_snows 71 = .ok (.getfield 7, 3) := by decide +kernel
theorem dX10_snows_74 : decode cX10_snows 74 = .ok (.bipush 8, 2) := by decide +kernel
theorem dX10_snows_76 : decode cX10_snows 76 = .ok (.iload_n 2, 1) := by decide +kernel
theorem dX10_snows_77 : decode cX10_snows 77 = .ok (.iadd, 1) := by decide +kernel
theorem dX10_snows_78 : decode cX10_snows 78 = .ok (.aload_n 0, 1) := by decide +kernel
theorem dX10_snows_79 : decode cX10_snows 79 = .ok (.getfield 40, 3) := by decide +kernel
theorem dX10_snows_82 : decode cX10_snows 82 = .ok (.bipush 40, 2) := by decide +kernel
theorem dX10_snows_84 : decode cX10_snows 84 = .ok (.iload_n 1, 1) := by decide +kernel
theorem dX10_snows_85 : decode cX10_snows 85 = .ok (.imul, 1) := by decide +kernel
theorem dX10_snows_86 : decode cX10_snows 86 = .ok (.iload_n 2, 1) := by decide +kernel
theorem dX10_snows_87 : decode cX10_snows 87 = .ok (.iadd, 1) := by decide +kernel
theorem dX10_snows_88 : decode cX10_snows 88 = .ok (.iaload, 1) := by decide +kernel
theorem dX10_snows_89 : decode cX10_snows 89 = .ok (.iastore, 1) := by decide +kernel
theorem dX10_snows_90 : decode cX10_snows 90 = .ok (.iinc 2 1, 3) := by decide +kernel
theorem dX10_snows_93 : decode cX10_snows 93 = .ok (.goto (-61), 3) := by decide +kernel
theorem dX10_snows_96 : decode cX10_snows 96 = .ok (.iload_n 2, 1) := by decide +kernel
theorem dX10_snows_97 : decode cX10_snows 97 = .ok (.ireturn, 1) := by decide +kernel
theorem dX10_judge_0 : decode cX10_judge 0 = .ok (.iload_n 1, 1) := by decide +kernel
theorem dX10_judge_1 : decode cX10_judge 1 = .ok (.invokestatic 208, 3) := by decide +kernel
theorem dX10_judge_4 : decode cX10_judge 4 = .ok (.ifCond .ne 10, 3) := by decide +kernel
theorem dX10_judge_7 : decode cX10_judge 7 = .ok (.aload_n 0, 1) := by decide +kernel
theorem dX10_judge_8 : decode cX10_judge 8 = .ok (.ldc 62, 2) := by decide +kernel
theorem dX10_judge_10 : decode cX10_judge 10 = .ok (.invokevirtual 63, 3) := by decide +kernel
theorem dX10_judge_13 : decode cX10_judge 13 = .ok (.ireturn, 1) := by decide +kernel
theorem dX10_judge_14 : decode cX10_judge 14 = .ok (.aload_n 0, 1) := by decide +kernel
theorem dX10_judge_15 : decode cX10_judge 15 = .ok (.getfield 34, 3) := by decide +kernel
theorem dX10_judge_18 : decode cX10_judge 18 = .ok (.iload_n 1, 1) := by decide +kernel
theorem dX10_judge_19 : decode cX10_judge 19 = .ok (.iaload, 1) := by decide +kernel
theorem dX10_judge_20 : decode cX10_judge 20 = .ok (.ifCond .ne 10, 3) := by decide +kernel
theorem dX10_judge_23 : decode cX10_judge 23 = .ok (.aload_n 0, 1) := by decide +kernel
theorem dX10_judge_24 : decode cX10_judge 24 = .ok (.ldc 204, 2) := by decide +kernel
theorem dX10_judge_26 : decode cX10_judge 26 = .ok (.invokevirtual 63, 3) := by decide +kernel
theorem dX10_judge_29 : decode cX10_judge 29 = .ok (.ireturn, 1) := by decide +kernel
theorem dX10_judge_30 : decode cX10_judge 30 = .ok (.iconst 0, 1) := by decide +kernel
theorem dX10_judge_31 : decode cX10_judge 31 = .ok (.istore_n 2, 1) := by decide +kernel
theorem dX10_judge_32 : decode cX10_judge 32 = .ok (.iload_n 2, 1) := by decide +kernel
theorem dX10_judge_33 : decode cX10_judge 33 = .ok (.aload_n 0, 1) := by decide +kernel
theorem dX10_judge_34 : decode cX10_judge 34 = .ok (.getfield 7, 3) := by decide +kernel
theorem dX10_judge_37 : decode cX10_judge 37 = .ok (.iconst 2, 1) := by decide +kernel
theorem dX10_judge_38 : decode cX10_judge 38 = .ok (.iaload, 1) := by decide +kernel
theorem dX10_judge_39 : decode cX10_judge 39 = .ok (.if_icmp .ge 39, 3) := by decide +kernel
theorem dX10_judge_42 : decode cX10_judge 42 = .ok (.iload_n 2, 1) := by decide +kernel
theorem dX10_judge_43 : decode cX10_judge 43 = .ok (.aload_n 0, 1) := by decide +kernel
theorem dX10_judge_44 : decode cX10_judge 44 = .ok (.getfield 37, 3) := by decide +kernel
theorem dX10_judge_47 : decode cX10_judge 47 = .ok (.iload_n 1, 1) := by decide +kernel
theorem dX10_judge_48 : decode cX10_judge 48 = .ok (.iaload, 1) := by decide +kernel
theorem dX10_judge_49 : decode cX10_judge 49 = .ok (.if_icmp .ge 29, 3) := by decide +kernel
theorem dX10_judge_52 : decode cX10_judge 52 = .ok (.aload_n 0, 1) := by decide +kernel
theorem dX10_judge_53 : decode cX10_judge 53 = .ok (.getfield 40, 3) := by decide +kernel
theorem dX10_judge_56 : decode cX10_judge 56 = .ok (.bipush 40, 2) := by decide +kernel
theorem dX10_judge_58 : decode cX10_judge 58 = .ok (.iload_n 1, 1) := by decide +kernel
theorem dX10_judge_59 : decode cX10_judge 59 = .ok (.imul, 1) := by decide +kernel
theorem dX10_judge_60 : decode cX10_judge 60 = .ok (.iload_n 2, 1) := by decide +kernel
theorem dX10_judge_61 : decode cX10_judge 61 = .ok (.iadd, 1) := by decide +kernel
theorem dX10_judge_62 : decode cX10_judge 62 = .ok (.iaload, 1) := by decide +kernel
theorem dX10_judge_63 : decode cX10_judge 63 = .ok (.aload_n 0, 1) := by decide +kernel
theorem dX10_judge_64 : decode cX10_judge 64 = .ok (.iload_n 2, 1) := by decide +kernel
theorem dX10_judge_65 : decode cX10_judge 65 = .ok (.iconst 3, 1) := by decide +kernel
theorem dX10_judge_66 : decode cX10_judge 66 = .ok (.invokevirtual 67, 3) := by decide +kernel
theorem dX10_judge_69 : decode cX10_judge 69 = .ok (.if_icmp .ne 9, 3) := by decide +kernel
theorem dX10_judge_72 : decode cX10_judge 72 = .ok (.iinc 2 1, 3) := by decide +kernel
theorem dX10_judge_75 : decode cX10_judge 75 = .ok (.goto (-43), 3) := by decide +kernel
theorem dX10_judge_78 : decode cX10_judge 78 = .ok (.iload_n 2, 1) := by decide +kernel
theorem dX10_judge_79 : decode cX10_judge 79 = .ok (.aload_n 0, 1) := by decide +kernel
theorem dX10_judge_80 : decode cX10_judge 80 = .ok (.getfield 7, 3) := by decide +kernel
theorem dX10_judge_83 : decode cX10_judge 83 = .ok (.iconst 2, 1) := by decide +kernel
theorem dX10_judge_84 : decode cX10_judge 84 = .ok (.iaload, 1) := by decide +kernel
theorem dX10_judge_85 : decode cX10_judge 85 = .ok (.if_icmp .ne 17, 3) := by decide +kernel
theorem dX10_judge_88 : decode cX10_judge 88 = .ok (.iload_n 2, 1) := by decide +kernel
theorem dX10_judge_89 : decode cX10_judge 89 = .ok (.aload_n 0, 1) := by decide +kernel
theorem dX10_judge_90 : decode cX10_judge 90 = .ok (.getfield 37, 3) := by decide +kernel
theorem dX10_judge_93 : decode cX10_judge 93 = .ok (.iload_n 1, 1) := by decide +kernel
theorem dX10_judge_94 : decode cX10_judge 94 = .ok (.iaload, 1) := by decide +kernel
theorem dX10_judge_95 : decode cX10_judge 95 = .ok (.if_icmp .ne 7, 3) := by decide +kernel
theorem dX10_judge_98 : decode cX10_judge 98 = .ok (.iconst (-1), 1) := by decide +kernel
theorem dX10_judge_99 : decode cX10_judge 99 = .ok (.goto 4, 3) := by decide +kernel
theorem dX10_judge_102 : decode cX10_judge 102 = .ok (.iload_n 2, 1) := by decide +kernel
theorem dX10_judge_103 : decode cX10_judge 103 = .ok (.ireturn, 1) := by decide +kernel
theorem dX10_image_0 : decode cX10_image 0 = .ok (.aload_n 0, 1) := by decide +kernel
theorem dX10_image_1 : decode cX10_image 1 = .ok (.aload_n 0, 1) := by decide +kernel
theorem dX10_image_2 : decode cX10_image 2 = .ok (.getfield 7, 3) := by decide +kernel
theorem dX10_image_5 : decode cX10_image 5 = .ok (.aload_n 0, 1) := by decide +kernel
theorem dX10_image_6 : decode cX10_image 6 = .ok (.getfield 13, 3) := by decide +kernel
theorem dX10_image_9 : decode cX10_image 9 = .ok (.invokevirtual 188, 3) := by decide +kernel
theorem dX10_image_12 : decode cX10_image 12 = .ok (.aload_n 0, 1) := by decide +kernel
theorem dX10_image_13 : decode cX10_image 13 = .ok (.iconst 1, 1) := by decide +kernel
theorem dX10_image_14 : decode cX10_image 14 = .ok (.putfield 247, 3) := by decide +kernel
theorem dX10_image_17 : decode cX10_image 17 = .ok (.aload_n 0, 1) := by decide +kernel
theorem dX10_image_18 : decode cX10_image 18 = .ok (.dup, 1) := by decide +kernel
theorem dX10_image_19 : decode cX10_image 19 = .ok (.getfield 250, 3) := by decide +kernel
theorem dX10_image_22 : decode cX10_image 22 = .ok (.iconst 1, 1) := by decide +kernel
theorem dX10_image_23 : decode cX10_image 23 = .ok (.iadd, 1) := by decide +kernel
theorem dX10_image_24 : decode cX10_image 24 = .ok (.putfield 250, 3) := by decide +kernel
theorem dX10_image_27 : decode cX10_image 27 = .ok (.aload_n 0, 1) := by decide +kernel
theorem dX10_image_28 : decode cX10_image 28 = .ok (.getfield 250, 3) := by decide +kernel
theorem dX10_image_31 : decode cX10_image 31 = .ok (.ireturn, 1) := by decide +kernel
theorem dX10_restore_0 : decode cX10_restore 0 = .ok (.aload_n 0, 1) := by decide +kernel
theorem dX10_restore_1 : decode cX10_restore 1 = .ok (.getfield 247, 3) := by decide +kernel
theorem dX10_restore_4 : decode cX10_restore 4 = .ok (.ifCond .ne 10, 3) := by decide +kernel
theorem dX10_restore_7 : decode cX10_restore 7 = .ok (.aload_n 0, 1) := by decide +kernel
theorem dX10_restore_8 : decode cX10_restore 8 = .ok (.ldc 204, 2) := by decide +kernel
theorem dX10_restore_10 : decode cX10_restore 10 = .ok (.invokevirtual 63, 3) := by decide +kernel
theorem dX10_restore_13 : decode cX10_restore 13 = .ok (.ireturn, 1) := by decide +kernel
theorem dX10_restore_14 : decode cX10_restore 14 = .ok (.aload_n 0, 1) := by decide +kernel
theorem dX10_restore_15 : decode cX10_restore 15 = .ok (.aload_n 0, 1) := by decide +kernel
theorem dX10_restore_16 : decode cX10_restore 16 = .ok (.getfield 13, 3) := by decide +kernel
theorem dX10_restore_19 : decode cX10_restore 19 = .ok (.aload_n 0, 1) := by decide +kernel
theorem dX10_restore_20 : decode cX10_restore 20 = .ok (.getfield 7, 3) := by decide +kernel
theorem dX10_restore_23 : decode cX10_restore 23 = .ok (.invokevirtual 188, 3) := by decide +kernel
theorem dX10_restore_26 : decode cX10_restore 26 = .ok (.aload_n 0, 1) := by decide +kernel
theorem dX10_restore_27 : decode cX10_restore 27 = .ok (.getfield 7, 3) := by decide +kernel
theorem dX10_restore_30 : decode cX10_restore 30 = .ok (.iconst 0, 1) := by decide +kernel
theorem dX10_restore_31 : decode cX10_restore 31 = .ok (.iaload, 1) := by decide +kernel
theorem dX10_restore_32 : decode cX10_restore 32 = .ok (.ireturn, 1) := by decide +kernel
theorem dX10_tell_0 : decode cX10_tell 0 = .ok (.aload_n 0, 1) := by decide +kernel
theorem dX10_tell_1 : decode cX10_tell 1 = .ok (.getfield 7, 3) := by decide +kernel
theorem dX10_tell_4 : decode cX10_tell 4 = .ok (.iconst 5, 1) := by decide +kernel
theorem dX10_tell_5 : decode cX10_tell 5 = .ok (.iaload, 1) := by decide +kernel
theorem dX10_tell_6 : decode cX10_tell 6 = .ok (.bipush 20, 2) := by decide +kernel
theorem dX10_tell_8 : decode cX10_tell 8 = .ok (.if_icmp .ne 10, 3) := by decide +kernel
theorem dX10_tell_11 : decode cX10_tell 11 = .ok (.aload_n 0, 1) := by decide +kernel
theorem dX10_tell_12 : decode cX10_tell 12 = .ok (.ldc 77, 2) := by decide +kernel
theorem dX10_tell_14 : decode cX10_tell 14 = .ok (.invokevirtual 63, 3) := by decide +kernel
theorem dX10_tell_17 : decode cX10_tell 17 = .ok (.ireturn, 1) := by decide +kernel
theorem dX10_tell_18 : decode cX10_tell 18 = .ok (.aload_n 0, 1) := by decide +kernel
theorem dX10_tell_19 : decode cX10_tell 19 = .ok (.getfield 7, 3) := by decide +kernel
theorem dX10_tell_22 : decode cX10_tell 22 = .ok (.bipush 122, 2) := by decide +kernel
theorem dX10_tell_24 : decode cX10_tell 24 = .ok (.aload_n 0, 1) := by decide +kernel
theorem dX10_tell_25 : decode cX10_tell 25 = .ok (.getfield 7, 3) := by decide +kernel
theorem dX10_tell_28 : decode cX10_tell 28 = .ok (.iconst 5, 1) := by decide +kernel
theorem dX10_tell_29 : decode cX10_tell 29 = .ok (.iaload, 1) := by decide +kernel
theorem dX10_tell_30 : decode cX10_tell 30 = .ok (.iadd, 1) := by decide +kernel
theorem dX10_tell_31 : decode cX10_tell 31 = .ok (.iload_n 1, 1) := by decide +kernel
theorem dX10_tell_32 : decode cX10_tell 32 = .ok (.iastore, 1) := by decide +kernel
theorem dX10_tell_33 : decode cX10_tell 33 = .ok (.aload_n 0, 1) := by decide +kernel
theorem dX10_tell_34 : decode cX10_tell 34 = .ok (.getfield 7, 3) := by decide +kernel
theorem dX10_tell_37 : decode cX10_tell 37 = .ok (.iconst 5, 1) := by decide +kernel
theorem dX10_tell_38 : decode cX10_tell 38 = .ok (.dup2, 1) := by decide +kernel
theorem dX10_tell_39 : decode cX10_tell 39 = .ok (.iaload, 1) := by decide +kernel
theorem dX10_tell_40 : decode cX10_tell 40 = .ok (.iconst 1, 1) := by decide +kernel
theorem dX10_tell_41 : decode cX10_tell 41 = .ok (.iadd, 1) := by decide +kernel
theorem dX10_tell_42 : decode cX10_tell 42 = .ok (.iastore, 1) := by decide +kernel
theorem dX10_tell_43 : decode cX10_tell 43 = .ok (.aload_n 0, 1) := by decide +kernel
theorem dX10_tell_44 : decode cX10_tell 44 = .ok (.getfield 7, 3) := by decide +kernel
theorem dX10_tell_47 : decode cX10_tell 47 = .ok (.iconst 5, 1) := by decide +kernel
theorem dX10_tell_48 : decode cX10_tell 48 = .ok (.iaload, 1) := by decide +kernel
theorem dX10_tell_49 : decode cX10_tell 49 = .ok (.ireturn, 1) := by decide +kernel
theorem dX10_check_0 : decode cX10_check 0 = .ok (.aload_n 0, 1) := by decide +kernel
theorem dX10_check_1 : decode cX10_check 1 = .ok (.getfield 7, 3) := by decide +kernel
theorem dX10_check_4 : decode cX10_check 4 = .ok (.iconst 5, 1) := by decide +kernel
theorem dX10_check_5 : decode cX10_check 5 = .ok (.iaload, 1) := by decide +kernel
theorem dX10_check_6 : decode cX10_check 6 = .ok (.istore_n 1, 1) := by decide +kernel
theorem dX10_check_7 : decode cX10_check 7 = .ok (.aload_n 0, 1) := by decide +kernel
theorem dX10_check_8 : decode cX10_check 8 = .ok (.getfield 7, 3) := by decide +kernel
theorem dX10_check_11 : decode cX10_check 11 = .ok (.iconst 5, 1) := by decide +kernel
theorem dX10_check_12 : decode cX10_check 12 = .ok (.iconst 0, 1) := by decide +kernel
theorem dX10_check_13 : decode cX10_check 13 = .ok (.iastore, 1) := by decide +kernel
theorem dX10_check_14 : decode cX10_check 14 = .ok (.aload_n 0, 1) := by decide +kernel
theorem dX10_check_15 : decode cX10_check 15 = .ok (.aload_n 0, 1) := by decide +kernel
theorem dX10_check_16 : decode cX10_check 16 = .ok (.getfield 7, 3) := by decide +kernel
theorem dX10_check_19 : decode cX10_check 19 = .ok (.aload_n 0, 1) := by decide +kernel
theorem dX10_check_20 : decode cX10_check 20 = .ok (.getfield 16, 3) := by decide +kernel
theorem dX10_check_23 : decode cX10_check 23 = .ok (.invokevirtual 188, 3) := by decide +kernel
theorem dX10_check_26 : decode cX10_check 26 = .ok (.iconst 0, 1) := by decide +kernel
theorem dX10_check_27 : decode cX10_check 27 = .ok (.istore_n 2, 1) := by decide +kernel
theorem dX10_check_28 : decode cX10_check 28 = .ok (.iconst 1, 1) := by decide +kernel
theorem dX10_check_29 : decode cX10_check 29 = .ok (.istore_n 3, 1) := by decide +kernel
theorem dX10_check_30 : decode cX10_check 30 = .ok (.iload_n 2, 1) := by decide +kernel
theorem dX10_check_31 : decode cX10_check 31 = .ok (.iload_n 1, 1) := by decide +kernel
theorem dX10_check_32 : decode cX10_check 32 = .ok (.if_icmp .ge 51, 3) := by decide +kernel
theorem dX10_check_35 : decode cX10_check 35 = .ok (.iload_n 3, 1) := by decide +kernel
theorem dX10_check_36 : decode cX10_check 36 = .ok (.ifCond .eq 47, 3) := by decide +kernel
theorem dX10_check_39 : decode cX10_check 39 = .ok (.aload_n 0, 1) := by decide +kernel
theorem dX10_check_40 : decode cX10_check 40 = .ok (.invokevirtual 185, 3) := by decide +kernel
theorem dX10_check_43 : decode cX10_check 43 = .ok (.aload_n 0, 1) := by decide +kernel
theorem dX10_check_44 : decode cX10_check 44 = .ok (.invokevirtual 195, 3) := by decide +kernel
theorem dX10_check_47 : decode cX10_check 47 = .ok (.invokestatic 173, 3) := by decide +kernel
theorem dX10_check_50 : decode cX10_check 50 = .ok (.aload_n 0, 1) := by decide +kernel
theorem dX10_check_51 : decode cX10_check 51 = .ok (.getfield 7, 3) := by decide +kernel
theorem dX10_check_54 : decode cX10_check 54 = .ok (.bipush 122, 2) := by decide +kernel
theorem dX10_check_56 : decode cX10_check 56 = .ok (.iload_n 2, 1) := by decide +kernel
theorem dX10_check_57 : decode cX10_check 57 = .ok (.iadd, 1) := by decide +kernel
theorem dX10_check_58 : decode cX10_check 58 = .ok (.iaload, 1) := by decide +kernel
theorem dX10_check_59 : decode cX10_check 59 = .ok (.if_icmp .ne 7, 3) := by decide +kernel
theorem dX10_check_62 : decode cX10_check 62 = .ok (.iconst 1, 1) := by decide +kernel
theorem dX10_check_63 : decode cX10_check 63 = .ok (.goto 4, 3) := by decide +kernel
theorem dX10_check_66 : decode cX10_check 66 = .ok (.iconst 0, 1) := by decide +kernel
theorem dX10_check_67 : decode cX10_check 67 = .ok (.istore_n 3, 1) := by decide +kernel
theorem dX10_check_68 : decode cX10_check 68 = .ok (.iload_n 2, 1) := by decide +kernel
theorem dX10_check_69 : decode cX10_check 69 = .ok (.iload_n 3, 1) := by decide +kernel
theorem dX10_check_70 : decode cX10_check 70 = .ok (.ifCond .eq 7, 3) := by decide +kernel
theorem dX10_check_73 : decode cX10_check 73 = .ok (.iconst 1, 1) := by decide +kernel
theorem dX10_check_74 : decode cX10_check 74 = .ok (.goto 4, 3) := by decide +kernel
theorem dX10_check_77 : decode cX10_check 77 = .ok (.iconst 0, 1) := by decide +kernel
theorem dX10_check_78 : decode cX10_check 78 = .ok (.iadd, 1) := by decide +kernel
theorem dX10_check_79 : decode cX10_check 79 = .ok (.istore_n 2, 1) := by decide +kernel
theorem dX10_check_80 : decode cX10_check 80 = .ok (.goto (-50), 3) := by decide +kernel
theorem dX10_check_83 : decode cX10_check 83 = .ok (.aload_n 0, 1) := by decide +kernel
theorem dX10_check_84 : decode cX10_check 84 = .ok (.aload_n 0, 1) := by decide +kernel
theorem dX10_check_85 : decode cX10_check 85 = .ok (.getfield 16, 3) := by decide +kernel
theorem dX10_check_88 : decode cX10_check 88 = .ok (.aload_n 0, 1) := by decide +kernel
theorem dX10_check_89 : decode cX10_check 89 = .ok (.getfield 7, 3) := by decide +kernel
theorem dX10_check_92 : decode cX10_check 92 = .ok (.invokevirtual 188, 3) := by decide +kernel
theorem dX10_check_95 : decode cX10_check 95 = .ok (.iload_n 3, 1) := by decide +kernel
theorem dX10_check_96 : decode cX10_check 96 = .ok (.ifCond .eq 7, 3) := by decide +kernel
theorem dX10_check_99 : decode cX10_check 99 = .ok (.iconst 0, 1) := by decide +kernel
theorem dX10_check_100 : decode cX10_check 100 = .ok (.goto 6, 3) := by decide +kernel
theorem dX10_check_103 : decode cX10_check 103 = .ok (.iconst 1, 1) := by decide +kernel
theorem dX10_check_104 : decode cX10_check 104 = .ok (.iload_n 2, 1) := by decide +kernel
theorem dX10_check_105 : decode cX10_check 105 = .ok (.iadd, 1) := by decide +kernel
theorem dX10_check_106 : decode cX10_check 106 = .ok (.ireturn, 1) := by decide +kernel
theorem dX10_snowOfAll_0 : decode cX10_snowOfAll 0 = .ok (.iconst 0, 1) := by decide +kernel
theorem dX10_snowOfAll_1 : decode cX10_snowOfAll 1 = .ok (.istore_n 1, 1) := by decide +kernel
theorem dX10_snowOfAll_2 : decode cX10_snowOfAll 2 = .ok (.iconst 0, 1) := by decide +kernel
theorem dX10_snowOfAll_3 : decode cX10_snowOfAll 3 = .ok (.istore_n 2, 1) := by decide +kernel
theorem dX10_snowOfAll_4 : decode cX10_snowOfAll 4 = .ok (.iload_n 2, 1) := by decide +kernel
theorem dX10_snowOfAll_5 : decode cX10_snowOfAll 5 = .ok (.bipush 10, 2) := by decide +kernel
theorem dX10_snowOfAll_7 : decode cX10_snowOfAll 7 = .ok (.if_icmp .ge 21, 3) := by decide +kernel
theorem dX10_snowOfAll_10 : decode cX10_snowOfAll 10 = .ok (.iload_n 1, 1) := by decide +kernel
theorem dX10_snowOfAll_11 : decode cX10_snowOfAll 11 = .ok (.aload_n 0, 1) := by decide +kernel
theorem dX10_snowOfAll_12 : decode cX10_snowOfAll 12 = .ok (.getfield 7, 3) := by decide +kernel
theorem dX10_snowOfAll_15 : decode cX10_snowOfAll 15 = .ok (.bipush 8, 2) := by decide +kernel
theorem dX10_snowOfAll_17 : decode cX10_snowOfAll 17 = .ok (.iload_n 2, 1) := by decide +kernel
theorem dX10_snowOfAll_18 : decode cX10_snowOfAll 18 = .ok (.iadd, 1) := by decide +kernel
theorem dX10_snowOfAll_19 : decode cX10_snowOfAll 19 = .ok (.iaload, 1) := by decide +kernel
theorem dX10_snowOfAll_20 : decode cX10_snowOfAll 20 = .ok (.iadd, 1) := by decide +kernel
theorem dX10_snowOfAll_21 : decode cX10_snowOfAll 21 = .ok (.istore_n 1, 1) := by decide +kernel
theorem dX10_snowOfAll_22 : decode cX10_snowOfAll 22 = .ok (.iinc 2 1, 3) := by decide +kernel
theorem dX10_snowOfAll_25 : decode cX10_snowOfAll 25 = .ok (.goto (-21), 3) := by decide +kernel
theorem dX10_snowOfAll_28 : decode cX10_snowOfAll 28 = .ok (.iload_n 1, 1) := by decide +kernel
theorem dX10_snowOfAll_29 : decode cX10_snowOfAll 29 = .ok (.ireturn, 1) := by decide +kernel
theorem dX10_lostSet_0 : decode cX10_lostSet 0 = .ok (.iconst 0, 1) := by decide +kernel
theorem dX10_lostSet_1 : decode cX10_lostSet 1 = .ok (.istore_n 1, 1) := by decide +kernel
theorem dX10_lostSet_2 : decode cX10_lostSet 2 = .ok (.iconst 0, 1) := by decide +kernel
theorem dX10_lostSet_3 : decode cX10_lostSet 3 = .ok (.istore_n 2, 1) := by decide +kernel
theorem dX10_lostSet_4 : decode cX10_lostSet 4 = .ok (.iload_n 2, 1) := by decide +kernel
theorem dX10_lostSet_5 : decode cX10_lostSet 5 = .ok (.aload_n 0, 1) := by decide +kernel
theorem dX10_lostSet_6 : decode cX10_lostSet 6 = .ok (.getfield 7, 3) := by decide +kernel
theorem dX10_lostSet_9 : decode cX10_lostSet 9 = .ok (.iconst 2, 1) := by decide +kernel
theorem dX10_lostSet_10 : decode cX10_lostSet 10 = .ok (.iaload, 1) := by decide +kernel
theorem dX10_lostSet_11 : decode cX10_lostSet 11 = .ok (.if_icmp .ge 27, 3) := by decide +kernel
theorem dX10_lostSet_14 : decode cX10_lostSet 14 = .ok (.iload_n 1, 1) := by decide +kernel
theorem dX10_lostSet_15 : decode cX10_lostSet 15 = .ok (.aload_n 0, 1) := by decide +kernel
theorem dX10_lostSet_16 : decode cX10_lostSet 16 = .ok (.iload_n 2, 1) := by decide +kernel
theorem dX10_lostSet_17 : decode cX10_lostSet 17 = .ok (.invokevirtual 179, 3) := by decide +kernel
theorem dX10_lostSet_20 : decode cX10_lostSet 20 = .ok (.ifCond .eq 9, 3) := by decide +kernel
theorem dX10_lostSet_23 : decode cX10_lostSet 23 = .ok (.iconst 1, 1) := by decide +kernel
theorem dX10_lostSet_24 : decode cX10_lostSet 24 = .ok (.iload_n 2, 1) := by decide +kernel
theorem dX10_lostSet_25 : decode cX10_lostSet 25 = .ok (.ishl, 1) := by decide +kernel
theorem dX10_lostSet_26 : decode cX10_lostSet 26 = .ok (.goto 4, 3) := by decide +kernel
theorem dX10_lostSet_29 : decode cX10_lostSet 29 = .ok (.iconst 0, 1) := by decide +kernel
theorem dX10_lostSet_30 : decode cX10_lostSet 30 = .ok (.ior, 1) := by decide +kernel
theorem dX10_lostSet_31 : decode cX10_lostSet 31 = .ok (.istore_n 1, 1) := by decide +kernel
theorem dX10_lostSet_32 : decode cX10_lostSet 32 = .ok (.iinc 2 1, 3) := by decide +kernel
theorem dX10_lostSet_35 : decode cX10_lostSet 35 = .ok (.goto (-31), 3) := by decide +kernel
theorem dX10_lostSet_38 : decode cX10_lostSet 38 = .ok (.iload_n 1, 1) := by decide +kernel
theorem dX10_lostSet_39 : decode cX10_lostSet 39 = .ok (.ireturn, 1) := by decide +kernel
theorem dX10_count_0 : decode cX10_count 0 = .ok (.iload_n 1, 1) := by decide +kernel
theorem dX10_count_1 : decode cX10_count 1 = .ok (.tableswitch 117 0 9 #[55, 62, 69, 76, 81, 86, 91, 98, 105, 110], 55) := by decide +kernel
theorem dX10_count_56 : decode cX10_count 56 = .ok (.aload_n 0, 1) := by decide +kernel
theorem dX10_count_57 : decode cX10_count 57 = .ok (.getfield 7, 3) := by decide +kernel
theorem dX10_count_60 : decode cX10_count 60 = .ok (.iconst 3, 1) := by decide +kernel
theorem dX10_count_61 : decode cX10_count 61 = .ok (.iaload, 1) := by decide +kernel
theorem dX10_count_62 : decode cX10_count 62 = .ok (.ireturn, 1) := by decide +kernel
theorem dX10_count_63 : decode cX10_count 63 = .ok (.aload_n 0, 1) := by decide +kernel
theorem dX10_count_64 : decode cX10_count 64 = .ok (.getfield 7, 3) := by decide +kernel
theorem dX10_count_67 : decode cX10_count 67 = .ok (.iconst 2, 1) := by decide +kernel
theorem dX10_count_68 : decode cX10_count 68 = .ok (.iaload, 1) := by decide +kernel
theorem dX10_count_69 : decode cX10_count 69 = .ok (.ireturn, 1) := by decide +kernel
theorem dX10_count_70 : decode cX10_count 70 = .ok (.aload_n 0, 1) := by decide +kernel
theorem dX10_count_71 : decode cX10_count 71 = .ok (.getfield 7, 3) := by decide +kernel
theorem dX10_count_74 : decode cX10_count 74 = .ok (.iconst 0, 1) := by decide +kernel
theorem dX10_count_75 : decode cX10_count 75 = .ok (.iaload, 1) := by decide +kernel
theorem dX10_count_76 : decode cX10_count 76 = .ok (.ireturn, 1) := by decide +kernel
theorem dX10_count_77 : decode cX10_count 77 = .ok (.aload_n 0, 1) := by decide +kernel
theorem dX10_count_78 : decode cX10_count 78 = .ok (.invokevirtual 253, 3) := by decide +kernel
theorem dX10_count_81 : decode cX10_count 81 = .ok (.ireturn, 1) := by decide +kernel
theorem dX10_count_82 : decode cX10_count 82 = .ok (.aload_n 0, 1) := by decide +kernel
theorem dX10_count_83 : decode cX10_count 83 = .ok (.invokevirtual 195, 3) := by decide +kernel
theorem dX10_count_86 : decode cX10_count 86 = .ok (.ireturn, 1) := by decide +kernel
theorem dX10_count_87 : decode cX10_count 87 = .ok (.aload_n 0, 1) := by decide +kernel
theorem dX10_count_88 : decode cX10_count 88 = .ok (.invokevirtual 256, 3) := by decide +kernel
theorem dX10_count_91 : decode cX10_count 91 = .ok (.ireturn, 1) := by decide +kernel
theorem dX10_count_92 : decode cX10_count 92 = .ok (.aload_n 0, 1) := by decide +kernel
theorem dX10_count_93 : decode cX10_count 93 = .ok (.getfield 7, 3) := by decide +kernel
theorem dX10_count_96 : decode cX10_count 96 = .ok (.iconst 4, 1) := by decide +kernel
theorem dX10_count_97 : decode cX10_count 97 = .ok (.iaload, 1) := by decide +kernel
theorem dX10_count_98 : decode cX10_count 98 = .ok (.ireturn, 1) := by decide +kernel
theorem dX10_count_99 : decode cX10_count 99 = .ok (.aload_n 0, 1) := by decide +kernel
theorem dX10_count_100 : decode cX10_count 100 = .ok (.getfield 7, 3) := by decide +kernel
theorem dX10_count_103 : decode cX10_count 103 = .ok (.iconst 5, 1) := by decide +kernel
theorem dX10_count_104 : decode cX10_count 104 = .ok (.iaload, 1) := by decide +kernel
theorem dX10_count_105 : decode cX10_count 105 = .ok (.ireturn, 1) := by decide +kernel
theorem dX10_count_106 : decode cX10_count 106 = .ok (.aload_n 0, 1) := by decide +kernel
theorem dX10_count_107 : decode cX10_count 107 = .ok (.getfield 217, 3) := by decide +kernel
theorem dX10_count_110 : decode cX10_count 110 = .ok (.ireturn, 1) := by decide +kernel
theorem dX10_count_111 : decode cX10_count 111 = .ok (.aload_n 0, 1) := by decide +kernel
theorem dX10_count_112 : decode cX10_count 112 = .ok (.getfield 7, 3) := by decide +kernel
theorem dX10_count_115 : decode cX10_count 115 = .ok (.iconst 1, 1) := by decide +kernel
theorem dX10_count_116 : decode cX10_count 116 = .ok (.iaload, 1) := by decide +kernel
theorem dX10_count_117 : decode cX10_count 117 = .ok (.ireturn, 1) := by decide +kernel
theorem dX10_count_118 : decode cX10_count 118 = .ok (.aload_n 0, 1) := by decide +kernel
theorem dX10_count_119 : decode cX10_count 119 = .ok (.ldc 62, 2) := by decide +kernel
theorem dX10_count_121 : decode cX10_count 121 = .ok (.invokevirtual 63, 3) := by decide +kernel
theorem dX10_count_124 : decode cX10_count 124 = .ok (.ireturn, 1) := by decide +kernel
theorem dX10_told_0 : decode cX10_told 0 = .ok (.iload_n 1, 1) := by decide +kernel
theorem dX10_told_1 : decode cX10_told 1 = .ok (.iconst 1, 1) := by decide +kernel
theorem dX10_told_2 : decode cX10_told 2 = .ok (.iconst 5, 1) := by decide +kernel
theorem dX10_told_3 : decode cX10_told 3 = .ok (.invokestatic 50, 3) := by decide +kernel
theorem dX10_told_6 : decode cX10_told 6 = .ok (.ifCond .eq 12, 3) := by decide +kernel
theorem dX10_told_9 : decode cX10_told 9 = .ok (.aload_n 0, 1) := by decide +kernel
theorem dX10_told_10 : decode cX10_told 10 = .ok (.getfield 19, 3) := by decide +kernel
theorem dX10_told_13 : decode cX10_told 13 = .ok (.iload_n 1, 1) := by decide +kernel
theorem dX10_told_14 : decode cX10_told 14 = .ok (.iaload, 1) := by decide +kernel
theorem dX10_told_15 : decode cX10_told 15 = .ok (.goto 9, 3) := by decide +kernel
theorem dX10_told_18 : decode cX10_told 18 = .ok (.aload_n 0, 1) := by decide +kernel
theorem dX10_told_19 : decode cX10_told 19 = .ok (.ldc 62, 2) := by decide +kernel
theorem dX10_told_21 : decode cX10_told 21 = .ok (.invokevirtual 63, 3) := by decide +kernel
theorem dX10_told_24 : decode cX10_told 24 = .ok (.ireturn, 1) := by decide +kernel
