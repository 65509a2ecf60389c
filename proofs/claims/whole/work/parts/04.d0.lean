theorem dX0_init_0 : decode cX0_init 0 = .ok (.aload_n 0, 1) := by decide +kernel
theorem dX0_init_1 : decode cX0_init 1 = .ok (.invokespecial 3, 3) := by decide +kernel
theorem dX0_init_4 : decode cX0_init 4 = .ok (.aload_n 0, 1) := by decide +kernel
theorem dX0_init_5 : decode cX0_init 5 = .ok (.new 9, 3) := by decide +kernel
theorem dX0_init_8 : decode cX0_init 8 = .ok (.dup, 1) := by decide +kernel
theorem dX0_init_9 : decode cX0_init 9 = .ok (.bipush 50, 2) := by decide +kernel
theorem dX0_init_11 : decode cX0_init 11 = .ok (.invokespecial 11, 3) := by decide +kernel
theorem dX0_init_14 : decode cX0_init 14 = .ok (.putfield 14, 3) := by decide +kernel
theorem dX0_init_17 : decode cX0_init 17 = .ok (.aload_n 0, 1) := by decide +kernel
theorem dX0_init_18 : decode cX0_init 18 = .ok (.new 9, 3) := by decide +kernel
theorem dX0_init_21 : decode cX0_init 21 = .ok (.dup, 1) := by decide +kernel
theorem dX0_init_22 : decode cX0_init 22 = .ok (.bipush 50, 2) := by decide +kernel
theorem dX0_init_24 : decode cX0_init 24 = .ok (.invokespecial 11, 3) := by decide +kernel
theorem dX0_init_27 : decode cX0_init 27 = .ok (.putfield 20, 3) := by decide +kernel
theorem dX0_init_30 : decode cX0_init 30 = .ok (.aload_n 0, 1) := by decide +kernel
theorem dX0_init_31 : decode cX0_init 31 = .ok (.iload_n 1, 1) := by decide +kernel
theorem dX0_init_32 : decode cX0_init 32 = .ok (.putfield 23, 3) := by decide +kernel
theorem dX0_init_35 : decode cX0_init 35 = .ok (.return_, 1) := by decide +kernel
theorem dX0_gives_0 : decode cX0_gives 0 = .ok (.aload_n 0, 1) := by decide +kernel
theorem dX0_gives_1 : decode cX0_gives 1 = .ok (.getfield 14, 3) := by decide +kernel
theorem dX0_gives_4 : decode cX0_gives 4 = .ok (.getfield 27, 3) := by decide +kernel
theorem dX0_gives_7 : decode cX0_gives 7 = .ok (.ifCond .ne 5, 3) := by decide +kernel
theorem dX0_gives_10 : decode cX0_gives 10 = .ok (.iconst 1, 1) := by decide +kernel
theorem dX0_gives_11 : decode cX0_gives 11 = .ok (.ireturn, 1) := by decide +kernel
theorem dX0_gives_12 : decode cX0_gives 12 = .ok (.iconst 0, 1) := by decide +kernel
theorem dX0_gives_13 : decode cX0_gives 13 = .ok (.aload_n 0, 1) := by decide +kernel
theorem dX0_gives_14 : decode cX0_gives 14 = .ok (.getfield 23, 3) := by decide +kernel
theorem dX0_gives_17 : decode cX0_gives 17 = .ok (.aload_n 0, 1) := by decide +kernel
theorem dX0_gives_18 : decode cX0_gives 18 = .ok (.iload_n 1, 1) := by decide +kernel
theorem dX0_gives_19 : decode cX0_gives 19 = .ok (.iload_n 2, 1) := by decide +kernel
theorem dX0_gives_20 : decode cX0_gives 20 = .ok (.iload_n 3, 1) := by decide +kernel
theorem dX0_gives_21 : decode cX0_gives 21 = .ok (.invokevirtual 30, 3) := by decide +kernel
theorem dX0_gives_24 : decode cX0_gives 24 = .ok (.invokestatic 34, 3) := by decide +kernel
theorem dX0_gives_27 : decode cX0_gives 27 = .ok (.invokestatic 40, 3) := by decide +kernel
theorem dX0_gives_30 : decode cX0_gives 30 = .ok (.ireturn, 1) := by decide +kernel
theorem dX0_workOut_0 : decode cX0_workOut 0 = .ok (.aload_n 0, 1) := by decide +kernel
theorem dX0_workOut_1 : decode cX0_workOut 1 = .ok (.getfield 20, 3) := by decide +kernel
theorem dX0_workOut_4 : decode cX0_workOut 4 = .ok (.invokevirtual 43, 3) := by decide +kernel
theorem dX0_workOut_7 : decode cX0_workOut 7 = .ok (.iconst 0, 1) := by decide +kernel
theorem dX0_workOut_8 : decode cX0_workOut 8 = .ok (.istore 4, 2) := by decide +kernel
theorem dX0_workOut_10 : decode cX0_workOut 10 = .ok (.iload 4, 2) := by decide +kernel
theorem dX0_workOut_12 : decode cX0_workOut 12 = .ok (.aload_n 0, 1) := by decide +kernel
theorem dX0_workOut_13 : decode cX0_workOut 13 = .ok (.getfield 14, 3) := by decide +kernel
theorem dX0_workOut_16 : decode cX0_workOut 16 = .ok (.getfield 27, 3) := by decide +kernel
theorem dX0_workOut_19 : decode cX0_workOut 19 = .ok (.if_icmp .ge 147, 3) := by decide +kernel
theorem dX0_workOut_22 : decode cX0_workOut 22 = .ok (.aload_n 0, 1) := by decide +kernel
theorem dX0_workOut_23 : decode cX0_workOut 23 = .ok (.getfield 14, 3) := by decide +kernel
theorem dX0_workOut_26 : decode cX0_workOut 26 = .ok (.iload 4, 2) := by decide +kernel
theorem dX0_workOut_28 : decode cX0_workOut 28 = .ok (.invokevirtual 46, 3) := by decide +kernel
theorem dX0_workOut_31 : decode cX0_workOut 31 = .ok (.istore 5, 2) := by decide +kernel
theorem dX0_workOut_33 : decode cX0_workOut 33 = .ok (.iload 5, 2) := by decide +kernel
theorem dX0_workOut_35 : decode cX0_workOut 35 = .ok (.ifCond .lt 16, 3) := by decide +kernel
theorem dX0_workOut_38 : decode cX0_workOut 38 = .ok (.aload_n 0, 1) := by decide +kernel
theorem dX0_workOut_39 : decode cX0_workOut 39 = .ok (.getfield 20, 3) := by decide +kernel
theorem dX0_workOut_42 : decode cX0_workOut 42 = .ok (.iload 5, 2) := by decide +kernel
theorem dX0_workOut_44 : decode cX0_workOut 44 = .ok (.invokevirtual 50, 3) := by decide +kernel
theorem dX0_workOut_47 : decode cX0_workOut 47 = .ok (.pop, 1) := by decide +kernel
theorem dX0_workOut_48 : decode cX0_workOut 48 = .ok (.goto 112, 3) := by decide +kernel
theorem dX0_workOut_51 : decode cX0_workOut 51 = .ok (.iload 5, 2) := by decide +kernel
theorem dX0_workOut_53 : decode cX0_workOut 53 = .ok (.bipush (-3), 2) := by decide +kernel
theorem dX0_workOut_55 : decode cX0_workOut 55 = .ok (.if_icmp .lt 36, 3) := by decide +kernel
theorem dX0_workOut_58 : decode cX0_workOut 58 = .ok (.aload_n 0, 1) := by decide +kernel
theorem dX0_workOut_59 : decode cX0_workOut 59 = .ok (.getfield 20, 3) := by decide +kernel
theorem dX0_workOut_62 : decode cX0_workOut 62 = .ok (.iload 5, 2) := by decide +kernel
theorem dX0_workOut_64 : decode cX0_workOut 64 = .ok (.iconst (-1), 1) := by decide +kernel
theorem dX0_workOut_65 : decode cX0_workOut 65 = .ok (.if_icmp .ne 7, 3) := by decide +kernel
theorem dX0_workOut_68 : decode cX0_workOut 68 = .ok (.iload_n 1, 1) := by decide +kernel
theorem dX0_workOut_69 : decode cX0_workOut 69 = .ok (.goto 15, 3) := by decide +kernel
theorem dX0_workOut_72 : decode cX0_workOut 72 = .ok (.iload 5, 2) := by decide +kernel
theorem dX0_workOut_74 : decode cX0_workOut 74 = .ok (.bipush (-2), 2) := by decide +kernel
theorem dX0_workOut_76 : decode cX0_workOut 76 = .ok (.if_icmp .ne 7, 3) := by decide +kernel
theorem dX0_workOut_79 : decode cX0_workOut 79 = .ok (.iload_n 2, 1) := by decide +kernel
theorem dX0_workOut_80 : decode cX0_workOut 80 = .ok (.goto 4, 3) := by decide +kernel
theorem dX0_workOut_83 : decode cX0_workOut 83 = .ok (.iload_n 3, 1) := by decide +kernel
theorem dX0_workOut_84 : decode cX0_workOut 84 = .ok (.invokevirtual 50, 3) := by decide +kernel
theorem dX0_workOut_87 : decode cX0_workOut 87 = .ok (.pop, 1) := by decide +kernel
theorem dX0_workOut_88 : decode cX0_workOut 88 = .ok (.goto 72, 3) := by decide +kernel
theorem dX0_workOut_91 : decode cX0_workOut 91 = .ok (.iload 5, 2) := by decide +kernel
theorem dX0_workOut_93 : decode cX0_workOut 93 = .ok (.bipush (-33), 2) := by decide +kernel
theorem dX0_workOut_95 : decode cX0_workOut 95 = .ok (.if_icmp .ne 29, 3) := by decide +kernel
theorem dX0_workOut_98 : decode cX0_workOut 98 = .ok (.aload_n 0, 1) := by decide +kernel
theorem dX0_workOut_99 : decode cX0_workOut 99 = .ok (.getfield 20, 3) := by decide +kernel
theorem dX0_workOut_102 : decode cX0_workOut 102 = .ok (.aload_n 0, 1) := by decide +kernel
theorem dX0_workOut_103 : decode cX0_workOut 103 = .ok (.getfield 20, 3) := by decide +kernel
theorem dX0_workOut_106 : decode cX0_workOut 106 = .ok (.invokevirtual 54, 3) := by decide +kernel
theorem dX0_workOut_109 : decode cX0_workOut 109 = .ok (.ifCond .ne 7, 3) := by decide +kernel
theorem dX0_workOut_112 : decode cX0_workOut 112 = .ok (.iconst 1, 1) := by decide +kernel
theorem dX0_workOut_113 : decode cX0_workOut 113 = .ok (.goto 4, 3) := by decide +kernel
theorem dX0_workOut_116 : decode cX0_workOut 116 = .ok (.iconst 0, 1) := by decide +kernel
theorem dX0_workOut_117 : decode cX0_workOut 117 = .ok (.invokevirtual 50, 3) := by decide +kernel
theorem dX0_workOut_120 : decode cX0_workOut 120 = .ok (.pop, 1) := by decide +kernel
theorem dX0_workOut_121 : decode cX0_workOut 121 = .ok (.goto 39, 3) := by decide +kernel
theorem dX0_workOut_124 : decode cX0_workOut 124 = .ok (.aload_n 0, 1) := by decide +kernel
theorem dX0_workOut_125 : decode cX0_workOut 125 = .ok (.getfield 20, 3) := by decide +kernel
theorem dX0_workOut_128 : decode cX0_workOut 128 = .ok (.invokevirtual 54, 3) := by decide +kernel
theorem dX0_workOut_131 : decode cX0_workOut 131 = .ok (.istore 6, 2) := by decide +kernel
theorem dX0_workOut_133 : decode cX0_workOut 133 = .ok (.aload_n 0, 1) := by decide +kernel
theorem dX0_workOut_134 : decode cX0_workOut 134 = .ok (.getfield 20, 3) := by decide +kernel
theorem dX0_workOut_137 : decode cX0_workOut 137 = .ok (.invokevirtual 54, 3) := by decide +kernel
theorem dX0_workOut_140 : decode cX0_workOut 140 = .ok (.istore 7, 2) := by decide +kernel
theorem dX0_workOut_142 : decode cX0_workOut 142 = .ok (.aload_n 0, 1) := by decide +kernel
theorem dX0_workOut_143 : decode cX0_workOut 143 = .ok (.getfield 20, 3) := by decide +kernel
theorem dX0_workOut_146 : decode cX0_workOut 146 = .ok (.iload 5, 2) := by decide +kernel
theorem dX0_workOut_148 : decode cX0_workOut 148 = .ok (.ineg, 1) := by decide +kernel
theorem dX0_workOut_149 : decode cX0_workOut 149 = .ok (.iload 7, 2) := by decide +kernel
theorem dX0_workOut_151 : decode cX0_workOut 151 = .ok (.iload 6, 2) := by decide +kernel
theorem dX0_workOut_153 : decode cX0_workOut 153 = .ok (.invokestatic 58, 3) := by decide +kernel
theorem dX0_workOut_156 : decode cX0_workOut 156 = .ok (.invokevirtual 50, 3) := by decide +kernel
theorem dX0_workOut_159 : decode cX0_workOut 159 = .ok (.pop, 1) := by decide +kernel
theorem dX0_workOut_160 : decode cX0_workOut 160 = .ok (.iinc 4 1, 3) := by decide +kernel
theorem dX0_workOut_163 : decode cX0_workOut 163 = .ok (.goto (-153), 3) := by decide +kernel
theorem dX0_workOut_166 : decode cX0_workOut 166 = .ok (.aload_n 0, 1) := by decide +kernel
theorem dX0_workOut_167 : decode cX0_workOut 167 = .ok (.getfield 20, 3) := by decide +kernel
theorem dX0_workOut_170 : decode cX0_workOut 170 = .ok (.invokevirtual 54, 3) := by decide +kernel
theorem dX0_workOut_173 : decode cX0_workOut 173 = .ok (.ireturn, 1) := by decide +kernel
theorem dX0_join_0 : decode cX0_join 0 = .ok (.iload_n 0, 1) := by decide +kernel
theorem dX0_join_1 : decode cX0_join 1 = .ok (.lookupswitch 168 #[(38, 97), (42, 152), (43, 144), (45, 148), (47, 156), (60, 111), (61, 122), (62, 133), (124, 83)], 83) := by decide +kernel
theorem dX0_join_84 : decode cX0_join 84 = .ok (.iload_n 1, 1) := by decide +kernel
theorem dX0_join_85 : decode cX0_join 85 = .ok (.ifCond .ne 7, 3) := by decide +kernel
theorem dX0_join_88 : decode cX0_join 88 = .ok (.iload_n 2, 1) := by decide +kernel
theorem dX0_join_89 : decode cX0_join 89 = .ok (.ifCond .eq 7, 3) := by decide +kernel
theorem dX0_join_92 : decode cX0_join 92 = .ok (.iconst 1, 1) := by decide +kernel
theorem dX0_join_93 : decode cX0_join 93 = .ok (.goto 4, 3) := by decide +kernel
theorem dX0_join_96 : decode cX0_join 96 = .ok (.iconst 0, 1) := by decide +kernel
theorem dX0_join_97 : decode cX0_join 97 = .ok (.ireturn, 1) := by decide +kernel
theorem dX0_join_98 : decode cX0_join 98 = .ok (.iload_n 1, 1) := by decide +kernel
theorem dX0_join_99 : decode cX0_join 99 = .ok (.ifCond .eq 11, 3) := by decide +kernel
theorem dX0_join_102 : decode cX0_join 102 = .ok (.iload_n 2, 1) := by decide +kernel
theorem dX0_join_103 : decode cX0_join 103 = .ok (.ifCond .eq 7, 3) := by decide +kernel
theorem dX0_join_106 : decode cX0_join 106 = .ok (.iconst 1, 1) := by decide +kernel
theorem dX0_join_107 : decode cX0_join 107 = .ok (.goto 4, 3) := by decide +kernel
theorem dX0_join_110 : decode cX0_join 110 = .ok (.iconst 0, 1) := by decide +kernel
theorem dX0_join_111 : decode cX0_join 111 = .ok (.ireturn, 1) := by decide +kernel
theorem dX0_join_112 : decode cX0_join 112 = .ok (.iload_n 1, 1) := by decide +kernel
theorem dX0_join_113 : decode cX0_join 113 = .ok (.iload_n 2, 1) := by decide +kernel
theorem dX0_join_114 : decode cX0_join 114 = .ok (.if_icmp .ge 7, 3) := by decide +kernel
theorem dX0_join_117 : decode cX0_join 117 = .ok (.iconst 1, 1) := by decide +kernel
theorem dX0_join_118 : decode cX0_join 118 = .ok (.goto 4, 3) := by decide +kernel
theorem dX0_join_121 : decode cX0_join 121 = .ok (.iconst 0, 1) := by decide +kernel
theorem dX0_join_122 : decode cX0_join 122 = .ok (.ireturn, 1) := by decide +kernel
theorem dX0_join_123 : decode cX0_join 123 = .ok (.iload_n 1, 1) := by decide +kernel
theorem dX0_join_124 : decode cX0_join 124 = .ok (.iload_n 2, 1) := by decide +kernel
theorem dX0_join_125 : decode cX0_join 125 = .ok (.if_icmp .ne 7, 3) := by decide +kernel
theorem dX0_join_128 : decode cX0_join 128 = .ok (.iconst 1, 1) := by decide +kernel
theorem dX0_join_129 : decode cX0_join 129 = .ok (.goto 4, 3) := by decide +kernel
theorem dX0_join_132 : decode cX0_join 132 = .ok (.iconst 0, 1) := by decide +kernel
theorem dX0_join_133 : decode cX0_join 133 = .ok (.ireturn, 1) := by decide +kernel
theorem dX0_join_134 : decode cX0_join 134 = .ok (.iload_n 1, 1) := by decide +kernel
theorem dX0_join_135 : decode cX0_join 135 = .ok (.iload_n 2, 1) := by decide +kernel
theorem dX0_join_136 : decode cX0_join 136 = .ok (.if_icmp .le 7, 3) := by decide +kernel
theorem dX0_join_139 : decode cX0_join 139 = .ok (.iconst 1, 1) := by decide +kernel
theorem dX0_join_140 : decode cX0_join 140 = .ok (.goto 4, 3) := by decide +kernel
theorem dX0_join_143 : decode cX0_join 143 = .ok (.iconst 0, 1) := by decide +kernel
theorem dX0_join_144 : decode cX0_join 144 = .ok (.ireturn, 1) := by decide +kernel
theorem dX0_join_145 : decode cX0_join 145 = .ok (.iload_n 1, 1) := by decide +kernel
theorem dX0_join_146 : decode cX0_join 146 = .ok (.iload_n 2, 1) := by decide +kernel
theorem dX0_join_147 : decode cX0_join 147 = .ok (.iadd, 1) := by decide +kernel
theorem dX0_join_148 : decode cX0_join 148 = .ok (.ireturn, 1) := by decide +kernel
theorem dX0_join_149 : decode cX0_join 149 = .ok (.iload_n 1, 1) := by decide +kernel
theorem dX0_join_150 : decode cX0_join 150 = .ok (.iload_n 2, 1) := by decide +kernel
theorem dX0_join_151 : decode cX0_join 151 = .ok (.isub, 1) := by decide +kernel
theorem dX0_join_152 : decode cX0_join 152 = .ok (.ireturn, 1) := by decide +kernel
theorem dX0_join_153 : decode cX0_join 153 = .ok (.iload_n 1, 1) := by decide +kernel
theorem dX0_join_154 : decode cX0_join 154 = .ok (.iload_n 2, 1) := by decide +kernel
theorem dX0_join_155 : decode cX0_join 155 = .ok (.imul, 1) := by decide +kernel
theorem dX0_join_156 : decode cX0_join 156 = .ok (.ireturn, 1) := by decide +kernel
theorem dX0_join_157 : decode cX0_join 157 = .ok (.iload_n 2, 1) := by decide +kernel
theorem dX0_join_158 : decode cX0_join 158 = .ok (.ifCond .ne 7, 3) := by decide +kernel
theorem dX0_join_161 : decode cX0_join 161 = .ok (.iconst 0, 1) := by decide +kernel
theorem dX0_join_162 : decode cX0_join 162 = .ok (.goto 6, 3) := by decide +kernel
theorem dX0_join_165 : decode cX0_join 165 = .ok (.iload_n 1, 1) := by decide +kernel
theorem dX0_join_166 : decode cX0_join 166 = .ok (.iload_n 2, 1) := by decide +kernel
theorem dX0_join_167 : decode cX0_join 167 = .ok (.idiv, 1) := by decide +kernel
theorem dX0_join_168 : decode cX0_join 168 = .ok (.ireturn, 1) := by decide +kernel
theorem dX0_join_169 : decode cX0_join 169 = .ok (.iload_n 2, 1) := by decide +kernel
theorem dX0_join_170 : decode cX0_join 170 = .ok (.ifCond .ne 7, 3) := by decide +kernel
theorem dX0_join_173 : decode cX0_join 173 = .ok (.iconst 0, 1) := by decide +kernel
theorem dX0_join_174 : decode cX0_join 174 = .ok (.goto 6, 3) := by decide +kernel
theorem dX0_join_177 : decode cX0_join 177 = .ok (.iload_n 1, 1) := by decide +kernel
theorem dX0_join_178 : decode cX0_join 178 = .ok (.iload_n 2, 1) := by decide +kernel
theorem dX0_join_179 : decode cX0_join 179 = .ok (.irem, 1) := by decide +kernel
theorem dX0_join_180 : decode cX0_join 180 = .ok (.ireturn, 1) := by decide +kernel
theorem dX1_init_0 : decode cX1_init 0 = .ok (.aload_n 0, 1) := by decide +kernel
theorem dX1_init_1 : decode cX1_init 1 = .ok (.invokespecial 3, 3) := by decide +kernel
theorem dX1_init_4 : decode cX1_init 4 = .ok (.aload_n 0, 1) := by decide +kernel
theorem dX1_init_5 : decode cX1_init 5 = .ok (.new 9, 3) := by decide +kernel
theorem dX1_init_8 : decode cX1_init 8 = .ok (.dup, 1) := by decide +kernel
theorem dX1_init_9 : decode cX1_init 9 = .ok (.bipush 99, 2) := by decide +kernel
theorem dX1_init_11 : decode cX1_init 11 = .ok (.invokespecial 11, 3) := by decide +kernel
theorem dX1_init_14 : decode cX1_init 14 = .ok (.putfield 14, 3) := by decide +kernel
theorem dX1_init_17 : decode cX1_init 17 = .ok (.aload_n 0, 1) := by decide +kernel
theorem dX1_init_18 : decode cX1_init 18 = .ok (.new 9, 3) := by decide +kernel
theorem dX1_init_21 : decode cX1_init 21 = .ok (.dup, 1) := by decide +kernel
theorem dX1_init_22 : decode cX1_init 22 = .ok (.iconst 1, 1) := by decide +kernel
theorem dX1_init_23 : decode cX1_init 23 = .ok (.invokespecial 11, 3) := by decide +kernel
theorem dX1_init_26 : decode cX1_init 26 = .ok (.putfield 20, 3) := by decide +kernel
theorem dX1_init_29 : decode cX1_init 29 = .ok (.aload_n 0, 1) := by decide +kernel
theorem dX1_init_30 : decode cX1_init 30 = .ok (.bipush 10, 2) := by decide +kernel
theorem dX1_init_32 : decode cX1_init 32 = .ok (.newarray .int, 2) := by decide +kernel
theorem dX1_init_34 : decode cX1_init 34 = .ok (.putfield 23, 3) := by decide +kernel
theorem dX1_init_37 : decode cX1_init 37 = .ok (.aload_n 0, 1) := by decide +kernel
theorem dX1_init_38 : decode cX1_init 38 = .ok (.bipush 6, 2) := by decide +kernel
theorem dX1_init_40 : decode cX1_init 40 = .ok (.anewarray 27, 3) := by decide +kernel
theorem dX1_init_43 : decode cX1_init 43 = .ok (.putfield 29, 3) := by decide +kernel
theorem dX1_init_46 : decode cX1_init 46 = .ok (.aload_n 0, 1) := by decide +kernel
theorem dX1_init_47 : decode cX1_init 47 = .ok (.bipush 7, 2) := by decide +kernel
theorem dX1_init_49 : decode cX1_init 49 = .ok (.anewarray 33, 3) := by decide +kernel
theorem dX1_init_52 : decode cX1_init 52 = .ok (.putfield 35, 3) := by decide +kernel
theorem dX1_init_55 : decode cX1_init 55 = .ok (.aload_n 0, 1) := by decide +kernel
theorem dX1_init_56 : decode cX1_init 56 = .ok (.new 39, 3) := by decide +kernel
theorem dX1_init_59 : decode cX1_init 59 = .ok (.dup, 1) := by decide +kernel
theorem dX1_init_60 : decode cX1_init 60 = .ok (.bipush 7, 2) := by decide +kernel
theorem dX1_init_62 : decode cX1_init 62 = .ok (.invokespecial 41, 3) := by decide +kernel
theorem dX1_init_65 : decode cX1_init 65 = .ok (.putfield 42, 3) := by decide +kernel
theorem dX1_init_68 : decode cX1_init 68 = .ok (.iconst 0, 1) := by decide +kernel
theorem dX1_init_69 : decode cX1_init 69 = .ok (.istore_n 1, 1) := by decide +kernel
theorem dX1_init_70 : decode cX1_init 70 = .ok (.iload_n 1, 1) := by decide +kernel
theorem dX1_init_71 : decode cX1_init 71 = .ok (.bipush 6, 2) := by decide +kernel
theorem dX1_init_73 : decode cX1_init 73 = .ok (.if_icmp .ge 22, 3) := by decide +kernel
theorem dX1_init_76 : decode cX1_init 76 = .ok (.aload_n 0, 1) := by decide +kernel
theorem dX1_init_77 : decode cX1_init 77 = .ok (.getfield 29, 3) := by decide +kernel
theorem dX1_init_80 : decode cX1_init 80 = .ok (.iload_n 1, 1) := by decide +kernel
theorem dX1_init_81 : decode cX1_init 81 = .ok (.new 27, 3) := by decide +kernel
theorem dX1_init_84 : decode cX1_init 84 = .ok (.dup, 1) := by decide +kernel
theorem dX1_init_85 : decode cX1_init 85 = .ok (.invokespecial 46, 3) := by decide +kernel
theorem dX1_init_88 : decode cX1_init 88 = .ok (.aastore, 1) := by decide +kernel
theorem dX1_init_89 : decode cX1_init 89 = .ok (.iinc 1 1, 3) := by decide +kernel
theorem dX1_init_92 : decode cX1_init 92 = .ok (.goto (-22), 3) := by decide +kernel
theorem dX1_init_95 : decode cX1_init 95 = .ok (.iconst 0, 1) := by decide +kernel
theorem dX1_init_96 : decode cX1_init 96 = .ok (.istore_n 1, 1) := by decide +kernel
theorem dX1_init_97 : decode cX1_init 97 = .ok (.iload_n 1, 1) := by decide +kernel
theorem dX1_init_98 : decode cX1_init 98 = .ok (.bipush 7, 2) := by decide +kernel
theorem dX1_init_100 : decode cX1_init 100 = .ok (.if_icmp .ge 22, 3) := by decide +kernel
theorem dX1_init_103 : decode cX1_init 103 = .ok (.aload_n 0, 1) := by decide +kernel
theorem dX1_init_104 : decode cX1_init 104 = .ok (.getfield 35, 3) := by decide +kernel
theorem dX1_init_107 : decode cX1_init 107 = .ok (.iload_n 1, 1) := by decide +kernel
theorem dX1_init_108 : decode cX1_init 108 = .ok (.new 33, 3) := by decide +kernel
theorem dX1_init_111 : decode cX1_init 111 = .ok (.dup, 1) := by decide +kernel
theorem dX1_init_112 : decode cX1_init 112 = .ok (.invokespecial 47, 3) := by decide +kernel
theorem dX1_init_115 : decode cX1_init 115 = .ok (.aastore, 1) := by decide +kernel
theorem dX1_init_116 : decode cX1_init 116 = .ok (.iinc 1 1, 3) := by decide +kernel
theorem dX1_init_119 : decode cX1_init 119 = .ok (.goto (-22), 3) := by decide +kernel
theorem dX1_init_122 : decode cX1_init 122 = .ok (.return_, 1) := by decide +kernel
theorem dX1_lawOf_0 : decode cX1_lawOf 0 = .ok (.iload_n 1, 1) := by decide +kernel
theorem dX1_lawOf_1 : decode cX1_lawOf 1 = .ok (.ifCond .ne 10, 3) := by decide +kernel
theorem dX1_lawOf_4 : decode cX1_lawOf 4 = .ok (.aload_n 0, 1) := by decide +kernel
theorem dX1_lawOf_5 : decode cX1_lawOf 5 = .ok (.getfield 14, 3) := by decide +kernel
theorem dX1_lawOf_8 : decode cX1_lawOf 8 = .ok (.goto 7, 3) := by decide +kernel
theorem dX1_lawOf_11 : decode cX1_lawOf 11 = .ok (.aload_n 0, 1) := by decide +kernel
theorem dX1_lawOf_12 : decode cX1_lawOf 12 = .ok (.getfield 20, 3) := by decide +kernel
theorem dX1_lawOf_15 : decode cX1_lawOf 15 = .ok (.areturn, 1) := by decide +kernel
theorem dX1_copyFrom_0 : decode cX1_copyFrom 0 = .ok (.aload_n 0, 1) := by decide +kernel
theorem dX1_copyFrom_1 : decode cX1_copyFrom 1 = .ok (.getfield 14, 3) := by decide +kernel
theorem dX1_copyFrom_4 : decode cX1_copyFrom 4 = .ok (.getfield 48, 3) := by decide +kernel
theorem dX1_copyFrom_7 : decode cX1_copyFrom 7 = .ok (.aload_n 1, 1) := by decide +kernel
theorem dX1_copyFrom_8 : decode cX1_copyFrom 8 = .ok (.getfield 14, 3) := by decide +kernel
theorem dX1_copyFrom_11 : decode cX1_copyFrom 11 = .ok (.getfield 48, 3) := by decide +kernel
theorem dX1_copyFrom_14 : decode cX1_copyFrom 14 = .ok (.invokevirtual 51, 3) := by decide +kernel
theorem dX1_copyFrom_17 : decode cX1_copyFrom 17 = .ok (.aload_n 0, 1) := by decide +kernel
theorem dX1_copyFrom_18 : decode cX1_copyFrom 18 = .ok (.getfield 20, 3) := by decide +kernel
theorem dX1_copyFrom_21 : decode cX1_copyFrom 21 = .ok (.getfield 48, 3) := by decide +kernel
theorem dX1_copyFrom_24 : decode cX1_copyFrom 24 = .ok (.aload_n 1, 1) := by decide +kernel
theorem dX1_copyFrom_25 : decode cX1_copyFrom 25 = .ok (.getfield 20, 3) := by decide +kernel
theorem dX1_copyFrom_28 : decode cX1_copyFrom 28 = .ok (.getfield 48, 3) := by decide +kernel
theorem dX1_copyFrom_31 : decode cX1_copyFrom 31 = .ok (.invokevirtual 51, 3) := by decide +kernel
theorem dX1_copyFrom_34 : decode cX1_copyFrom 34 = .ok (.iconst 0, 1) := by decide +kernel
theorem dX1_copyFrom_35 : decode cX1_copyFrom 35 = .ok (.istore_n 2, 1) := by decide +kernel
theorem dX1_copyFrom_36 : decode cX1_copyFrom 36 = .ok (.iload_n 2, 1) := by decide +kernel
theorem dX1_copyFrom_37 : decode cX1_copyFrom 37 = .ok (.bipush 10, 2) := by decide +kernel
theorem dX1_copyFrom_39 : decode cX1_copyFrom 39 = .ok (.if_icmp .ge 21, 3) := by decide +kernel
theorem dX1_copyFrom_42 : decode cX1_copyFrom 42 = .ok (.aload_n 0, 1) := by decide +kernel
theorem dX1_copyFrom_43 : decode cX1_copyFrom 43 = .ok (.getfield 23, 3) := by decide +kernel
theorem dX1_copyFrom_46 : decode cX1_copyFrom 46 = .ok (.iload_n 2, 1) := by decide +kernel
theorem dX1_copyFrom_47 : decode cX1_copyFrom 47 = .ok (.aload_n 1, 1) := by decide +kernel
theorem dX1_copyFrom_48 : decode cX1_copyFrom 48 = .ok (.getfield 23, 3) := by decide +kernel
theorem dX1_copyFrom_51 : decode cX1_copyFrom 51 = .ok (.iload_n 2, 1) := by decide +kernel
theorem dX1_copyFrom_52 : decode cX1_copyFrom 52 = .ok (.iaload, 1) := by decide +kernel
theorem dX1_copyFrom_53 : decode cX1_copyFrom 53 = .ok (.iastore, 1) := by decide +kernel
theorem dX1_copyFrom_54 : decode cX1_copyFrom 54 = .ok (.iinc 2 1, 3) := by decide +kernel
theorem dX1_copyFrom_57 : decode cX1_copyFrom 57 = .ok (.goto (-21), 3) := by decide +kernel
theorem dX1_copyFrom_60 : decode cX1_copyFrom 60 = .ok (.aload_n 0, 1) := by decide +kernel
theorem dX1_copyFrom_61 : decode cX1_copyFrom 61 = .ok (.aload_n 1, 1) := by decide +kernel
theorem dX1_copyFrom_62 : decode cX1_copyFrom 62 = .ok (.getfield 55, 3) := by decide +kernel
theorem dX1_copyFrom_65 : decode cX1_copyFrom 65 = .ok (.bipush 6, 2) := by decide +kernel
theorem dX1_copyFrom_67 : decode cX1_copyFrom 67 = .ok (.invokestatic 59, 3) := by decide +kernel
theorem dX1_copyFrom_70 : decode cX1_copyFrom 70 = .ok (.putfield 55, 3) := by decide +kernel
theorem dX1_copyFrom_73 : decode cX1_copyFrom 73 = .ok (.iconst 0, 1) := by decide +kernel
theorem dX1_copyFrom_74 : decode cX1_copyFrom 74 = .ok (.istore_n 2, 1) := by decide +kernel
theorem dX1_copyFrom_75 : decode cX1_copyFrom 75 = .ok (.iload_n 2, 1) := by decide +kernel
theorem dX1_copyFrom_76 : decode cX1_copyFrom 76 = .ok (.aload_n 0, 1) := by decide +kernel
theorem dX1_copyFrom_77 : decode cX1_copyFrom 77 = .ok (.getfield 55, 3) := by decide +kernel
theorem dX1_copyFrom_80 : decode cX1_copyFrom 80 = .ok (.if_icmp .ge 24, 3) := by decide +kernel
theorem dX1_copyFrom_83 : decode cX1_copyFrom 83 = .ok (.aload_n 0, 1) := by decide +kernel
theorem dX1_copyFrom_84 : decode cX1_copyFrom 84 = .ok (.getfield 29, 3) := by decide +kernel
theorem dX1_copyFrom_87 : decode cX1_copyFrom 87 = .ok (.iload_n 2, 1) := by decide +kernel
theorem dX1_copyFrom_88 : decode cX1_copyFrom 88 = .ok (.aaload, 1) := by decide +kernel
theorem dX1_copyFrom_89 : decode cX1_copyFrom 89 = .ok (.aload_n 1, 1) := by decide +kernel
theorem dX1_copyFrom_90 : decode cX1_copyFrom 90 = .ok (.getfield 29, 3) := by decide +kernel
theorem dX1_copyFrom_93 : decode cX1_copyFrom 93 = .ok (.iload_n 2, 1) := by decide +kernel
theorem dX1_copyFrom_94 : decode cX1_copyFrom 94 = .ok (.aaload, 1) := by decide +kernel
theorem dX1_copyFrom_95 : decode cX1_copyFrom 95 = .ok (.invokevirtual 65, 3) := by decide +kernel
theorem dX1_copyFrom_98 : decode cX1_copyFrom 98 = .ok (.iinc 2 1, 3) := by decide +kernel
theorem dX1_copyFrom_101 : decode cX1_copyFrom 101 = .ok (.goto (-26), 3) := by decide +kernel
theorem dX1_copyFrom_104 : decode cX1_copyFrom 104 = .ok (.aload_n 0, 1) := by decide +kernel
theorem dX1_copyFrom_105 : decode cX1_copyFrom 105 = .ok (.aload_n 1, 1) := by decide +kernel
theorem dX1_copyFrom_106 : decode cX1_copyFrom 106 = .ok (.getfield 68, 3) := by decide +kernel
theorem dX1_copyFrom_109 : decode cX1_copyFrom 109 = .ok (.bipush 7, 2) := by decide +kernel
theorem dX1_copyFrom_111 : decode cX1_copyFrom 111 = .ok (.invokestatic 59, 3) := by decide +kernel
theorem dX1_copyFrom_114 : decode cX1_copyFrom 114 = .ok (.putfield 68, 3) := by decide +kernel
theorem dX1_copyFrom_117 : decode cX1_copyFrom 117 = .ok (.iconst 0, 1) := by decide +kernel
theorem dX1_copyFrom_118 : decode cX1_copyFrom 118 = .ok (.istore_n 2, 1) := by decide +kernel
theorem dX1_copyFrom_119 : decode cX1_copyFrom 119 = .ok (.iload_n 2, 1) := by decide +kernel
theorem dX1_copyFrom_120 : decode cX1_copyFrom 120 = .ok (.aload_n 0, 1) := by decide +kernel
theorem dX1_copyFrom_121 : decode cX1_copyFrom 121 = .ok (.getfield 68, 3) := by decide +kernel
theorem dX1_copyFrom_124 : decode cX1_copyFrom 124 = .ok (.if_icmp .ge 24, 3) := by decide +kernel
theorem dX1_copyFrom_127 : decode cX1_copyFrom 127 = .ok (.aload_n 0, 1) := by decide +kernel
theorem dX1_copyFrom_128 : decode cX1_copyFrom 128 = .ok (.getfield 35, 3) := by decide +kernel
theorem dX1_copyFrom_131 : decode cX1_copyFrom 131 = .ok (.iload_n 2, 1) := by decide +kernel
theorem dX1_copyFrom_132 : decode cX1_copyFrom 132 = .ok (.aaload, 1) := by decide +kernel
theorem dX1_copyFrom_133 : decode cX1_copyFrom 133 = .ok (.aload_n 1, 1) := by decide +kernel
theorem dX1_copyFrom_134 : decode cX1_copyFrom 134 = .ok (.getfield 35, 3) := by decide +kernel
theorem dX1_copyFrom_137 : decode cX1_copyFrom 137 = .ok (.iload_n 2, 1) := by decide +kernel
theorem dX1_copyFrom_138 : decode cX1_copyFrom 138 = .ok (.aaload, 1) := by decide +kernel
theorem dX1_copyFrom_139 : decode cX1_copyFrom 139 = .ok (.invokevirtual 71, 3) := by decide +kernel
theorem dX1_copyFrom_142 : decode cX1_copyFrom 142 = .ok (.iinc 2 1, 3) := by decide +kernel
theorem dX1_copyFrom_145 : decode cX1_copyFrom 145 = .ok (.goto (-26), 3) := by decide +kernel
theorem dX1_copyFrom_148 : decode cX1_copyFrom 148 = .ok (.aload_n 0, 1) := by decide +kernel
theorem dX1_copyFrom_149 : decode cX1_copyFrom 149 = .ok (.aload_n 1, 1) := by decide +kernel
theorem dX1_copyFrom_150 : decode cX1_copyFrom 150 = .ok (.getfield 74, 3) := by decide +kernel
theorem dX1_copyFrom_153 : decode cX1_copyFrom 153 = .ok (.putfield 74, 3) := by decide +kernel
theorem dX1_copyFrom_156 : decode cX1_copyFrom 156 = .ok (.return_, 1) := by decide +kernel
theorem dX1_snowAt_0 : decode cX1_snowAt 0 = .ok (.iload_n 1, 1) := by decide +kernel
theorem dX1_snowAt_1 : decode cX1_snowAt 1 = .ok (.invokestatic 77, 3) := by decide +kernel
theorem dX1_snowAt_4 : decode cX1_snowAt 4 = .ok (.ifCond .eq 12, 3) := by decide +kernel
theorem dX1_snowAt_7 : decode cX1_snowAt 7 = .ok (.aload_n 0, 1) := by decide +kernel
theorem dX1_snowAt_8 : decode cX1_snowAt 8 = .ok (.getfield 23, 3) := by decide +kernel
theorem dX1_snowAt_11 : decode cX1_snowAt 11 = .ok (.iload_n 1, 1) := by decide +kernel
theorem dX1_snowAt_12 : decode cX1_snowAt 12 = .ok (.iaload, 1) := by decide +kernel
theorem dX1_snowAt_13 : decode cX1_snowAt 13 = .ok (.goto 4, 3) := by decide +kernel
theorem dX1_snowAt_16 : decode cX1_snowAt 16 = .ok (.iconst 0, 1) := by decide +kernel
theorem dX1_snowAt_17 : decode cX1_snowAt 17 = .ok (.ireturn, 1) := by decide +kernel
theorem dX1_dropSnow_0 : decode cX1_dropSnow 0 = .ok (.iload_n 1, 1) := by decide +kernel
theorem dX1_dropSnow_1 : decode cX1_dropSnow 1 = .ok (.invokestatic 77, 3) := by decide +kernel
theorem dX1_dropSnow_4 : decode cX1_dropSnow 4 = .ok (.ifCond .eq 27, 3) := by decide +kernel
theorem dX1_dropSnow_7 : decode cX1_dropSnow 7 = .ok (.aload_n 0, 1) := by decide +kernel
theorem dX1_dropSnow_8 : decode cX1_dropSnow 8 = .ok (.getfield 23, 3) := by decide +kernel
theorem dX1_dropSnow_11 : decode cX1_dropSnow 11 = .ok (.iload_n 1, 1) := by decide +kernel
theorem dX1_dropSnow_12 : decode cX1_dropSnow 12 = .ok (.iconst 0, 1) := by decide +kernel
theorem dX1_dropSnow_13 : decode cX1_dropSnow 13 = .ok (.sipush 999, 3) := by decide +kernel
theorem dX1_dropSnow_16 : decode cX1_dropSnow 16 = .ok (.aload_n 0, 1) := by decide +kernel
theorem dX1_dropSnow_17 : decode cX1_dropSnow 17 = .ok (.getfield 23, 3) := by decide +kernel
theorem dX1_dropSnow_20 : decode cX1_dropSnow 20 = .ok (.iload_n 1, 1) := by decide +kernel
theorem dX1_dropSnow_21 : decode cX1_dropSnow 21 = .ok (.iaload, 1) := by decide +kernel
theorem dX1_dropSnow_22 : decode cX1_dropSnow 22 = .ok (.iload_n 2, 1) := by decide +kernel
theorem dX1_dropSnow_23 : decode cX1_dropSnow 23 = .ok (.iadd, 1) := by decide +kernel
theorem dX1_dropSnow_24 : decode cX1_dropSnow 24 = .ok (.invokestatic 59, 3) := by decide +kernel
theorem dX1_dropSnow_27 : decode cX1_dropSnow 27 = .ok (.invokestatic 81, 3) := by decide +kernel
theorem dX1_dropSnow_30 : decode cX1_dropSnow 30 = .ok (.iastore, 1) := by decide +kernel
theorem dX1_dropSnow_31 : decode cX1_dropSnow 31 = .ok (.return_, 1) := by decide +kernel
theorem dX1_snowInAll_0 : decode cX1_snowInAll 0 = .ok (.iconst 0, 1) := by decide +kernel
theorem dX1_snowInAll_1 : decode cX1_snowInAll 1 = .ok (.istore_n 1, 1) := by decide +kernel
theorem dX1_snowInAll_2 : decode cX1_snowInAll 2 = .ok (.iconst 0, 1) := by decide +kernel
theorem dX1_snowInAll_3 : decode cX1_snowInAll 3 = .ok (.istore_n 2, 1) := by decide +kernel
theorem dX1_snowInAll_4 : decode cX1_snowInAll 4 = .ok (.iload_n 2, 1) := by decide +kernel
theorem dX1_snowInAll_5 : decode cX1_snowInAll 5 = .ok (.bipush 10, 2) := by decide +kernel
theorem dX1_snowInAll_7 : decode cX1_snowInAll 7 = .ok (.if_icmp .ge 18, 3) := by decide +kernel
theorem dX1_snowInAll_10 : decode cX1_snowInAll 10 = .ok (.iload_n 1, 1) := by decide +kernel
theorem dX1_snowInAll_11 : decode cX1_snowInAll 11 = .ok (.aload_n 0, 1) := by decide +kernel
theorem dX1_snowInAll_12 : decode cX1_snowInAll 12 = .ok (.getfield 23, 3) := by decide +kernel
theorem dX1_snowInAll_15 : decode cX1_snowInAll 15 = .ok (.iload_n 2, 1) := by decide +kernel
theorem dX1_snowInAll_16 : decode cX1_snowInAll 16 = .ok (.iaload, 1) := by decide +kernel
theorem dX1_snowInAll_17 : decode cX1_snowInAll 17 = .ok (.iadd, 1) := by decide +kernel
theorem dX1_snowInAll_18 : decode cX1_snowInAll 18 = .ok (.istore_n 1, 1) := by decide +kernel
theorem dX1_snowInAll_19 : decode cX1_snowInAll 19 = .ok (.iinc 2 1, 3) := by decide +kernel
theorem dX1_snowInAll_22 : decode cX1_snowInAll 22 = .ok (.goto (-18), 3) := by decide +kernel
theorem dX1_snowInAll_25 : decode cX1_snowInAll 25 = .ok (.iload_n 1, 1) := by decide +kernel
theorem dX1_snowInAll_26 : decode cX1_snowInAll 26 = .ok (.ireturn, 1) := by decide +kernel
theorem dX1_hasSnowAs_0 : decode cX1_hasSnowAs 0 = .ok (.iconst 0, 1) := by decide +kernel
theorem dX1_hasSnowAs_1 : decode cX1_hasSnowAs 1 = .ok (.istore_n 2, 1) := by decide +kernel
theorem dX1_hasSnowAs_2 : decode cX1_hasSnowAs 2 = .ok (.iload_n 2, 1) := by decide +kernel
theorem dX1_hasSnowAs_3 : decode cX1_hasSnowAs 3 = .ok (.bipush 10, 2) := by decide +kernel
theorem dX1_hasSnowAs_5 : decode cX1_hasSnowAs 5 = .ok (.if_icmp .ge 33, 3) := by decide +kernel
theorem dX1_hasSnowAs_8 : decode cX1_hasSnowAs 8 = .ok (.aload_n 1, 1) := by decide +kernel
theorem dX1_hasSnowAs_9 : decode cX1_hasSnowAs 9 = .ok (.iload_n 2, 1) := by decide +kernel
theorem dX1_hasSnowAs_10 : decode cX1_hasSnowAs 10 = .ok (.invokevirtual 84, 3) := by decide +kernel
theorem dX1_hasSnowAs_13 : decode cX1_hasSnowAs 13 = .ok (.ifCond .eq 17, 3) := by decide +kernel
theorem dX1_hasSnowAs_16 : decode cX1_hasSnowAs 16 = .ok (.aload_n 1, 1) := by decide +kernel
theorem dX1_hasSnowAs_17 : decode cX1_hasSnowAs 17 = .ok (.iload_n 2, 1) := by decide +kernel
theorem dX1_hasSnowAs_18 : decode cX1_hasSnowAs 18 = .ok (.invokevirtual 87, 3) := by decide +kernel
theorem dX1_hasSnowAs_21 : decode cX1_hasSnowAs 21 = .ok (.aload_n 0, 1) := by decide +kernel
theorem dX1_hasSnowAs_22 : decode cX1_hasSnowAs 22 = .ok (.getfield 23, 3) := by decide +kernel
theorem dX1_hasSnowAs_25 : decode cX1_hasSnowAs 25 = .ok (.iload_n 2, 1) := by decide +kernel
theorem dX1_hasSnowAs_26 : decode cX1_hasSnowAs 26 = .ok (.iaload, 1) := by decide +kernel
theorem dX1_hasSnowAs_27 : decode cX1_hasSnowAs 27 = .ok (.if_icmp .eq 5, 3) := by decide +kernel
theorem dX1_hasSnowAs_30 : decode cX1_hasSnowAs 30 = .ok (.iconst 0, 1) := by decide +kernel
theorem dX1_hasSnowAs_31 : decode cX1_hasSnowAs 31 = .ok (.ireturn, 1) := by decide +kernel
theorem dX1_hasSnowAs_32 : decode cX1_hasSnowAs 32 = .ok (.iinc 2 1, 3) := by decide +kernel
theorem dX1_hasSnowAs_35 : decode cX1_hasSnowAs 35 = .ok (.goto (-33), 3) := by decide +kernel
theorem dX1_hasSnowAs_38 : decode cX1_hasSnowAs 38 = .ok (.iconst 1, 1) := by decide +kernel
theorem dX1_hasSnowAs_39 : decode cX1_hasSnowAs 39 = .ok (.ireturn, 1) := by decide +kernel
theorem dX1_seekersAt_0 : decode cX1_seekersAt 0 = .ok (.iconst 0, 1) := by decide +kernel
theorem dX1_seekersAt_1 : decode cX1_seekersAt 1 = .ok (.istore_n 2, 1) := by decide +kernel
theorem dX1_seekersAt_2 : decode cX1_seekersAt 2 = .ok (.iconst 0, 1) := by decide +kernel
theorem dX1_seekersAt_3 : decode cX1_seekersAt 3 = .ok (.istore_n 3, 1) := by decide +kernel
theorem dX1_seekersAt_4 : decode cX1_seekersAt 4 = .ok (.iload_n 3, 1) := by decide +kernel
theorem dX1_seekersAt_5 : decode cX1_seekersAt 5 = .ok (.aload_n 0, 1) := by decide +kernel
theorem dX1_seekersAt_6 : decode cX1_seekersAt 6 = .ok (.getfield 55, 3) := by decide +kernel
theorem dX1_seekersAt_9 : decode cX1_seekersAt 9 = .ok (.if_icmp .ge 32, 3) := by decide +kernel
theorem dX1_seekersAt_12 : decode cX1_seekersAt 12 = .ok (.iload_n 2, 1) := by decide +kernel
theorem dX1_seekersAt_13 : decode cX1_seekersAt 13 = .ok (.aload_n 0, 1) := by decide +kernel
theorem dX1_seekersAt_14 : decode cX1_seekersAt 14 = .ok (.getfield 29, 3) := by decide +kernel
theorem dX1_seekersAt_17 : decode cX1_seekersAt 17 = .ok (.iload_n 3, 1) := by decide +kernel
theorem dX1_seekersAt_18 : decode cX1_seekersAt 18 = .ok (.aaload, 1) := by decide +kernel
theorem dX1_seekersAt_19 : decode cX1_seekersAt 19 = .ok (.getfield 91, 3) := by decide +kernel
theorem dX1_seekersAt_22 : decode cX1_seekersAt 22 = .ok (.iload_n 1, 1) := by decide +kernel
theorem dX1_seekersAt_23 : decode cX1_seekersAt 23 = .ok (.if_icmp .ne 9, 3) := by decide +kernel
theorem dX1_seekersAt_26 : decode cX1_seekersAt 26 = .ok (.iconst 1, 1) := by decide +kernel
theorem dX1_seekersAt_27 : decode cX1_seekersAt 27 = .ok (.iload_n 3, 1) := by decide +kernel
theorem dX1_seekersAt_28 : decode cX1_seekersAt 28 = .ok (.ishl, 1) := by decide +kernel
theorem dX1_seekersAt_29 : decode cX1_seekersAt 29 = .ok (.goto 4, 3) := by decide +kernel
theorem dX1_seekersAt_32 : decode cX1_seekersAt 32 = .ok (.iconst 0, 1) := by decide +kernel
theorem dX1_seekersAt_33 : decode cX1_seekersAt 33 = .ok (.ior, 1) := by decide +kernel
theorem dX1_seekersAt_34 : decode cX1_seekersAt 34 = .ok (.istore_n 2, 1) := by decide +kernel
theorem dX1_seekersAt_35 : decode cX1_seekersAt 35 = .ok (.iinc 3 1, 3) := by decide +kernel
theorem dX1_seekersAt_38 : decode cX1_seekersAt 38 = .ok (.goto (-34), 3) := by decide +kernel
theorem dX1_seekersAt_41 : decode cX1_seekersAt 41 = .ok (.iload_n 2, 1) := by decide +kernel
theorem dX1_seekersAt_42 : decode cX1_seekersAt 42 = .ok (.ireturn, 1) := by decide +kernel
theorem dX1_sheepIn_0 : decode cX1_sheepIn 0 = .ok (.iconst 0, 1) := by decide +kernel
theorem dX1_sheepIn_1 : decode cX1_sheepIn 1 = .ok (.istore_n 2, 1) := by decide +kernel
theorem dX1_sheepIn_2 : decode cX1_sheepIn 2 = .ok (.iconst 0, 1) := by decide +kernel
theorem dX1_sheepIn_3 : decode cX1_sheepIn 3 = .ok (.istore_n 3, 1) := by decide +kernel
theorem dX1_sheepIn_4 : decode cX1_sheepIn 4 = .ok (.iload_n 3, 1) := by decide +kernel
theorem dX1_sheepIn_5 : decode cX1_sheepIn 5 = .ok (.aload_n 0, 1) := by decide +kernel
theorem dX1_sheepIn_6 : decode cX1_sheepIn 6 = .ok (.getfield 68, 3) := by decide +kernel
theorem dX1_sheepIn_9 : decode cX1_sheepIn 9 = .ok (.if_icmp .ge 32, 3) := by decide +kernel
theorem dX1_sheepIn_12 : decode cX1_sheepIn 12 = .ok (.iload_n 2, 1) := by decide +kernel
theorem dX1_sheepIn_13 : decode cX1_sheepIn 13 = .ok (.aload_n 0, 1) := by decide +kernel
theorem dX1_sheepIn_14 : decode cX1_sheepIn 14 = .ok (.getfield 35, 3) := by decide +kernel
theorem dX1_sheepIn_17 : decode cX1_sheepIn 17 = .ok (.iload_n 3, 1) := by decide +kernel
theorem dX1_sheepIn_18 : decode cX1_sheepIn 18 = .ok (.aaload, 1) := by decide +kernel
theorem dX1_sheepIn_19 : decode cX1_sheepIn 19 = .ok (.getfield 94, 3) := by decide +kernel
theorem dX1_sheepIn_22 : decode cX1_sheepIn 22 = .ok (.iload_n 1, 1) := by decide +kernel
theorem dX1_sheepIn_23 : decode cX1_sheepIn 23 = .ok (.if_icmp .ne 9, 3) := by decide +kernel
theorem dX1_sheepIn_26 : decode cX1_sheepIn 26 = .ok (.iconst 1, 1) := by decide +kernel
theorem dX1_sheepIn_27 : decode cX1_sheepIn 27 = .ok (.iload_n 3, 1) := by decide +kernel
theorem dX1_sheepIn_28 : decode cX1_sheepIn 28 = .ok (.ishl, 1) := by decide +kernel
theorem dX1_sheepIn_29 : decode cX1_sheepIn 29 = .ok (.goto 4, 3) := by decide +kernel
theorem dX1_sheepIn_32 : decode cX1_sheepIn 32 = .ok (.iconst 0, 1) := by decide +kernel
theorem dX1_sheepIn_33 : decode cX1_sheepIn 33 = .ok (.ior, 1) := by decide +kernel
theorem dX1_sheepIn_34 : decode cX1_sheepIn 34 = .ok (.istore_n 2, 1) := by decide +kernel
theorem dX1_sheepIn_35 : decode cX1_sheepIn 35 = .ok (.iinc 3 1, 3) := by decide +kernel
theorem dX1_sheepIn_38 : decode cX1_sheepIn 38 = .ok (.goto (-34), 3) := by decide +kernel
theorem dX1_sheepIn_41 : decode cX1_sheepIn 41 = .ok (.iload_n 2, 1) := by decide +kernel
theorem dX1_sheepIn_42 : decode cX1_sheepIn 42 = .ok (.ireturn, 1) := by decide +kernel
theorem dX1_foundSet_0 : decode cX1_foundSet 0 = .ok (.iconst 0, 1) := by decide +kernel
theorem dX1_foundSet_1 : decode cX1_foundSet 1 = .ok (.istore_n 1, 1) := by decide +kernel
theorem dX1_foundSet_2 : decode cX1_foundSet 2 = .ok (.iconst 0, 1) := by decide +kernel
theorem dX1_foundSet_3 : decode cX1_foundSet 3 = .ok (.istore_n 2, 1) := by decide +kernel
theorem dX1_foundSet_4 : decode cX1_foundSet 4 = .ok (.iload_n 2, 1) := by decide +kernel
theorem dX1_foundSet_5 : decode cX1_foundSet 5 = .ok (.aload_n 0, 1) := by decide +kernel
theorem dX1_foundSet_6 : decode cX1_foundSet 6 = .ok (.getfield 68, 3) := by decide +kernel
theorem dX1_foundSet_9 : decode cX1_foundSet 9 = .ok (.if_icmp .ge 31, 3) := by decide +kernel
theorem dX1_foundSet_12 : decode cX1_foundSet 12 = .ok (.iload_n 1, 1) := by decide +kernel
theorem dX1_foundSet_13 : decode cX1_foundSet 13 = .ok (.aload_n 0, 1) := by decide +kernel
theorem dX1_foundSet_14 : decode cX1_foundSet 14 = .ok (.getfield 35, 3) := by decide +kernel
theorem dX1_foundSet_17 : decode cX1_foundSet 17 = .ok (.iload_n 2, 1) := by decide +kernel
theorem dX1_foundSet_18 : decode cX1_foundSet 18 = .ok (.aaload, 1) := by decide +kernel
theorem dX1_foundSet_19 : decode cX1_foundSet 19 = .ok (.getfield 97, 3) := by decide +kernel
theorem dX1_foundSet_22 : decode cX1_foundSet 22 = .ok (.ifCond .eq 9, 3) := by decide +kernel
theorem dX1_foundSet_25 : decode cX1_foundSet 25 = .ok (.iconst 1, 1) := by decide +kernel
theorem dX1_foundSet_26 : decode cX1_foundSet 26 = .ok (.iload_n 2, 1) := by decide +kernel
theorem dX1_foundSet_27 : decode cX1_foundSet 27 = .ok (.ishl, 1) := by decide +kernel
theorem dX1_foundSet_28 : decode cX1_foundSet 28 = .ok (.goto 4, 3) := by decide +kernel
theorem dX1_foundSet_31 : decode cX1_foundSet 31 = .ok (.iconst 0, 1) := by decide +kernel
theorem dX1_foundSet_32 : decode cX1_foundSet 32 = .ok (.ior, 1) := by decide +kernel
theorem dX1_foundSet_33 : decode cX1_foundSet 33 = .ok (.istore_n 1, 1) := by decide +kernel
theorem dX1_foundSet_34 : decode cX1_foundSet 34 = .ok (.iinc 2 1, 3) := by decide +kernel
theorem dX1_foundSet_37 : decode cX1_foundSet 37 = .ok (.goto (-33), 3) := by decide +kernel
theorem dX1_foundSet_40 : decode cX1_foundSet 40 = .ok (.iload_n 1, 1) := by decide +kernel
theorem dX1_foundSet_41 : decode cX1_foundSet 41 = .ok (.ireturn, 1) := by decide +kernel
theorem dX1_lostSet_0 : decode cX1_lostSet 0 = .ok (.iconst 0, 1) := by decide +kernel
theorem dX1_lostSet_1 : decode cX1_lostSet 1 = .ok (.istore_n 1, 1) := by decide +kernel
theorem dX1_lostSet_2 : decode cX1_lostSet 2 = .ok (.iconst 0, 1) := by decide +kernel
theorem dX1_lostSet_3 : decode cX1_lostSet 3 = .ok (.istore_n 2, 1) := by decide +kernel
theorem dX1_lostSet_4 : decode cX1_lostSet 4 = .ok (.iload_n 2, 1) := by decide +kernel
theorem dX1_lostSet_5 : decode cX1_lostSet 5 = .ok (.aload_n 0, 1) := by decide +kernel
theorem dX1_lostSet_6 : decode cX1_lostSet 6 = .ok (.getfield 68, 3) := by decide +kernel
theorem dX1_lostSet_9 : decode cX1_lostSet 9 = .ok (.if_icmp .ge 31, 3) := by decide +kernel
theorem dX1_lostSet_12 : decode cX1_lostSet 12 = .ok (.iload_n 1, 1) := by decide +kernel
theorem dX1_lostSet_13 : decode cX1_lostSet 13 = .ok (.aload_n 0, 1) := by decide +kernel
theorem dX1_lostSet_14 : decode cX1_lostSet 14 = .ok (.getfield 35, 3) := by decide +kernel
theorem dX1_lostSet_17 : decode cX1_lostSet 17 = .ok (.iload_n 2, 1) := by decide +kernel
theorem dX1_lostSet_18 : decode cX1_lostSet 18 = .ok (.aaload, 1) := by decide +kernel
theorem dX1_lostSet_19 : decode cX1_lostSet 19 = .ok (.invokevirtual 101, 3) := by decide +kernel
theorem dX1_lostSet_22 : decode cX1_lostSet 22 = .ok (.ifCond .eq 9, 3) := by decide +kernel
theorem dX1_lostSet_25 : decode cX1_lostSet 25 = .ok (.iconst 1, 1) := by decide +kernel
theorem dX1_lostSet_26 : decode cX1_lostSet 26 = .ok (.iload_n 2, 1) := by decide +kernel
theorem dX1_lostSet_27 : decode cX1_lostSet 27 = .ok (.ishl, 1) := by decide +kernel
theorem dX1_lostSet_28 : decode cX1_lostSet 28 = .ok (.goto 4, 3) := by decide +kernel
theorem dX1_lostSet_31 : decode cX1_lostSet 31 = .ok (.iconst 0, 1) := by decide +kernel
theorem dX1_lostSet_32 : decode cX1_lostSet 32 = .ok (.ior, 1) := by decide +kernel
theorem dX1_lostSet_33 : decode cX1_lostSet 33 = .ok (.istore_n 1, 1) := by decide +kernel
theorem dX1_lostSet_34 : decode cX1_lostSet 34 = .ok (.iinc 2 1, 3) := by decide +kernel
theorem dX1_lostSet_37 : decode cX1_lostSet 37 = .ok (.goto (-33), 3) := by decide +kernel
theorem dX1_lostSet_40 : decode cX1_lostSet 40 = .ok (.iload_n 1, 1) := by decide +kernel
theorem dX1_lostSet_41 : decode cX1_lostSet 41 = .ok (.ireturn, 1) := by decide +kernel
theorem dX1_soughtSet_0 : decode cX1_soughtSet 0 = .ok (.iconst 0, 1) := by decide +kernel
theorem dX1_soughtSet_1 : decode cX1_soughtSet 1 = .ok (.istore_n 1, 1) := by decide +kernel
theorem dX1_soughtSet_2 : decode cX1_soughtSet 2 = .ok (.iconst 0, 1) := by decide +kernel
theorem dX1_soughtSet_3 : decode cX1_soughtSet 3 = .ok (.istore_n 2, 1) := by decide +kernel
theorem dX1_soughtSet_4 : decode cX1_soughtSet 4 = .ok (.iload_n 2, 1) := by decide +kernel
theorem dX1_soughtSet_5 : decode cX1_soughtSet 5 = .ok (.aload_n 0, 1) := by decide +kernel
theorem dX1_soughtSet_6 : decode cX1_soughtSet 6 = .ok (.getfield 68, 3) := by decide +kernel
theorem dX1_soughtSet_9 : decode cX1_soughtSet 9 = .ok (.if_icmp .ge 31, 3) := by decide +kernel
theorem dX1_soughtSet_12 : decode cX1_soughtSet 12 = .ok (.iload_n 1, 1) := by decide +kernel
theorem dX1_soughtSet_13 : decode cX1_soughtSet 13 = .ok (.aload_n 0, 1) := by decide +kernel
theorem dX1_soughtSet_14 : decode cX1_soughtSet 14 = .ok (.getfield 35, 3) := by decide +kernel
theorem dX1_soughtSet_17 : decode cX1_soughtSet 17 = .ok (.iload_n 2, 1) := by decide +kernel
theorem dX1_soughtSet_18 : decode cX1_soughtSet 18 = .ok (.aaload, 1) := by decide +kernel
theorem dX1_soughtSet_19 : decode cX1_soughtSet 19 = .ok (.invokevirtual 105, 3) := by decide +kernel
theorem dX1_soughtSet_22 : decode cX1_soughtSet 22 = .ok (.ifCond .eq 9, 3) := by decide +kernel
theorem dX1_soughtSet_25 : decode cX1_soughtSet 25 = .ok (.iconst 1, 1) := by decide +kernel
theorem dX1_soughtSet_26 : decode cX1_soughtSet 26 = .ok (.iload_n 2, 1) := by decide +kernel
theorem dX1_soughtSet_27 : decode cX1_soughtSet 27 = .ok (.ishl, 1) := by decide +kernel
theorem dX1_soughtSet_28 : decode cX1_soughtSet 28 = .ok (.goto 4, 3) := by decide +kernel
theorem dX1_soughtSet_31 : decode cX1_soughtSet 31 = .ok (.iconst 0, 1) := by decide +kernel
theorem dX1_soughtSet_32 : decode cX1_soughtSet 32 = .ok (.ior, 1) := by decide +kernel
theorem dX1_soughtSet_33 : decode cX1_soughtSet 33 = .ok (.istore_n 1, 1) := by decide +kernel
theorem dX1_soughtSet_34 : decode cX1_soughtSet 34 = .ok (.iinc 2 1, 3) := by decide +kernel
theorem dX1_soughtSet_37 : decode cX1_soughtSet 37 = .ok (.goto (-33), 3) := by decide +kernel
theorem dX1_soughtSet_40 : decode cX1_soughtSet 40 = .ok (.iload_n 1, 1) := by decide +kernel
theorem dX1_soughtSet_41 : decode cX1_soughtSet 41 = .ok (.ireturn, 1) := by decide +kernel
theorem dX1_takeFromMarks_0 : decode cX1_takeFromMarks 0 = .ok (.iconst 0, 1) := by decide +kernel
theorem dX1_takeFromMarks_1 : decode cX1_takeFromMarks 1 = .ok (.istore_n 2, 1) := by decide +kernel
theorem dX1_takeFromMarks_2 : decode cX1_takeFromMarks 2 = .ok (.iload_n 2, 1) := by decide +kernel
theorem dX1_takeFromMarks_3 : decode cX1_takeFromMarks 3 = .ok (.aload_n 0, 1) := by decide +kernel
theorem dX1_takeFromMarks_4 : decode cX1_takeFromMarks 4 = .ok (.getfield 68, 3) := by decide +kernel
theorem dX1_takeFromMarks_7 : decode cX1_takeFromMarks 7 = .ok (.if_icmp .ge 28, 3) := by decide +kernel
theorem dX1_takeFromMarks_10 : decode cX1_takeFromMarks 10 = .ok (.aload_n 0, 1) := by decide +kernel
theorem dX1_takeFromMarks_11 : decode cX1_takeFromMarks 11 = .ok (.getfield 35, 3) := by decide +kernel
theorem dX1_takeFromMarks_14 : decode cX1_takeFromMarks 14 = .ok (.iload_n 2, 1) := by decide +kernel
theorem dX1_takeFromMarks_15 : decode cX1_takeFromMarks 15 = .ok (.aaload, 1) := by decide +kernel
theorem dX1_takeFromMarks_16 : decode cX1_takeFromMarks 16 = .ok (.dup, 1) := by decide +kernel
theorem dX1_takeFromMarks_17 : decode cX1_takeFromMarks 17 = .ok (.getfield 108, 3) := by decide +kernel
theorem dX1_takeFromMarks_20 : decode cX1_takeFromMarks 20 = .ok (.iconst 1, 1) := by decide +kernel
theorem dX1_takeFromMarks_21 : decode cX1_takeFromMarks 21 = .ok (.iload_n 1, 1) := by decide +kernel
theorem dX1_takeFromMarks_22 : decode cX1_takeFromMarks 22 = .ok (.ishl, 1) := by decide +kernel
theorem dX1_takeFromMarks_23 : decode cX1_takeFromMarks 23 = .ok (.iconst (-1), 1) := by decide +kernel
theorem dX1_takeFromMarks_24 : decode cX1_takeFromMarks 24 = .ok (.ixor, 1) := by decide +kernel
theorem dX1_takeFromMarks_25 : decode cX1_takeFromMarks 25 = .ok (.iand, 1) := by decide +kernel
theorem dX1_takeFromMarks_26 : decode cX1_takeFromMarks 26 = .ok (.putfield 108, 3) := by decide +kernel
theorem dX1_takeFromMarks_29 : decode cX1_takeFromMarks 29 = .ok (.iinc 2 1, 3) := by decide +kernel
theorem dX1_takeFromMarks_32 : decode cX1_takeFromMarks 32 = .ok (.goto (-30), 3) := by decide +kernel
theorem dX1_takeFromMarks_35 : decode cX1_takeFromMarks 35 = .ok (.return_, 1) := by decide +kernel
theorem dX1_outFor_0 : decode cX1_outFor 0 = .ok (.iload_n 1, 1) := by decide +kernel
theorem dX1_outFor_1 : decode cX1_outFor 1 = .ok (.ifCond .lt 11, 3) := by decide +kernel
theorem dX1_outFor_4 : decode cX1_outFor 4 = .ok (.iload_n 1, 1) := by decide +kernel
theorem dX1_outFor_5 : decode cX1_outFor 5 = .ok (.aload_n 0, 1) := by decide +kernel
theorem dX1_outFor_6 : decode cX1_outFor 6 = .ok (.getfield 55, 3) := by decide +kernel
theorem dX1_outFor_9 : decode cX1_outFor 9 = .ok (.if_icmp .lt 5, 3) := by decide +kernel
theorem dX1_outFor_12 : decode cX1_outFor 12 = .ok (.iconst (-1), 1) := by decide +kernel
theorem dX1_outFor_13 : decode cX1_outFor 13 = .ok (.ireturn, 1) := by decide +kernel
theorem dX1_outFor_14 : decode cX1_outFor 14 = .ok (.iconst (-1), 1) := by decide +kernel
theorem dX1_outFor_15 : decode cX1_outFor 15 = .ok (.istore_n 2, 1) := by decide +kernel
theorem dX1_outFor_16 : decode cX1_outFor 16 = .ok (.bipush 10, 2) := by decide +kernel
theorem dX1_outFor_18 : decode cX1_outFor 18 = .ok (.istore_n 3, 1) := by decide +kernel
theorem dX1_outFor_19 : decode cX1_outFor 19 = .ok (.iconst 0, 1) := by decide +kernel
theorem dX1_outFor_20 : decode cX1_outFor 20 = .ok (.istore 4, 2) := by decide +kernel
theorem dX1_outFor_22 : decode cX1_outFor 22 = .ok (.iload 4, 2) := by decide +kernel
theorem dX1_outFor_24 : decode cX1_outFor 24 = .ok (.aload_n 0, 1) := by decide +kernel
theorem dX1_outFor_25 : decode cX1_outFor 25 = .ok (.getfield 68, 3) := by decide +kernel
theorem dX1_outFor_28 : decode cX1_outFor 28 = .ok (.if_icmp .ge 105, 3) := by decide +kernel
theorem dX1_outFor_31 : decode cX1_outFor 31 = .ok (.aload_n 0, 1) := by decide +kernel
theorem dX1_outFor_32 : decode cX1_outFor 32 = .ok (.getfield 35, 3) := by decide +kernel
theorem dX1_outFor_35 : decode cX1_outFor 35 = .ok (.iload 4, 2) := by decide +kernel
theorem dX1_outFor_37 : decode cX1_outFor 37 = .ok (.aaload, 1) := by decide +kernel
theorem dX1_outFor_38 : decode cX1_outFor 38 = .ok (.astore 5, 2) := by decide +kernel
theorem dX1_outFor_40 : decode cX1_outFor 40 = .ok (.aload 5, 2) := by decide +kernel
theorem dX1_outFor_42 : decode cX1_outFor 42 = .ok (.getfield 94, 3) := by decide +kernel
theorem dX1_outFor_45 : decode cX1_outFor 45 = .ok (.aload_n 0, 1) := by decide +kernel
theorem dX1_outFor_46 : decode cX1_outFor 46 = .ok (.getfield 29, 3) := by decide +kernel
theorem dX1_outFor_49 : decode cX1_outFor 49 = .ok (.iload_n 1, 1) := by decide +kernel
theorem dX1_outFor_50 : decode cX1_outFor 50 = .ok (.aaload, 1) := by decide +kernel
theorem dX1_outFor_51 : decode cX1_outFor 51 = .ok (.getfield 91, 3) := by decide +kernel
theorem dX1_outFor_54 : decode cX1_outFor 54 = .ok (.isub, 1) := by decide +kernel
theorem dX1_outFor_55 : decode cX1_outFor 55 = .ok (.invokestatic 111, 3) := by decide +kernel
theorem dX1_outFor_58 : decode cX1_outFor 58 = .ok (.istore 6, 2) := by decide +kernel
theorem dX1_outFor_60 : decode cX1_outFor 60 = .ok (.aload 5, 2) := by decide +kernel
theorem dX1_outFor_62 : decode cX1_outFor 62 = .ok (.invokevirtual 105, 3) := by decide +kernel
theorem dX1_outFor_65 : decode cX1_outFor 65 = .ok (.ifCond .eq 26, 3) := by decide +kernel
theorem dX1_outFor_68 : decode cX1_outFor 68 = .ok (.aload 5, 2) := by decide +kernel
theorem dX1_outFor_70 : decode cX1_outFor 70 = .ok (.getfield 108, 3) := by decide +kernel
theorem dX1_outFor_73 : decode cX1_outFor 73 = .ok (.iload_n 1, 1) := by decide +kernel
theorem dX1_outFor_74 : decode cX1_outFor 74 = .ok (.ishr, 1) := by decide +kernel
theorem dX1_outFor_75 : decode cX1_outFor 75 = .ok (.iconst 1, 1) := by decide +kernel
theorem dX1_outFor_76 : decode cX1_outFor 76 = .ok (.iand, 1) := by decide +kernel
theorem dX1_outFor_77 : decode cX1_outFor 77 = .ok (.iconst 1, 1) := by decide +kernel
theorem dX1_outFor_78 : decode cX1_outFor 78 = .ok (.if_icmp .ne 13, 3) := by decide +kernel
theorem dX1_outFor_81 : decode cX1_outFor 81 = .ok (.iload 6, 2) := by decide +kernel
theorem dX1_outFor_83 : decode cX1_outFor 83 = .ok (.iload_n 3, 1) := by decide +kernel
theorem dX1_outFor_84 : decode cX1_outFor 84 = .ok (.if_icmp .ge 7, 3) := by decide +kernel
theorem dX1_outFor_87 : decode cX1_outFor 87 = .ok (.iconst 1, 1) := by decide +kernel
theorem dX1_outFor_88 : decode cX1_outFor 88 = .ok (.goto 4, 3) := by decide +kernel
theorem dX1_outFor_91 : decode cX1_outFor 91 = .ok (.iconst 0, 1) := by decide +kernel
theorem dX1_outFor_92 : decode cX1_outFor 92 = .ok (.istore 7, 2) := by decide +kernel
theorem dX1_outFor_94 : decode cX1_outFor 94 = .ok (.iload 7, 2) := by decide +kernel
theorem dX1_outFor_96 : decode cX1_outFor 96 = .ok (.ifCond .eq 31, 3) := by decide +kernel
theorem dX1_outFor_99 : decode cX1_outFor 99 = .ok (.aload_n 0, 1) := by decide +kernel
theorem dX1_outFor_100 : decode cX1_outFor 100 = .ok (.getfield 20, 3) := by decide +kernel
theorem dX1_outFor_103 : decode cX1_outFor 103 = .ok (.iload 6, 2) := by decide +kernel
theorem dX1_outFor_105 : decode cX1_outFor 105 = .ok (.aload 5, 2) := by decide +kernel
theorem dX1_outFor_107 : decode cX1_outFor 107 = .ok (.getfield 114, 3) := by decide +kernel
theorem dX1_outFor_110 : decode cX1_outFor 110 = .ok (.aload 5, 2) := by decide +kernel
theorem dX1_outFor_112 : decode cX1_outFor 112 = .ok (.getfield 117, 3) := by decide +kernel
theorem dX1_outFor_115 : decode cX1_outFor 115 = .ok (.invokevirtual 120, 3) := by decide +kernel
theorem dX1_outFor_118 : decode cX1_outFor 118 = .ok (.ifCond .eq 9, 3) := by decide +kernel
theorem dX1_outFor_121 : decode cX1_outFor 121 = .ok (.iload 4, 2) := by decide +kernel
theorem dX1_outFor_123 : decode cX1_outFor 123 = .ok (.istore_n 2, 1) := by decide +kernel
theorem dX1_outFor_124 : decode cX1_outFor 124 = .ok (.iload 6, 2) := by decide +kernel
theorem dX1_outFor_126 : decode cX1_outFor 126 = .ok (.istore_n 3, 1) := by decide +kernel
theorem dX1_outFor_127 : decode cX1_outFor 127 = .ok (.iinc 4 1, 3) := by decide +kernel
theorem dX1_outFor_130 : decode cX1_outFor 130 = .ok (.goto (-108), 3) := by decide +kernel
theorem dX1_outFor_133 : decode cX1_outFor 133 = .ok (.iload_n 2, 1) := by decide +kernel
theorem dX1_outFor_134 : decode cX1_outFor 134 = .ok (.ireturn, 1) := by decide +kernel
theorem dX1_passHours_0 : decode cX1_passHours 0 = .ok (.aload_n 0, 1) := by decide +kernel
theorem dX1_passHours_1 : decode cX1_passHours 1 = .ok (.getfield 42, 3) := by decide +kernel
theorem dX1_passHours_4 : decode cX1_passHours 4 = .ok (.invokevirtual 124, 3) := by decide +kernel
theorem dX1_passHours_7 : decode cX1_passHours 7 = .ok (.iconst 0, 1) := by decide +kernel
theorem dX1_passHours_8 : decode cX1_passHours 8 = .ok (.istore_n 2, 1) := by decide +kernel
theorem dX1_passHours_9 : decode cX1_passHours 9 = .ok (.iload_n 2, 1) := by decide +kernel
theorem dX1_passHours_10 : decode cX1_passHours 10 = .ok (.iload_n 1, 1) := by decide +kernel
theorem dX1_passHours_11 : decode cX1_passHours 11 = .ok (.if_icmp .ge 13, 3) := by decide +kernel
theorem dX1_passHours_14 : decode cX1_passHours 14 = .ok (.aload_n 0, 1) := by decide +kernel
theorem dX1_passHours_15 : decode cX1_passHours 15 = .ok (.invokevirtual 127, 3) := by decide +kernel
theorem dX1_passHours_18 : decode cX1_passHours 18 = .ok (.iinc 2 1, 3) := by decide +kernel
theorem dX1_passHours_21 : decode cX1_passHours 21 = .ok (.goto (-12), 3) := by decide +kernel
theorem dX1_passHours_24 : decode cX1_passHours 24 = .ok (.return_, 1) := by decide +kernel
theorem dX1_passHoursFor_0 : decode cX1_passHoursFor 0 = .ok (.aload_n 0, 1) := by decide +kernel
theorem dX1_passHoursFor_1 : decode cX1_passHoursFor 1 = .ok (.getfield 42, 3) := by decide +kernel
theorem dX1_passHoursFor_4 : decode cX1_passHoursFor 4 = .ok (.invokevirtual 124, 3) := by decide +kernel
theorem dX1_passHoursFor_7 : decode cX1_passHoursFor 7 = .ok (.iconst 0, 1) := by decide +kernel
theorem dX1_passHoursFor_8 : decode cX1_passHoursFor 8 = .ok (.istore_n 3, 1) := by decide +kernel
theorem dX1_passHoursFor_9 : decode cX1_passHoursFor 9 = .ok (.iload_n 3, 1) := by decide +kernel
theorem dX1_passHoursFor_10 : decode cX1_passHoursFor 10 = .ok (.iload_n 2, 1) := by decide +kernel
theorem dX1_passHoursFor_11 : decode cX1_passHoursFor 11 = .ok (.if_icmp .ge 37, 3) := by decide +kernel
theorem dX1_passHoursFor_14 : decode cX1_passHoursFor 14 = .ok (.iload_n 1, 1) := by decide +kernel
theorem dX1_passHoursFor_15 : decode cX1_passHoursFor 15 = .ok (.ifCond .lt 33, 3) := by decide +kernel
theorem dX1_passHoursFor_18 : decode cX1_passHoursFor 18 = .ok (.iload_n 1, 1) := by decide +kernel
theorem dX1_passHoursFor_19 : decode cX1_passHoursFor 19 = .ok (.aload_n 0, 1) := by decide +kernel
theorem dX1_passHoursFor_20 : decode cX1_passHoursFor 20 = .ok (.getfield 68, 3) := by decide +kernel
theorem dX1_passHoursFor_23 : decode cX1_passHoursFor 23 = .ok (.if_icmp .ge 25, 3) := by decide +kernel
theorem dX1_passHoursFor_26 : decode cX1_passHoursFor 26 = .ok (.aload_n 0, 1) := by decide +kernel
theorem dX1_passHoursFor_27 : decode cX1_passHoursFor 27 = .ok (.getfield 35, 3) := by decide +kernel
theorem dX1_passHoursFor_30 : decode cX1_passHoursFor 30 = .ok (.iload_n 1, 1) := by decide +kernel
theorem dX1_passHoursFor_31 : decode cX1_passHoursFor 31 = .ok (.aaload, 1) := by decide +kernel
theorem dX1_passHoursFor_32 : decode cX1_passHoursFor 32 = .ok (.invokevirtual 105, 3) := by decide +kernel
theorem dX1_passHoursFor_35 : decode cX1_passHoursFor 35 = .ok (.ifCond .eq 13, 3) := by decide +kernel
theorem dX1_passHoursFor_38 : decode cX1_passHoursFor 38 = .ok (.aload_n 0, 1) := by decide +kernel
theorem dX1_passHoursFor_39 : decode cX1_passHoursFor 39 = .ok (.invokevirtual 127, 3) := by decide +kernel
theorem dX1_passHoursFor_42 : decode cX1_passHoursFor 42 = .ok (.iinc 3 1, 3) := by decide +kernel
theorem dX1_passHoursFor_45 : decode cX1_passHoursFor 45 = .ok (.goto (-36), 3) := by decide +kernel
theorem dX1_passHoursFor_48 : decode cX1_passHoursFor 48 = .ok (.iload_n 3, 1) := by decide +kernel
theorem dX1_passHoursFor_49 : decode cX1_passHoursFor 49 = .ok (.ireturn, 1) := by decide +kernel
theorem dX1_passOneHour_0 : decode cX1_passOneHour 0 = .ok (.iconst 0, 1) := by decide +kernel
theorem dX1_passOneHour_1 : decode cX1_passOneHour 1 = .ok (.istore_n 1, 1) := by decide +kernel
theorem dX1_passOneHour_2 : decode cX1_passOneHour 2 = .ok (.iload_n 1, 1) := by decide +kernel
theorem dX1_passOneHour_3 : decode cX1_passOneHour 3 = .ok (.bipush 10, 2) := by decide +kernel
theorem dX1_passOneHour_5 : decode cX1_passOneHour 5 = .ok (.if_icmp .ge 35, 3) := by decide +kernel
theorem dX1_passOneHour_8 : decode cX1_passOneHour 8 = .ok (.aload_n 0, 1) := by decide +kernel
theorem dX1_passOneHour_9 : decode cX1_passOneHour 9 = .ok (.iload_n 1, 1) := by decide +kernel
theorem dX1_passOneHour_10 : decode cX1_passOneHour 10 = .ok (.aload_n 0, 1) := by decide +kernel
theorem dX1_passOneHour_11 : decode cX1_passOneHour 11 = .ok (.getfield 14, 3) := by decide +kernel
theorem dX1_passOneHour_14 : decode cX1_passOneHour 14 = .ok (.iload_n 1, 1) := by decide +kernel
theorem dX1_passOneHour_15 : decode cX1_passOneHour 15 = .ok (.aload_n 0, 1) := by decide +kernel
theorem dX1_passOneHour_16 : decode cX1_passOneHour 16 = .ok (.getfield 23, 3) := by decide +kernel
theorem dX1_passOneHour_19 : decode cX1_passOneHour 19 = .ok (.iload_n 1, 1) := by decide +kernel
theorem dX1_passOneHour_20 : decode cX1_passOneHour 20 = .ok (.iaload, 1) := by decide +kernel
theorem dX1_passOneHour_21 : decode cX1_passOneHour 21 = .ok (.aload_n 0, 1) := by decide +kernel
theorem dX1_passOneHour_22 : decode cX1_passOneHour 22 = .ok (.getfield 74, 3) := by decide +kernel
theorem dX1_passOneHour_25 : decode cX1_passOneHour 25 = .ok (.bipush 24, 2) := by decide +kernel
theorem dX1_passOneHour_27 : decode cX1_passOneHour 27 = .ok (.irem, 1) := by decide +kernel
theorem dX1_passOneHour_28 : decode cX1_passOneHour 28 = .ok (.invokevirtual 120, 3) := by decide +kernel
theorem dX1_passOneHour_31 : decode cX1_passOneHour 31 = .ok (.invokevirtual 130, 3) := by decide +kernel
theorem dX1_passOneHour_34 : decode cX1_passOneHour 34 = .ok (.iinc 1 1, 3) := by decide +kernel
theorem dX1_passOneHour_37 : decode cX1_passOneHour 37 = .ok (.goto (-35), 3) := by decide +kernel
theorem dX1_passOneHour_40 : decode cX1_passOneHour 40 = .ok (.iconst 0, 1) := by decide +kernel
theorem dX1_passOneHour_41 : decode cX1_passOneHour 41 = .ok (.istore_n 1, 1) := by decide +kernel
theorem dX1_passOneHour_42 : decode cX1_passOneHour 42 = .ok (.iload_n 1, 1) := by decide +kernel
theorem dX1_passOneHour_43 : decode cX1_passOneHour 43 = .ok (.aload_n 0, 1) := by decide +kernel
theorem dX1_passOneHour_44 : decode cX1_passOneHour 44 = .ok (.getfield 55, 3) := by decide +kernel
theorem dX1_passOneHour_47 : decode cX1_passOneHour 47 = .ok (.if_icmp .ge 24, 3) := by decide +kernel
theorem dX1_passOneHour_50 : decode cX1_passOneHour 50 = .ok (.aload_n 0, 1) := by decide +kernel
theorem dX1_passOneHour_51 : decode cX1_passOneHour 51 = .ok (.aload_n 0, 1) := by decide +kernel
theorem dX1_passOneHour_52 : decode cX1_passOneHour 52 = .ok (.getfield 29, 3) := by decide +kernel
theorem dX1_passOneHour_55 : decode cX1_passOneHour 55 = .ok (.iload_n 1, 1) := by decide +kernel
theorem dX1_passOneHour_56 : decode cX1_passOneHour 56 = .ok (.aaload, 1) := by decide +kernel
theorem dX1_passOneHour_57 : decode cX1_passOneHour 57 = .ok (.aload_n 0, 1) := by decide +kernel
theorem dX1_passOneHour_58 : decode cX1_passOneHour 58 = .ok (.iload_n 1, 1) := by decide +kernel
theorem dX1_passOneHour_59 : decode cX1_passOneHour 59 = .ok (.invokevirtual 134, 3) := by decide +kernel
theorem dX1_passOneHour_62 : decode cX1_passOneHour 62 = .ok (.invokevirtual 137, 3) := by decide +kernel
theorem dX1_passOneHour_65 : decode cX1_passOneHour 65 = .ok (.iinc 1 1, 3) := by decide +kernel
theorem dX1_passOneHour_68 : decode cX1_passOneHour 68 = .ok (.goto (-26), 3) := by decide +kernel
theorem dX1_passOneHour_71 : decode cX1_passOneHour 71 = .ok (.iconst 0, 1) := by decide +kernel
theorem dX1_passOneHour_72 : decode cX1_passOneHour 72 = .ok (.istore_n 1, 1) := by decide +kernel
theorem dX1_passOneHour_73 : decode cX1_passOneHour 73 = .ok (.iload_n 1, 1) := by decide +kernel
theorem dX1_passOneHour_74 : decode cX1_passOneHour 74 = .ok (.aload_n 0, 1) := by decide +kernel
theorem dX1_passOneHour_75 : decode cX1_passOneHour 75 = .ok (.getfield 68, 3) := by decide +kernel
theorem dX1_passOneHour_78 : decode cX1_passOneHour 78 = .ok (.if_icmp .ge 19, 3) := by decide +kernel
theorem dX1_passOneHour_81 : decode cX1_passOneHour 81 = .ok (.aload_n 0, 1) := by decide +kernel
theorem dX1_passOneHour_82 : decode cX1_passOneHour 82 = .ok (.aload_n 0, 1) := by decide +kernel
theorem dX1_passOneHour_83 : decode cX1_passOneHour 83 = .ok (.getfield 35, 3) := by decide +kernel
theorem dX1_passOneHour_86 : decode cX1_passOneHour 86 = .ok (.iload_n 1, 1) := by decide +kernel
theorem dX1_passOneHour_87 : decode cX1_passOneHour 87 = .ok (.aaload, 1) := by decide +kernel
theorem dX1_passOneHour_88 : decode cX1_passOneHour 88 = .ok (.invokevirtual 141, 3) := by decide +kernel
theorem dX1_passOneHour_91 : decode cX1_passOneHour 91 = .ok (.iinc 1 1, 3) := by decide +kernel
theorem dX1_passOneHour_94 : decode cX1_passOneHour 94 = .ok (.goto (-21), 3) := by decide +kernel
theorem dX1_passOneHour_97 : decode cX1_passOneHour 97 = .ok (.aload_n 0, 1) := by decide +kernel
theorem dX1_passOneHour_98 : decode cX1_passOneHour 98 = .ok (.dup, 1) := by decide +kernel
theorem dX1_passOneHour_99 : decode cX1_passOneHour 99 = .ok (.getfield 74, 3) := by decide +kernel
theorem dX1_passOneHour_102 : decode cX1_passOneHour 102 = .ok (.iconst 1, 1) := by decide +kernel
theorem dX1_passOneHour_103 : decode cX1_passOneHour 103 = .ok (.iadd, 1) := by decide +kernel
theorem dX1_passOneHour_104 : decode cX1_passOneHour 104 = .ok (.putfield 74, 3) := by decide +kernel
theorem dX1_passOneHour_107 : decode cX1_passOneHour 107 = .ok (.return_, 1) := by decide +kernel
theorem dX1_seek_0 : decode cX1_seek 0 = .ok (.iload_n 2, 1) := by decide +kernel
theorem dX1_seek_1 : decode cX1_seek 1 = .ok (.ifCond .lt 11, 3) := by decide +kernel
theorem dX1_seek_4 : decode cX1_seek 4 = .ok (.iload_n 2, 1) := by decide +kernel
theorem dX1_seek_5 : decode cX1_seek 5 = .ok (.aload_n 0, 1) := by decide +kernel
theorem dX1_seek_6 : decode cX1_seek 6 = .ok (.getfield 68, 3) := by decide +kernel
theorem dX1_seek_9 : decode cX1_seek 9 = .ok (.if_icmp .lt 4, 3) := by decide +kernel
theorem dX1_seek_12 : decode cX1_seek 12 = .ok (.return_, 1) := by decide +kernel
theorem dX1_seek_13 : decode cX1_seek 13 = .ok (.aload_n 0, 1) := by decide +kernel
theorem dX1_seek_14 : decode cX1_seek 14 = .ok (.getfield 35, 3) := by decide +kernel
theorem dX1_seek_17 : decode cX1_seek 17 = .ok (.iload_n 2, 1) := by decide +kernel
theorem dX1_seek_18 : decode cX1_seek 18 = .ok (.aaload, 1) := by decide +kernel
theorem dX1_seek_19 : decode cX1_seek 19 = .ok (.astore_n 3, 1) := by decide +kernel
theorem dX1_seek_20 : decode cX1_seek 20 = .ok (.aload_n 3, 1) := by decide +kernel
theorem dX1_seek_21 : decode cX1_seek 21 = .ok (.getfield 94, 3) := by decide +kernel
theorem dX1_seek_24 : decode cX1_seek 24 = .ok (.aload_n 1, 1) := by decide +kernel
theorem dX1_seek_25 : decode cX1_seek 25 = .ok (.getfield 91, 3) := by decide +kernel
theorem dX1_seek_28 : decode cX1_seek 28 = .ok (.if_icmp .eq 29, 3) := by decide +kernel
theorem dX1_seek_31 : decode cX1_seek 31 = .ok (.aload_n 1, 1) := by decide +kernel
theorem dX1_seek_32 : decode cX1_seek 32 = .ok (.dup, 1) := by decide +kernel
theorem dX1_seek_33 : decode cX1_seek 33 = .ok (.getfield 91, 3) := by decide +kernel
theorem dX1_seek_36 : decode cX1_seek 36 = .ok (.aload_n 3, 1) := by decide +kernel
theorem dX1_seek_37 : decode cX1_seek 37 = .ok (.getfield 94, 3) := by decide +kernel
theorem dX1_seek_40 : decode cX1_seek 40 = .ok (.aload_n 1, 1) := by decide +kernel
theorem dX1_seek_41 : decode cX1_seek 41 = .ok (.getfield 91, 3) := by decide +kernel
theorem dX1_seek_44 : decode cX1_seek 44 = .ok (.if_icmp .le 7, 3) := by decide +kernel
theorem dX1_seek_47 : decode cX1_seek 47 = .ok (.iconst 1, 1) := by decide +kernel
theorem dX1_seek_48 : decode cX1_seek 48 = .ok (.goto 4, 3) := by decide +kernel
theorem dX1_seek_51 : decode cX1_seek 51 = .ok (.iconst (-1), 1) := by decide +kernel
theorem dX1_seek_52 : decode cX1_seek 52 = .ok (.iadd, 1) := by decide +kernel
theorem dX1_seek_53 : decode cX1_seek 53 = .ok (.putfield 91, 3) := by decide +kernel
theorem dX1_seek_56 : decode cX1_seek 56 = .ok (.return_, 1) := by decide +kernel
theorem dX1_seek_57 : decode cX1_seek 57 = .ok (.aload_n 0, 1) := by decide +kernel
theorem dX1_seek_58 : decode cX1_seek 58 = .ok (.aload_n 3, 1) := by decide +kernel
theorem dX1_seek_59 : decode cX1_seek 59 = .ok (.getfield 94, 3) := by decide +kernel
theorem dX1_seek_62 : decode cX1_seek 62 = .ok (.aload_n 1, 1) := by decide +kernel
theorem dX1_seek_63 : decode cX1_seek 63 = .ok (.getfield 144, 3) := by decide +kernel
theorem dX1_seek_66 : decode cX1_seek 66 = .ok (.ineg, 1) := by decide +kernel
theorem dX1_seek_67 : decode cX1_seek 67 = .ok (.invokevirtual 130, 3) := by decide +kernel
theorem dX1_seek_70 : decode cX1_seek 70 = .ok (.aload_n 0, 1) := by decide +kernel
theorem dX1_seek_71 : decode cX1_seek 71 = .ok (.aload_n 3, 1) := by decide +kernel
theorem dX1_seek_72 : decode cX1_seek 72 = .ok (.getfield 94, 3) := by decide +kernel
theorem dX1_seek_75 : decode cX1_seek 75 = .ok (.invokevirtual 147, 3) := by decide +kernel
theorem dX1_seek_78 : decode cX1_seek 78 = .ok (.aload_n 3, 1) := by decide +kernel
theorem dX1_seek_79 : decode cX1_seek 79 = .ok (.aload_n 0, 1) := by decide +kernel
theorem dX1_seek_80 : decode cX1_seek 80 = .ok (.getfield 74, 3) := by decide +kernel
theorem dX1_seek_83 : decode cX1_seek 83 = .ok (.invokevirtual 150, 3) := by decide +kernel
theorem dX1_seek_86 : decode cX1_seek 86 = .ok (.if_icmp .gt 17, 3) := by decide +kernel
theorem dX1_seek_89 : decode cX1_seek 89 = .ok (.aload_n 3, 1) := by decide +kernel
theorem dX1_seek_90 : decode cX1_seek 90 = .ok (.iconst 1, 1) := by decide +kernel
theorem dX1_seek_91 : decode cX1_seek 91 = .ok (.putfield 97, 3) := by decide +kernel
theorem dX1_seek_94 : decode cX1_seek 94 = .ok (.aload_n 0, 1) := by decide +kernel
theorem dX1_seek_95 : decode cX1_seek 95 = .ok (.getfield 42, 3) := by decide +kernel
theorem dX1_seek_98 : decode cX1_seek 98 = .ok (.iload_n 2, 1) := by decide +kernel
theorem dX1_seek_99 : decode cX1_seek 99 = .ok (.invokevirtual 153, 3) := by decide +kernel
theorem dX1_seek_102 : decode cX1_seek 102 = .ok (.pop, 1) := by decide +kernel
theorem dX1_seek_103 : decode cX1_seek 103 = .ok (.return_, 1) := by decide +kernel
theorem dX1_freeze_0 : decode cX1_freeze 0 = .ok (.aload_n 1, 1) := by decide +kernel
theorem dX1_freeze_1 : decode cX1_freeze 1 = .ok (.getfield 97, 3) := by decide +kernel
theorem dX1_freeze_4 : decode cX1_freeze 4 = .ok (.ifCond .ne 35, 3) := by decide +kernel
theorem dX1_freeze_7 : decode cX1_freeze 7 = .ok (.aload_n 0, 1) := by decide +kernel
theorem dX1_freeze_8 : decode cX1_freeze 8 = .ok (.aload_n 1, 1) := by decide +kernel
theorem dX1_freeze_9 : decode cX1_freeze 9 = .ok (.getfield 94, 3) := by decide +kernel
theorem dX1_freeze_12 : decode cX1_freeze 12 = .ok (.invokevirtual 147, 3) := by decide +kernel
theorem dX1_freeze_15 : decode cX1_freeze 15 = .ok (.ifCond .le 24, 3) := by decide +kernel
theorem dX1_freeze_18 : decode cX1_freeze 18 = .ok (.aload_n 1, 1) := by decide +kernel
theorem dX1_freeze_19 : decode cX1_freeze 19 = .ok (.iconst 0, 1) := by decide +kernel
theorem dX1_freeze_20 : decode cX1_freeze 20 = .ok (.aload_n 1, 1) := by decide +kernel
theorem dX1_freeze_21 : decode cX1_freeze 21 = .ok (.getfield 114, 3) := by decide +kernel
theorem dX1_freeze_24 : decode cX1_freeze 24 = .ok (.aload_n 1, 1) := by decide +kernel
theorem dX1_freeze_25 : decode cX1_freeze 25 = .ok (.aload_n 0, 1) := by decide +kernel
theorem dX1_freeze_26 : decode cX1_freeze 26 = .ok (.getfield 74, 3) := by decide +kernel
theorem dX1_freeze_29 : decode cX1_freeze 29 = .ok (.invokevirtual 156, 3) := by decide +kernel
theorem dX1_freeze_32 : decode cX1_freeze 32 = .ok (.isub, 1) := by decide +kernel
theorem dX1_freeze_33 : decode cX1_freeze 33 = .ok (.invokestatic 81, 3) := by decide +kernel
theorem dX1_freeze_36 : decode cX1_freeze 36 = .ok (.putfield 114, 3) := by decide +kernel
theorem dX1_freeze_39 : decode cX1_freeze 39 = .ok (.return_, 1) := by decide +kernel
theorem dX2_init_0 : decode cX2_init 0 = .ok (.aload_n 0, 1) := by decide +kernel
theorem dX2_init_1 : decode cX2_init 1 = .ok (.invokespecial 3, 3) := by decide +kernel
theorem dX2_init_4 : decode cX2_init 4 = .ok (.aload_n 0, 1) := by decide +kernel
theorem dX2_init_5 : decode cX2_init 5 = .ok (.new 9, 3) := by decide +kernel
theorem dX2_init_8 : decode cX2_init 8 = .ok (.dup, 1) := by decide +kernel
theorem dX2_init_9 : decode cX2_init 9 = .ok (.bipush 50, 2) := by decide +kernel
theorem dX2_init_11 : decode cX2_init 11 = .ok (.invokespecial 11, 3) := by decide +kernel
theorem dX2_init_14 : decode cX2_init 14 = .ok (.putfield 14, 3) := by decide +kernel
theorem dX2_init_17 : decode cX2_init 17 = .ok (.aload_n 0, 1) := by decide +kernel
theorem dX2_init_18 : decode cX2_init 18 = .ok (.new 9, 3) := by decide +kernel
theorem dX2_init_21 : decode cX2_init 21 = .ok (.dup, 1) := by decide +kernel
theorem dX2_init_22 : decode cX2_init 22 = .ok (.bipush 50, 2) := by decide +kernel
theorem dX2_init_24 : decode cX2_init 24 = .ok (.invokespecial 11, 3) := by decide +kernel
theorem dX2_init_27 : decode cX2_init 27 = .ok (.putfield 20, 3) := by decide +kernel
theorem dX2_init_30 : decode cX2_init 30 = .ok (.return_, 1) := by decide +kernel
theorem dX2_read_0 : decode cX2_read 0 = .ok (.aload_n 0, 1) := by decide +kernel
theorem dX2_read_1 : decode cX2_read 1 = .ok (.getfield 14, 3) := by decide +kernel
theorem dX2_read_4 : decode cX2_read 4 = .ok (.aload_n 1, 1) := by decide +kernel
theorem dX2_read_5 : decode cX2_read 5 = .ok (.invokevirtual 23, 3) := by decide +kernel
theorem dX2_read_8 : decode cX2_read 8 = .ok (.aload_n 0, 1) := by decide +kernel
theorem dX2_read_9 : decode cX2_read 9 = .ok (.iload_n 2, 1) := by decide +kernel
theorem dX2_read_10 : decode cX2_read 10 = .ok (.putfield 27, 3) := by decide +kernel
theorem dX2_read_13 : decode cX2_read 13 = .ok (.aload_n 0, 1) := by decide +kernel
theorem dX2_read_14 : decode cX2_read 14 = .ok (.iconst 0, 1) := by decide +kernel
theorem dX2_read_15 : decode cX2_read 15 = .ok (.putfield 31, 3) := by decide +kernel
theorem dX2_read_18 : decode cX2_read 18 = .ok (.aload_n 0, 1) := by decide +kernel
theorem dX2_read_19 : decode cX2_read 19 = .ok (.getfield 20, 3) := by decide +kernel
theorem dX2_read_22 : decode cX2_read 22 = .ok (.invokevirtual 34, 3) := by decide +kernel
theorem dX2_read_25 : decode cX2_read 25 = .ok (.aload_n 0, 1) := by decide +kernel
theorem dX2_read_26 : decode cX2_read 26 = .ok (.iconst 0, 1) := by decide +kernel
theorem dX2_read_27 : decode cX2_read 27 = .ok (.iconst 0, 1) := by decide +kernel
theorem dX2_read_28 : decode cX2_read 28 = .ok (.invokevirtual 37, 3) := by decide +kernel
theorem dX2_read_31 : decode cX2_read 31 = .ok (.ifCond .eq 21, 3) := by decide +kernel
theorem dX2_read_34 : decode cX2_read 34 = .ok (.aload_n 0, 1) := by decide +kernel
theorem dX2_read_35 : decode cX2_read 35 = .ok (.getfield 31, 3) := by decide +kernel
theorem dX2_read_38 : decode cX2_read 38 = .ok (.aload_n 0, 1) := by decide +kernel
theorem dX2_read_39 : decode cX2_read 39 = .ok (.getfield 14, 3) := by decide +kernel
theorem dX2_read_42 : decode cX2_read 42 = .ok (.getfield 41, 3) := by decide +kernel
theorem dX2_read_45 : decode cX2_read 45 = .ok (.if_icmp .ne 7, 3) := by decide +kernel
theorem dX2_read_48 : decode cX2_read 48 = .ok (.iconst 1, 1) := by decide +kernel
theorem dX2_read_49 : decode cX2_read 49 = .ok (.goto 4, 3) := by decide +kernel
theorem dX2_read_52 : decode cX2_read 52 = .ok (.iconst 0, 1) := by decide +kernel
theorem dX2_read_53 : decode cX2_read 53 = .ok (.ireturn, 1) := by decide +kernel
theorem dX2_readLevel_0 : decode cX2_readLevel 0 = .ok (.iload_n 1, 1) := by decide +kernel
theorem dX2_readLevel_1 : decode cX2_readLevel 1 = .ok (.iconst 5, 1) := by decide +kernel
theorem dX2_readLevel_2 : decode cX2_readLevel 2 = .ok (.if_icmp .lt 9, 3) := by decide +kernel
theorem dX2_readLevel_5 : decode cX2_readLevel 5 = .ok (.aload_n 0, 1) := by decide +kernel
theorem dX2_readLevel_6 : decode cX2_readLevel 6 = .ok (.iload_n 2, 1) := by decide +kernel
theorem dX2_readLevel_7 : decode cX2_readLevel 7 = .ok (.invokevirtual 44, 3) := by decide +kernel
theorem dX2_readLevel_10 : decode cX2_readLevel 10 = .ok (.ireturn, 1) := by decide +kernel
theorem dX2_readLevel_11 : decode cX2_readLevel 11 = .ok (.aload_n 0, 1) := by decide +kernel
theorem dX2_readLevel_12 : decode cX2_readLevel 12 = .ok (.iload_n 1, 1) := by decide +kernel
theorem dX2_readLevel_13 : decode cX2_readLevel 13 = .ok (.iconst 1, 1) := by decide +kernel
theorem dX2_readLevel_14 : decode cX2_readLevel 14 = .ok (.iadd, 1) := by decide +kernel
theorem dX2_readLevel_15 : decode cX2_readLevel 15 = .ok (.iload_n 2, 1) := by decide +kernel
theorem dX2_readLevel_16 : decode cX2_readLevel 16 = .ok (.invokevirtual 37, 3) := by decide +kernel
theorem dX2_readLevel_19 : decode cX2_readLevel 19 = .ok (.ifCond .ne 5, 3) := by decide +kernel
theorem dX2_readLevel_22 : decode cX2_readLevel 22 = .ok (.iconst 0, 1) := by decide +kernel
theorem dX2_readLevel_23 : decode cX2_readLevel 23 = .ok (.ireturn, 1) := by decide +kernel
theorem dX2_readLevel_24 : decode cX2_readLevel 24 = .ok (.iload_n 1, 1) := by decide +kernel
theorem dX2_readLevel_25 : decode cX2_readLevel 25 = .ok (.iconst 2, 1) := by decide +kernel
theorem dX2_readLevel_26 : decode cX2_readLevel 26 = .ok (.if_icmp .ne 7, 3) := by decide +kernel
theorem dX2_readLevel_29 : decode cX2_readLevel 29 = .ok (.iconst 1, 1) := by decide +kernel
theorem dX2_readLevel_30 : decode cX2_readLevel 30 = .ok (.goto 5, 3) := by decide +kernel
theorem dX2_readLevel_33 : decode cX2_readLevel 33 = .ok (.bipush 50, 2) := by decide +kernel
theorem dX2_readLevel_35 : decode cX2_readLevel 35 = .ok (.istore_n 3, 1) := by decide +kernel
theorem dX2_readLevel_36 : decode cX2_readLevel 36 = .ok (.iconst 0, 1) := by decide +kernel
theorem dX2_readLevel_37 : decode cX2_readLevel 37 = .ok (.istore 4, 2) := by decide +kernel
theorem dX2_readLevel_39 : decode cX2_readLevel 39 = .ok (.iload 4, 2) := by decide +kernel
theorem dX2_readLevel_41 : decode cX2_readLevel 41 = .ok (.iload_n 3, 1) := by decide +kernel
theorem dX2_readLevel_42 : decode cX2_readLevel 42 = .ok (.if_icmp .ge 60, 3) := by decide +kernel
theorem dX2_readLevel_45 : decode cX2_readLevel 45 = .ok (.aload_n 0, 1) := by decide +kernel
theorem dX2_readLevel_46 : decode cX2_readLevel 46 = .ok (.invokevirtual 48, 3) := by decide +kernel
theorem dX2_readLevel_49 : decode cX2_readLevel 49 = .ok (.invokestatic 52, 3) := by decide +kernel
theorem dX2_readLevel_52 : decode cX2_readLevel 52 = .ok (.iload_n 1, 1) := by decide +kernel
theorem dX2_readLevel_53 : decode cX2_readLevel 53 = .ok (.if_icmp .ne 49, 3) := by decide +kernel
theorem dX2_readLevel_56 : decode cX2_readLevel 56 = .ok (.aload_n 0, 1) := by decide +kernel
theorem dX2_readLevel_57 : decode cX2_readLevel 57 = .ok (.invokevirtual 48, 3) := by decide +kernel
theorem dX2_readLevel_60 : decode cX2_readLevel 60 = .ok (.istore 5, 2) := by decide +kernel
theorem dX2_readLevel_62 : decode cX2_readLevel 62 = .ok (.aload_n 0, 1) := by decide +kernel
theorem dX2_readLevel_63 : decode cX2_readLevel 63 = .ok (.dup, 1) := by decide +kernel
theorem dX2_readLevel_64 : decode cX2_readLevel 64 = .ok (.getfield 31, 3) := by decide +kernel
theorem dX2_readLevel_67 : decode cX2_readLevel 67 = .ok (.iconst 1, 1) := by decide +kernel
theorem dX2_readLevel_68 : decode cX2_readLevel 68 = .ok (.iadd, 1) := by decide +kernel
theorem dX2_readLevel_69 : decode cX2_readLevel 69 = .ok (.putfield 31, 3) := by decide +kernel
theorem dX2_readLevel_72 : decode cX2_readLevel 72 = .ok (.aload_n 0, 1) := by decide +kernel
theorem dX2_readLevel_73 : decode cX2_readLevel 73 = .ok (.iload_n 1, 1) := by decide +kernel
theorem dX2_readLevel_74 : decode cX2_readLevel 74 = .ok (.iconst 1, 1) := by decide +kernel
theorem dX2_readLevel_75 : decode cX2_readLevel 75 = .ok (.iadd, 1) := by decide +kernel
theorem dX2_readLevel_76 : decode cX2_readLevel 76 = .ok (.iload_n 2, 1) := by decide +kernel
theorem dX2_readLevel_77 : decode cX2_readLevel 77 = .ok (.invokevirtual 37, 3) := by decide +kernel
theorem dX2_readLevel_80 : decode cX2_readLevel 80 = .ok (.ifCond .ne 5, 3) := by decide +kernel
theorem dX2_readLevel_83 : decode cX2_readLevel 83 = .ok (.iconst 0, 1) := by decide +kernel
theorem dX2_readLevel_84 : decode cX2_readLevel 84 = .ok (.ireturn, 1) := by decide +kernel
theorem dX2_readLevel_85 : decode cX2_readLevel 85 = .ok (.aload_n 0, 1) := by decide +kernel
theorem dX2_readLevel_86 : decode cX2_readLevel 86 = .ok (.getfield 20, 3) := by decide +kernel
theorem dX2_readLevel_89 : decode cX2_readLevel 89 = .ok (.iload 5, 2) := by decide +kernel
theorem dX2_readLevel_91 : decode cX2_readLevel 91 = .ok (.ineg, 1) := by decide +kernel
theorem dX2_readLevel_92 : decode cX2_readLevel 92 = .ok (.invokevirtual 56, 3) := by decide +kernel
theorem dX2_readLevel_95 : decode cX2_readLevel 95 = .ok (.pop, 1) := by decide +kernel
theorem dX2_readLevel_96 : decode cX2_readLevel 96 = .ok (.iinc 4 1, 3) := by decide +kernel
theorem dX2_readLevel_99 : decode cX2_readLevel 99 = .ok (.goto (-60), 3) := by decide +kernel
theorem dX2_readLevel_102 : decode cX2_readLevel 102 = .ok (.iconst 1, 1) := by decide +kernel
theorem dX2_readLevel_103 : decode cX2_readLevel 103 = .ok (.ireturn, 1) := by decide +kernel
theorem dX2_readFactor_0 : decode cX2_readFactor 0 = .ok (.aload_n 0, 1) := by decide +kernel
theorem dX2_readFactor_1 : decode cX2_readFactor 1 = .ok (.invokevirtual 48, 3) := by decide +kernel
theorem dX2_readFactor_4 : decode cX2_readFactor 4 = .ok (.istore_n 2, 1) := by decide +kernel
theorem dX2_readFactor_5 : decode cX2_readFactor 5 = .ok (.iload_n 2, 1) := by decide +kernel
theorem dX2_readFactor_6 : decode cX2_readFactor 6 = .ok (.invokestatic 59, 3) := by decide +kernel
theorem dX2_readFactor_9 : decode cX2_readFactor 9 = .ok (.ifCond .eq 9, 3) := by decide +kernel
theorem dX2_readFactor_12 : decode cX2_readFactor 12 = .ok (.aload_n 0, 1) := by decide +kernel
theorem dX2_readFactor_13 : decode cX2_readFactor 13 = .ok (.invokevirtual 62, 3) := by decide +kernel
theorem dX2_readFactor_16 : decode cX2_readFactor 16 = .ok (.iconst 1, 1) := by decide +kernel
theorem dX2_readFactor_17 : decode cX2_readFactor 17 = .ok (.ireturn, 1) := by decide +kernel
theorem dX2_readFactor_18 : decode cX2_readFactor 18 = .ok (.aload_n 0, 1) := by decide +kernel
theorem dX2_readFactor_19 : decode cX2_readFactor 19 = .ok (.iload_n 2, 1) := by decide +kernel
theorem dX2_readFactor_20 : decode cX2_readFactor 20 = .ok (.invokevirtual 65, 3) := by decide +kernel
theorem dX2_readFactor_23 : decode cX2_readFactor 23 = .ok (.istore_n 3, 1) := by decide +kernel
theorem dX2_readFactor_24 : decode cX2_readFactor 24 = .ok (.iload_n 3, 1) := by decide +kernel
theorem dX2_readFactor_25 : decode cX2_readFactor 25 = .ok (.ifCond .lt 26, 3) := by decide +kernel
theorem dX2_readFactor_28 : decode cX2_readFactor 28 = .ok (.aload_n 0, 1) := by decide +kernel
theorem dX2_readFactor_29 : decode cX2_readFactor 29 = .ok (.dup, 1) := by decide +kernel
theorem dX2_readFactor_30 : decode cX2_readFactor 30 = .ok (.getfield 31, 3) := by decide +kernel
theorem dX2_readFactor_33 : decode cX2_readFactor 33 = .ok (.iconst 1, 1) := by decide +kernel
theorem dX2_readFactor_34 : decode cX2_readFactor 34 = .ok (.iadd, 1) := by decide +kernel
theorem dX2_readFactor_35 : decode cX2_readFactor 35 = .ok (.putfield 31, 3) := by decide +kernel
theorem dX2_readFactor_38 : decode cX2_readFactor 38 = .ok (.aload_n 0, 1) := by decide +kernel
theorem dX2_readFactor_39 : decode cX2_readFactor 39 = .ok (.getfield 20, 3) := by decide +kernel
theorem dX2_readFactor_42 : decode cX2_readFactor 42 = .ok (.iconst (-1), 1) := by decide +kernel
theorem dX2_readFactor_43 : decode cX2_readFactor 43 = .ok (.iload_n 3, 1) := by decide +kernel
theorem dX2_readFactor_44 : decode cX2_readFactor 44 = .ok (.isub, 1) := by decide +kernel
theorem dX2_readFactor_45 : decode cX2_readFactor 45 = .ok (.invokevirtual 56, 3) := by decide +kernel
theorem dX2_readFactor_48 : decode cX2_readFactor 48 = .ok (.pop, 1) := by decide +kernel
theorem dX2_readFactor_49 : decode cX2_readFactor 49 = .ok (.iconst 1, 1) := by decide +kernel
theorem dX2_readFactor_50 : decode cX2_readFactor 50 = .ok (.ireturn, 1) := by decide +kernel
theorem dX2_readFactor_51 : decode cX2_readFactor 51 = .ok (.iload_n 2, 1) := by decide +kernel
theorem dX2_readFactor_52 : decode cX2_readFactor 52 = .ok (.bipush 33, 2) := by decide +kernel
theorem dX2_readFactor_54 : decode cX2_readFactor 54 = .ok (.if_icmp .eq 9, 3) := by decide +kernel
theorem dX2_readFactor_57 : decode cX2_readFactor 57 = .ok (.iload_n 2, 1) := by decide +kernel
theorem dX2_readFactor_58 : decode cX2_readFactor 58 = .ok (.bipush 40, 2) := by decide +kernel
theorem dX2_readFactor_60 : decode cX2_readFactor 60 = .ok (.if_icmp .ne 8, 3) := by decide +kernel
theorem dX2_readFactor_63 : decode cX2_readFactor 63 = .ok (.iload_n 1, 1) := by decide +kernel
theorem dX2_readFactor_64 : decode cX2_readFactor 64 = .ok (.iconst 5, 1) := by decide +kernel
theorem dX2_readFactor_65 : decode cX2_readFactor 65 = .ok (.if_icmp .lt 5, 3) := by decide +kernel
theorem dX2_readFactor_68 : decode cX2_readFactor 68 = .ok (.iconst 0, 1) := by decide +kernel
theorem dX2_readFactor_69 : decode cX2_readFactor 69 = .ok (.ireturn, 1) := by decide +kernel
theorem dX2_readFactor_70 : decode cX2_readFactor 70 = .ok (.aload_n 0, 1) := by decide +kernel
theorem dX2_readFactor_71 : decode cX2_readFactor 71 = .ok (.dup, 1) := by decide +kernel
theorem dX2_readFactor_72 : decode cX2_readFactor 72 = .ok (.getfield 31, 3) := by decide +kernel
theorem dX2_readFactor_75 : decode cX2_readFactor 75 = .ok (.iconst 1, 1) := by decide +kernel
theorem dX2_readFactor_76 : decode cX2_readFactor 76 = .ok (.iadd, 1) := by decide +kernel
theorem dX2_readFactor_77 : decode cX2_readFactor 77 = .ok (.putfield 31, 3) := by decide +kernel
theorem dX2_readFactor_80 : decode cX2_readFactor 80 = .ok (.iload_n 2, 1) := by decide +kernel
theorem dX2_readFactor_81 : decode cX2_readFactor 81 = .ok (.bipush 33, 2) := by decide +kernel
theorem dX2_readFactor_83 : decode cX2_readFactor 83 = .ok (.if_icmp .ne 13, 3) := by decide +kernel
theorem dX2_readFactor_86 : decode cX2_readFactor 86 = .ok (.aload_n 0, 1) := by decide +kernel
theorem dX2_readFactor_87 : decode cX2_readFactor 87 = .ok (.iload_n 1, 1) := by decide +kernel
theorem dX2_readFactor_88 : decode cX2_readFactor 88 = .ok (.iconst 1, 1) := by decide +kernel
theorem dX2_readFactor_89 : decode cX2_readFactor 89 = .ok (.iadd, 1) := by decide +kernel
theorem dX2_readFactor_90 : decode cX2_readFactor 90 = .ok (.invokevirtual 68, 3) := by decide +kernel
theorem dX2_readFactor_93 : decode cX2_readFactor 93 = .ok (.goto 10, 3) := by decide +kernel
theorem dX2_readFactor_96 : decode cX2_readFactor 96 = .ok (.aload_n 0, 1) := by decide +kernel
theorem dX2_readFactor_97 : decode cX2_readFactor 97 = .ok (.iload_n 1, 1) := by decide +kernel
theorem dX2_readFactor_98 : decode cX2_readFactor 98 = .ok (.iconst 1, 1) := by decide +kernel
theorem dX2_readFactor_99 : decode cX2_readFactor 99 = .ok (.iadd, 1) := by decide +kernel
theorem dX2_readFactor_100 : decode cX2_readFactor 100 = .ok (.invokevirtual 71, 3) := by decide +kernel
theorem dX2_readFactor_103 : decode cX2_readFactor 103 = .ok (.ireturn, 1) := by decide +kernel
theorem dX2_readDenied_0 : decode cX2_readDenied 0 = .ok (.aload_n 0, 1) := by decide +kernel
theorem dX2_readDenied_1 : decode cX2_readDenied 1 = .ok (.iload_n 1, 1) := by decide +kernel
theorem dX2_readDenied_2 : decode cX2_readDenied 2 = .ok (.invokevirtual 44, 3) := by decide +kernel
theorem dX2_readDenied_5 : decode cX2_readDenied 5 = .ok (.ifCond .ne 5, 3) := by decide +kernel
theorem dX2_readDenied_8 : decode cX2_readDenied 8 = .ok (.iconst 0, 1) := by decide +kernel
theorem dX2_readDenied_9 : decode cX2_readDenied 9 = .ok (.ireturn, 1) := by decide +kernel
theorem dX2_readDenied_10 : decode cX2_readDenied 10 = .ok (.aload_n 0, 1) := by decide +kernel
theorem dX2_readDenied_11 : decode cX2_readDenied 11 = .ok (.getfield 20, 3) := by decide +kernel
theorem dX2_readDenied_14 : decode cX2_readDenied 14 = .ok (.bipush (-33), 2) := by decide +kernel
theorem dX2_readDenied_16 : decode cX2_readDenied 16 = .ok (.invokevirtual 56, 3) := by decide +kernel
theorem dX2_readDenied_19 : decode cX2_readDenied 19 = .ok (.pop, 1) := by decide +kernel
theorem dX2_readDenied_20 : decode cX2_readDenied 20 = .ok (.iconst 1, 1) := by decide +kernel
theorem dX2_readDenied_21 : decode cX2_readDenied 21 = .ok (.ireturn, 1) := by decide +kernel
theorem dX2_readEnclosed_0 : decode cX2_readEnclosed 0 = .ok (.aload_n 0, 1) := by decide +kernel
theorem dX2_readEnclosed_1 : decode cX2_readEnclosed 1 = .ok (.iconst 0, 1) := by decide +kernel
theorem dX2_readEnclosed_2 : decode cX2_readEnclosed 2 = .ok (.iload_n 1, 1) := by decide +kernel
theorem dX2_readEnclosed_3 : decode cX2_readEnclosed 3 = .ok (.invokevirtual 37, 3) := by decide +kernel
theorem dX2_readEnclosed_6 : decode cX2_readEnclosed 6 = .ok (.ifCond .eq 12, 3) := by decide +kernel
theorem dX2_readEnclosed_9 : decode cX2_readEnclosed 9 = .ok (.aload_n 0, 1) := by decide +kernel
theorem dX2_readEnclosed_10 : decode cX2_readEnclosed 10 = .ok (.invokevirtual 48, 3) := by decide +kernel
theorem dX2_readEnclosed_13 : decode cX2_readEnclosed 13 = .ok (.bipush 41, 2) := by decide +kernel
theorem dX2_readEnclosed_15 : decode cX2_readEnclosed 15 = .ok (.if_icmp .eq 5, 3) := by decide +kernel
theorem dX2_readEnclosed_18 : decode cX2_readEnclosed 18 = .ok (.iconst 0, 1) := by decide +kernel
theorem dX2_readEnclosed_19 : decode cX2_readEnclosed 19 = .ok (.ireturn, 1) := by decide +kernel
theorem dX2_readEnclosed_20 : decode cX2_readEnclosed 20 = .ok (.aload_n 0, 1) := by decide +kernel
theorem dX2_readEnclosed_21 : decode cX2_readEnclosed 21 = .ok (.dup, 1) := by decide +kernel
theorem dX2_readEnclosed_22 : decode cX2_readEnclosed 22 = .ok (.getfield 31, 3) := by decide +kernel
theorem dX2_readEnclosed_25 : decode cX2_readEnclosed 25 = .ok (.iconst 1, 1) := by decide +kernel
theorem dX2_readEnclosed_26 : decode cX2_readEnclosed 26 = .ok (.iadd, 1) := by decide +kernel
theorem dX2_readEnclosed_27 : decode cX2_readEnclosed 27 = .ok (.putfield 31, 3) := by decide +kernel
theorem dX2_readEnclosed_30 : decode cX2_readEnclosed 30 = .ok (.iconst 1, 1) := by decide +kernel
theorem dX2_readEnclosed_31 : decode cX2_readEnclosed 31 = .ok (.ireturn, 1) := by decide +kernel
theorem dX2_readNumber_0 : decode cX2_readNumber 0 = .ok (.iconst 0, 1) := by decide +kernel
theorem dX2_readNumber_1 : decode cX2_readNumber 1 = .ok (.istore_n 1, 1) := by decide +kernel
theorem dX2_readNumber_2 : decode cX2_readNumber 2 = .ok (.iconst 0, 1) := by decide +kernel
theorem dX2_readNumber_3 : decode cX2_readNumber 3 = .ok (.istore_n 2, 1) := by decide +kernel
theorem dX2_readNumber_4 : decode cX2_readNumber 4 = .ok (.iload_n 2, 1) := by decide +kernel
theorem dX2_readNumber_5 : decode cX2_readNumber 5 = .ok (.iconst 4, 1) := by decide +kernel
theorem dX2_readNumber_6 : decode cX2_readNumber 6 = .ok (.if_icmp .ge 42, 3) := by decide +kernel
theorem dX2_readNumber_9 : decode cX2_readNumber 9 = .ok (.aload_n 0, 1) := by decide +kernel
theorem dX2_readNumber_10 : decode cX2_readNumber 10 = .ok (.invokevirtual 48, 3) := by decide +kernel
theorem dX2_readNumber_13 : decode cX2_readNumber 13 = .ok (.invokestatic 59, 3) := by decide +kernel
theorem dX2_readNumber_16 : decode cX2_readNumber 16 = .ok (.ifCond .eq 32, 3) := by decide +kernel
theorem dX2_readNumber_19 : decode cX2_readNumber 19 = .ok (.iload_n 1, 1) := by decide +kernel
theorem dX2_readNumber_20 : decode cX2_readNumber 20 = .ok (.bipush 10, 2) := by decide +kernel
theorem dX2_readNumber_22 : decode cX2_readNumber 22 = .ok (.imul, 1) := by decide +kernel
theorem dX2_readNumber_23 : decode cX2_readNumber 23 = .ok (.aload_n 0, 1) := by decide +kernel
theorem dX2_readNumber_24 : decode cX2_readNumber 24 = .ok (.invokevirtual 48, 3) := by decide +kernel
theorem dX2_readNumber_27 : decode cX2_readNumber 27 = .ok (.bipush 48, 2) := by decide +kernel
theorem dX2_readNumber_29 : decode cX2_readNumber 29 = .ok (.isub, 1) := by decide +kernel
theorem dX2_readNumber_30 : decode cX2_readNumber 30 = .ok (.iadd, 1) := by decide +kernel
theorem dX2_readNumber_31 : decode cX2_readNumber 31 = .ok (.istore_n 1, 1) := by decide +kernel
theorem dX2_readNumber_32 : decode cX2_readNumber 32 = .ok (.aload_n 0, 1) := by decide +kernel
theorem dX2_readNumber_33 : decode cX2_readNumber 33 = .ok (.dup, 1) := by decide +kernel
theorem dX2_readNumber_34 : decode cX2_readNumber 34 = .ok (.getfield 31, 3) := by decide +kernel
theorem dX2_readNumber_37 : decode cX2_readNumber 37 = .ok (.iconst 1, 1) := by decide +kernel
theorem dX2_readNumber_38 : decode cX2_readNumber 38 = .ok (.iadd, 1) := by decide +kernel
theorem dX2_readNumber_39 : decode cX2_readNumber 39 = .ok (.putfield 31, 3) := by decide +kernel
theorem dX2_readNumber_42 : decode cX2_readNumber 42 = .ok (.iinc 2 1, 3) := by decide +kernel
theorem dX2_readNumber_45 : decode cX2_readNumber 45 = .ok (.goto (-41), 3) := by decide +kernel
theorem dX2_readNumber_48 : decode cX2_readNumber 48 = .ok (.aload_n 0, 1) := by decide +kernel
theorem dX2_readNumber_49 : decode cX2_readNumber 49 = .ok (.getfield 20, 3) := by decide +kernel
theorem dX2_readNumber_52 : decode cX2_readNumber 52 = .ok (.iload_n 1, 1) := by decide +kernel
theorem dX2_readNumber_53 : decode cX2_readNumber 53 = .ok (.invokevirtual 56, 3) := by decide +kernel
theorem dX2_readNumber_56 : decode cX2_readNumber 56 = .ok (.pop, 1) := by decide +kernel
theorem dX2_readNumber_57 : decode cX2_readNumber 57 = .ok (.return_, 1) := by decide +kernel
theorem dX2_next_0 : decode cX2_next 0 = .ok (.aload_n 0, 1) := by decide +kernel
theorem dX2_next_1 : decode cX2_next 1 = .ok (.getfield 14, 3) := by decide +kernel
theorem dX2_next_4 : decode cX2_next 4 = .ok (.aload_n 0, 1) := by decide +kernel
theorem dX2_next_5 : decode cX2_next 5 = .ok (.getfield 31, 3) := by decide +kernel
theorem dX2_next_8 : decode cX2_next 8 = .ok (.invokevirtual 74, 3) := by decide +kernel
theorem dX2_next_11 : decode cX2_next 11 = .ok (.ifCond .eq 17, 3) := by decide +kernel
theorem dX2_next_14 : decode cX2_next 14 = .ok (.aload_n 0, 1) := by decide +kernel
theorem dX2_next_15 : decode cX2_next 15 = .ok (.getfield 14, 3) := by decide +kernel
theorem dX2_next_18 : decode cX2_next 18 = .ok (.aload_n 0, 1) := by decide +kernel
theorem dX2_next_19 : decode cX2_next 19 = .ok (.getfield 31, 3) := by decide +kernel
theorem dX2_next_22 : decode cX2_next 22 = .ok (.invokevirtual 77, 3) := by decide +kernel
theorem dX2_next_25 : decode cX2_next 25 = .ok (.goto 4, 3) := by decide +kernel
theorem dX2_next_28 : decode cX2_next 28 = .ok (.iconst (-1), 1) := by decide +kernel
theorem dX2_next_29 : decode cX2_next 29 = .ok (.ireturn, 1) := by decide +kernel
theorem dX2_nameOf_0 : decode cX2_nameOf 0 = .ok (.iconst 0, 1) := by decide +kernel
theorem dX2_nameOf_1 : decode cX2_nameOf 1 = .ok (.istore_n 2, 1) := by decide +kernel
theorem dX2_nameOf_2 : decode cX2_nameOf 2 = .ok (.iload_n 2, 1) := by decide +kernel
theorem dX2_nameOf_3 : decode cX2_nameOf 3 = .ok (.iconst 3, 1) := by decide +kernel
theorem dX2_nameOf_4 : decode cX2_nameOf 4 = .ok (.if_icmp .ge 41, 3) := by decide +kernel
theorem dX2_nameOf_7 : decode cX2_nameOf 7 = .ok (.aload_n 0, 1) := by decide +kernel
theorem dX2_nameOf_8 : decode cX2_nameOf 8 = .ok (.getfield 27, 3) := by decide +kernel
theorem dX2_nameOf_11 : decode cX2_nameOf 11 = .ok (.iconst 3, 1) := by decide +kernel
theorem dX2_nameOf_12 : decode cX2_nameOf 12 = .ok (.imul, 1) := by decide +kernel
theorem dX2_nameOf_13 : decode cX2_nameOf 13 = .ok (.iload_n 2, 1) := by decide +kernel
theorem dX2_nameOf_14 : decode cX2_nameOf 14 = .ok (.iadd, 1) := by decide +kernel
theorem dX2_nameOf_15 : decode cX2_nameOf 15 = .ok (.istore_n 3, 1) := by decide +kernel
theorem dX2_nameOf_16 : decode cX2_nameOf 16 = .ok (.iload_n 3, 1) := by decide +kernel
theorem dX2_nameOf_17 : decode cX2_nameOf 17 = .ok (.ifCond .lt 22, 3) := by decide +kernel
theorem dX2_nameOf_20 : decode cX2_nameOf 20 = .ok (.iload_n 3, 1) := by decide +kernel
theorem dX2_nameOf_21 : decode cX2_nameOf 21 = .ok (.getstatic 80, 3) := by decide +kernel
theorem dX2_nameOf_24 : decode cX2_nameOf 24 = .ok (.arraylength, 1) := by decide +kernel
theorem dX2_nameOf_25 : decode cX2_nameOf 25 = .ok (.if_icmp .ge 14, 3) := by decide +kernel
theorem dX2_nameOf_28 : decode cX2_nameOf 28 = .ok (.getstatic 80, 3) := by decide +kernel
theorem dX2_nameOf_31 : decode cX2_nameOf 31 = .ok (.iload_n 3, 1) := by decide +kernel
theorem dX2_nameOf_32 : decode cX2_nameOf 32 = .ok (.caload, 1) := by decide +kernel
theorem dX2_nameOf_33 : decode cX2_nameOf 33 = .ok (.iload_n 1, 1) := by decide +kernel
theorem dX2_nameOf_34 : decode cX2_nameOf 34 = .ok (.if_icmp .ne 5, 3) := by decide +kernel
theorem dX2_nameOf_37 : decode cX2_nameOf 37 = .ok (.iload_n 2, 1) := by decide +kernel
theorem dX2_nameOf_38 : decode cX2_nameOf 38 = .ok (.ireturn, 1) := by decide +kernel
theorem dX2_nameOf_39 : decode cX2_nameOf 39 = .ok (.iinc 2 1, 3) := by decide +kernel
theorem dX2_nameOf_42 : decode cX2_nameOf 42 = .ok (.goto (-40), 3) := by decide +kernel
theorem dX2_nameOf_45 : decode cX2_nameOf 45 = .ok (.iconst (-1), 1) := by decide +kernel
theorem dX2_nameOf_46 : decode cX2_nameOf 46 = .ok (.ireturn, 1) := by decide +kernel
theorem dX2_isDigit_0 : decode cX2_isDigit 0 = .ok (.iload_n 0, 1) := by decide +kernel
theorem dX2_isDigit_1 : decode cX2_isDigit 1 = .ok (.bipush 48, 2) := by decide +kernel
theorem dX2_isDigit_3 : decode cX2_isDigit 3 = .ok (.if_icmp .lt 13, 3) := by decide +kernel
theorem dX2_isDigit_6 : decode cX2_isDigit 6 = .ok (.iload_n 0, 1) := by decide +kernel
theorem dX2_isDigit_7 : decode cX2_isDigit 7 = .ok (.bipush 57, 2) := by decide +kernel
theorem dX2_isDigit_9 : decode cX2_isDigit 9 = .ok (.if_icmp .gt 7, 3) := by decide +kernel
theorem dX2_isDigit_12 : decode cX2_isDigit 12 = .ok (.iconst 1, 1) := by decide +kernel
theorem dX2_isDigit_13 : decode cX2_isDigit 13 = .ok (.goto 4, 3) := by decide +kernel
theorem dX2_isDigit_16 : decode cX2_isDigit 16 = .ok (.iconst 0, 1) := by decide +kernel
theorem dX2_isDigit_17 : decode cX2_isDigit 17 = .ok (.ireturn, 1) := by decide +kernel
theorem dX2_levelOf_0 : decode cX2_levelOf 0 = .ok (.iload_n 0, 1) := by decide +kernel
theorem dX2_levelOf_1 : decode cX2_levelOf 1 = .ok (.lookupswitch 101 #[(37, 99), (38, 93), (42, 99), (43, 97), (45, 97), (47, 99), (60, 95), (61, 95), (62, 95), (124, 91)], 91) := by decide +kernel
theorem dX2_levelOf_92 : decode cX2_levelOf 92 = .ok (.iconst 0, 1) := by decide +kernel
theorem dX2_levelOf_93 : decode cX2_levelOf 93 = .ok (.ireturn, 1) := by decide +kernel
theorem dX2_levelOf_94 : decode cX2_levelOf 94 = .ok (.iconst 1, 1) := by decide +kernel
theorem dX2_levelOf_95 : decode cX2_levelOf 95 = .ok (.ireturn, 1) := by decide +kernel
theorem dX2_levelOf_96 : decode cX2_levelOf 96 = .ok (.iconst 2, 1) := by decide +kernel
theorem dX2_levelOf_97 : decode cX2_levelOf 97 = .ok (.ireturn, 1) := by decide +kernel
theorem dX2_levelOf_98 : decode cX2_levelOf 98 = .ok (.iconst 3, 1) := by decide +kernel
theorem dX2_levelOf_99 : decode cX2_levelOf 99 = .ok (.ireturn, 1) := by decide +kernel
theorem dX2_levelOf_100 : decode cX2_levelOf 100 = .ok (.iconst 4, 1) := by decide +kernel
theorem dX2_levelOf_101 : decode cX2_levelOf 101 = .ok (.ireturn, 1) := by decide +kernel
theorem dX2_levelOf_102 : decode cX2_levelOf 102 = .ok (.iconst (-1), 1) := by decide +kernel
theorem dX2_levelOf_103 : decode cX2_levelOf 103 = .ok (.ireturn, 1) := by decide +kernel
theorem dX3_init_0 : decode cX3_init 0 = .ok (.aload_n 0, 1) := by decide +kernel
theorem dX3_init_1 : decode cX3_init 1 = .ok (.invokespecial 1, 3) := by decide +kernel
theorem dX3_init_4 : decode cX3_init 4 = .ok (.aload_n 0, 1) := by decide +kernel
theorem dX3_init_5 : decode cX3_init 5 = .ok (.iconst 0, 1) := by decide +kernel
theorem dX3_init_6 : decode cX3_init 6 = .ok (.iload_n 1, 1) := by decide +kernel
theorem dX3_init_7 : decode cX3_init 7 = .ok (.invokestatic 7, 3) := by decide +kernel
theorem dX3_init_10 : decode cX3_init 10 = .ok (.newarray .int, 2) := by decide +kernel
theorem dX3_init_12 : decode cX3_init 12 = .ok (.putfield 13, 3) := by decide +kernel
theorem dX3_init_15 : decode cX3_init 15 = .ok (.return_, 1) := by decide +kernel
theorem dX3_holds_0 : decode cX3_holds 0 = .ok (.iload_n 1, 1) := by decide +kernel
theorem dX3_holds_1 : decode cX3_holds 1 = .ok (.ifCond .lt 15, 3) := by decide +kernel
theorem dX3_holds_4 : decode cX3_holds 4 = .ok (.iload_n 1, 1) := by decide +kernel
theorem dX3_holds_5 : decode cX3_holds 5 = .ok (.aload_n 0, 1) := by decide +kernel
theorem dX3_holds_6 : decode cX3_holds 6 = .ok (.getfield 19, 3) := by decide +kernel
theorem dX3_holds_9 : decode cX3_holds 9 = .ok (.if_icmp .ge 7, 3) := by decide +kernel
theorem dX3_holds_12 : decode cX3_holds 12 = .ok (.iconst 1, 1) := by decide +kernel
theorem dX3_holds_13 : decode cX3_holds 13 = .ok (.goto 4, 3) := by decide +kernel
theorem dX3_holds_16 : decode cX3_holds 16 = .ok (.iconst 0, 1) := by decide +kernel
theorem dX3_holds_17 : decode cX3_holds 17 = .ok (.ireturn, 1) := by decide +kernel
theorem dX3_holdsRun_0 : decode cX3_holdsRun 0 = .ok (.iload_n 2, 1) := by decide +kernel
theorem dX3_holdsRun_1 : decode cX3_holdsRun 1 = .ok (.ifCond .lt 29, 3) := by decide +kernel
theorem dX3_holdsRun_4 : decode cX3_holdsRun 4 = .ok (.iload_n 2, 1) := by decide +kernel
theorem dX3_holdsRun_5 : decode cX3_holdsRun 5 = .ok (.aload_n 0, 1) := by decide +kernel
theorem dX3_holdsRun_6 : decode cX3_holdsRun 6 = .ok (.getfield 19, 3) := by decide +kernel
theorem dX3_holdsRun_9 : decode cX3_holdsRun 9 = .ok (.if_icmp .gt 21, 3) := by decide +kernel
theorem dX3_holdsRun_12 : decode cX3_holdsRun 12 = .ok (.iload_n 1, 1) := by decide +kernel
theorem dX3_holdsRun_13 : decode cX3_holdsRun 13 = .ok (.ifCond .lt 17, 3) := by decide +kernel
theorem dX3_holdsRun_16 : decode cX3_holdsRun 16 = .ok (.iload_n 1, 1) := by decide +kernel
theorem dX3_holdsRun_17 : decode cX3_holdsRun 17 = .ok (.aload_n 0, 1) := by decide +kernel
theorem dX3_holdsRun_18 : decode cX3_holdsRun 18 = .ok (.getfield 19, 3) := by decide +kernel
theorem dX3_holdsRun_21 : decode cX3_holdsRun 21 = .ok (.iload_n 2, 1) := by decide +kernel
theorem dX3_holdsRun_22 : decode cX3_holdsRun 22 = .ok (.isub, 1) := by decide +kernel
theorem dX3_holdsRun_23 : decode cX3_holdsRun 23 = .ok (.if_icmp .gt 7, 3) := by decide +kernel
theorem dX3_holdsRun_26 : decode cX3_holdsRun 26 = .ok (.iconst 1, 1) := by decide +kernel
theorem dX3_holdsRun_27 : decode cX3_holdsRun 27 = .ok (.goto 4, 3) := by decide +kernel
theorem dX3_holdsRun_30 : decode cX3_holdsRun 30 = .ok (.iconst 0, 1) := by decide +kernel
theorem dX3_holdsRun_31 : decode cX3_holdsRun 31 = .ok (.ireturn, 1) := by decide +kernel
theorem dX3_get_0 : decode cX3_get 0 = .ok (.iload_n 1, 1) := by decide +kernel
theorem dX3_get_1 : decode cX3_get 1 = .ok (.ifCond .lt 20, 3) := by decide +kernel
theorem dX3_get_4 : decode cX3_get 4 = .ok (.iload_n 1, 1) := by decide +kernel
theorem dX3_get_5 : decode cX3_get 5 = .ok (.aload_n 0, 1) := by decide +kernel
theorem dX3_get_6 : decode cX3_get 6 = .ok (.getfield 19, 3) := by decide +kernel
theorem dX3_get_9 : decode cX3_get 9 = .ok (.if_icmp .ge 12, 3) := by decide +kernel
theorem dX3_get_12 : decode cX3_get 12 = .ok (.aload_n 0, 1) := by decide +kernel
theorem dX3_get_13 : decode cX3_get 13 = .ok (.getfield 13, 3) := by decide +kernel
theorem dX3_get_16 : decode cX3_get 16 = .ok (.iload_n 1, 1) := by decide +kernel
theorem dX3_get_17 : decode cX3_get 17 = .ok (.iaload, 1) := by decide +kernel
theorem dX3_get_18 : decode cX3_get 18 = .ok (.goto 4, 3) := by decide +kernel
theorem dX3_get_21 : decode cX3_get 21 = .ok (.iconst 0, 1) := by decide +kernel
theorem dX3_get_22 : decode cX3_get 22 = .ok (.ireturn, 1) := by decide +kernel
theorem dX3_append_0 : decode cX3_append 0 = .ok (.aload_n 0, 1) := by decide +kernel
theorem dX3_append_1 : decode cX3_append 1 = .ok (.getfield 19, 3) := by decide +kernel
theorem dX3_append_4 : decode cX3_append 4 = .ok (.aload_n 0, 1) := by decide +kernel
theorem dX3_append_5 : decode cX3_append 5 = .ok (.getfield 13, 3) := by decide +kernel
theorem dX3_append_8 : decode cX3_append 8 = .ok (.arraylength, 1) := by decide +kernel
theorem dX3_append_9 : decode cX3_append 9 = .ok (.if_icmp .lt 5, 3) := by decide +kernel
theorem dX3_append_12 : decode cX3_append 12 = .ok (.iconst 0, 1) := by decide +kernel
theorem dX3_append_13 : decode cX3_append 13 = .ok (.ireturn, 1) := by decide +kernel
theorem dX3_append_14 : decode cX3_append 14 = .ok (.aload_n 0, 1) := by decide +kernel
theorem dX3_append_15 : decode cX3_append 15 = .ok (.getfield 13, 3) := by decide +kernel
theorem dX3_append_18 : decode cX3_append 18 = .ok (.aload_n 0, 1) := by decide +kernel
theorem dX3_append_19 : decode cX3_append 19 = .ok (.getfield 19, 3) := by decide +kernel
theorem dX3_append_22 : decode cX3_append 22 = .ok (.iload_n 1, 1) := by decide +kernel
theorem dX3_append_23 : decode cX3_append 23 = .ok (.iastore, 1) := by decide +kernel
theorem dX3_append_24 : decode cX3_append 24 = .ok (.aload_n 0, 1) := by decide +kernel
theorem dX3_append_25 : decode cX3_append 25 = .ok (.dup, 1) := by decide +kernel
theorem dX3_append_26 : decode cX3_append 26 = .ok (.getfield 19, 3) := by decide +kernel
theorem dX3_append_29 : decode cX3_append 29 = .ok (.iconst 1, 1) := by decide +kernel
theorem dX3_append_30 : decode cX3_append 30 = .ok (.iadd, 1) := by decide +kernel
theorem dX3_append_31 : decode cX3_append 31 = .ok (.putfield 19, 3) := by decide +kernel
theorem dX3_append_34 : decode cX3_append 34 = .ok (.iconst 1, 1) := by decide +kernel
theorem dX3_append_35 : decode cX3_append 35 = .ok (.ireturn, 1) := by decide +kernel
theorem dX3_takeLast_0 : decode cX3_takeLast 0 = .ok (.aload_n 0, 1) := by decide +kernel
theorem dX3_takeLast_1 : decode cX3_takeLast 1 = .ok (.getfield 19, 3) := by decide +kernel
theorem dX3_takeLast_4 : decode cX3_takeLast 4 = .ok (.ifCond .gt 5, 3) := by decide +kernel
theorem dX3_takeLast_7 : decode cX3_takeLast 7 = .ok (.iconst 0, 1) := by decide +kernel
theorem dX3_takeLast_8 : decode cX3_takeLast 8 = .ok (.ireturn, 1) := by decide +kernel
theorem dX3_takeLast_9 : decode cX3_takeLast 9 = .ok (.aload_n 0, 1) := by decide +kernel
theorem dX3_takeLast_10 : decode cX3_takeLast 10 = .ok (.dup, 1) := by decide +kernel
theorem dX3_takeLast_11 : decode cX3_takeLast 11 = .ok (.getfield 19, 3) := by decide +kernel
theorem dX3_takeLast_14 : decode cX3_takeLast 14 = .ok (.iconst 1, 1) := by decide +kernel
theorem dX3_takeLast_15 : decode cX3_takeLast 15 = .ok (.isub, 1) := by decide +kernel
theorem dX3_takeLast_16 : decode cX3_takeLast 16 = .ok (.putfield 19, 3) := by decide +kernel
theorem dX3_takeLast_19 : decode cX3_takeLast 19 = .ok (.aload_n 0, 1) := by decide +kernel
theorem dX3_takeLast_20 : decode cX3_takeLast 20 = .ok (.getfield 13, 3) := by decide +kernel
theorem dX3_takeLast_23 : decode cX3_takeLast 23 = .ok (.aload_n 0, 1) := by decide +kernel
theorem dX3_takeLast_24 : decode cX3_takeLast 24 = .ok (.getfield 19, 3) := by decide +kernel
theorem dX3_takeLast_27 : decode cX3_takeLast 27 = .ok (.iaload, 1) := by decide +kernel
theorem dX3_takeLast_28 : decode cX3_takeLast 28 = .ok (.ireturn, 1) := by decide +kernel
theorem dX3_replace_0 : decode cX3_replace 0 = .ok (.aload_n 0, 1) := by decide +kernel
theorem dX3_replace_1 : decode cX3_replace 1 = .ok (.iload_n 1, 1) := by decide +kernel
theorem dX3_replace_2 : decode cX3_replace 2 = .ok (.invokevirtual 23, 3) := by decide +kernel
theorem dX3_replace_5 : decode cX3_replace 5 = .ok (.ifCond .eq 10, 3) := by decide +kernel
theorem dX3_replace_8 : decode cX3_replace 8 = .ok (.aload_n 0, 1) := by decide +kernel
theorem dX3_replace_9 : decode cX3_replace 9 = .ok (.getfield 13, 3) := by decide +kernel
theorem dX3_replace_12 : decode cX3_replace 12 = .ok (.iload_n 1, 1) := by decide +kernel
theorem dX3_replace_13 : decode cX3_replace 13 = .ok (.iload_n 2, 1) := by decide +kernel
theorem dX3_replace_14 : decode cX3_replace 14 = .ok (.iastore, 1) := by decide +kernel
theorem dX3_replace_15 : decode cX3_replace 15 = .ok (.return_, 1) := by decide +kernel
theorem dX3_replaceRun_0 : decode cX3_replaceRun 0 = .ok (.aload_n 0, 1) := by decide +kernel
theorem dX3_replaceRun_1 : decode cX3_replaceRun 1 = .ok (.iload_n 1, 1) := by decide +kernel
theorem dX3_replaceRun_2 : decode cX3_replaceRun 2 = .ok (.iload 4, 2) := by decide +kernel
theorem dX3_replaceRun_4 : decode cX3_replaceRun 4 = .ok (.invokevirtual 27, 3) := by decide +kernel
theorem dX3_replaceRun_7 : decode cX3_replaceRun 7 = .ok (.ifCond .eq 28, 3) := by decide +kernel
theorem dX3_replaceRun_10 : decode cX3_replaceRun 10 = .ok (.aload_n 2, 1) := by decide +kernel
theorem dX3_replaceRun_11 : decode cX3_replaceRun 11 = .ok (.iload_n 3, 1) := by decide +kernel
theorem dX3_replaceRun_12 : decode cX3_replaceRun 12 = .ok (.iload 4, 2) := by decide +kernel
theorem dX3_replaceRun_14 : decode cX3_replaceRun 14 = .ok (.invokevirtual 27, 3) := by decide +kernel
theorem dX3_replaceRun_17 : decode cX3_replaceRun 17 = .ok (.ifCond .eq 18, 3) := by decide +kernel
theorem dX3_replaceRun_20 : decode cX3_replaceRun 20 = .ok (.aload_n 2, 1) := by decide +kernel
theorem dX3_replaceRun_21 : decode cX3_replaceRun 21 = .ok (.getfield 13, 3) := by decide +kernel
theorem dX3_replaceRun_24 : decode cX3_replaceRun 24 = .ok (.iload_n 3, 1) := by decide +kernel
theorem dX3_replaceRun_25 : decode cX3_replaceRun 25 = .ok (.aload_n 0, 1) := by decide +kernel
theorem dX3_replaceRun_26 : decode cX3_replaceRun 26 = .ok (.getfield 13, 3) := by decide +kernel
theorem dX3_replaceRun_29 : decode cX3_replaceRun 29 = .ok (.iload_n 1, 1) := by decide +kernel
theorem dX3_replaceRun_30 : decode cX3_replaceRun 30 = .ok (.iload 4, 2) := by decide +kernel
theorem dX3_replaceRun_32 : decode cX3_replaceRun 32 = .ok (.invokestatic 31, 3) := by decide +kernel
theorem dX3_replaceRun_35 : decode cX3_replaceRun 35 = .ok (.return_, 1) := by decide +kernel
theorem dX3_clear_0 : decode cX3_clear 0 = .ok (.aload_n 0, 1) := by decide +kernel
theorem dX3_clear_1 : decode cX3_clear 1 = .ok (.iconst 0, 1) := by decide +kernel
theorem dX3_clear_2 : decode cX3_clear 2 = .ok (.putfield 19, 3) := by decide +kernel
theorem dX3_clear_5 : decode cX3_clear 5 = .ok (.return_, 1) := by decide +kernel
theorem dX3_fillWithZeros_0 : decode cX3_fillWithZeros 0 = .ok (.aload_n 0, 1) := by decide +kernel
theorem dX3_fillWithZeros_1 : decode cX3_fillWithZeros 1 = .ok (.iconst 0, 1) := by decide +kernel
theorem dX3_fillWithZeros_2 : decode cX3_fillWithZeros 2 = .ok (.iload_n 1, 1) := by decide +kernel
theorem dX3_fillWithZeros_3 : decode cX3_fillWithZeros 3 = .ok (.aload_n 0, 1) := by decide +kernel
theorem dX3_fillWithZeros_4 : decode cX3_fillWithZeros 4 = .ok (.getfield 13, 3) := by decide +kernel
theorem dX3_fillWithZeros_7 : decode cX3_fillWithZeros 7 = .ok (.arraylength, 1) := by decide +kernel
theorem dX3_fillWithZeros_8 : decode cX3_fillWithZeros 8 = .ok (.invokestatic 37, 3) := by decide +kernel
theorem dX3_fillWithZeros_11 : decode cX3_fillWithZeros 11 = .ok (.invokestatic 7, 3) := by decide +kernel
theorem dX3_fillWithZeros_14 : decode cX3_fillWithZeros 14 = .ok (.putfield 19, 3) := by decide +kernel
theorem dX3_fillWithZeros_17 : decode cX3_fillWithZeros 17 = .ok (.iconst 0, 1) := by decide +kernel
theorem dX3_fillWithZeros_18 : decode cX3_fillWithZeros 18 = .ok (.istore_n 2, 1) := by decide +kernel
theorem dX3_fillWithZeros_19 : decode cX3_fillWithZeros 19 = .ok (.iload_n 2, 1) := by decide +kernel
theorem dX3_fillWithZeros_20 : decode cX3_fillWithZeros 20 = .ok (.aload_n 0, 1) := by decide +kernel
theorem dX3_fillWithZeros_21 : decode cX3_fillWithZeros 21 = .ok (.getfield 19, 3) := by decide +kernel
theorem dX3_fillWithZeros_24 : decode cX3_fillWithZeros 24 = .ok (.if_icmp .ge 16, 3) := by decide +kernel
theorem dX3_fillWithZeros_27 : decode cX3_fillWithZeros 27 = .ok (.aload_n 0, 1) := by decide +kernel
theorem dX3_fillWithZeros_28 : decode cX3_fillWithZeros 28 = .ok (.getfield 13, 3) := by decide +kernel
theorem dX3_fillWithZeros_31 : decode cX3_fillWithZeros 31 = .ok (.iload_n 2, 1) := by decide +kernel
theorem dX3_fillWithZeros_32 : decode cX3_fillWithZeros 32 = .ok (.iconst 0, 1) := by decide +kernel
theorem dX3_fillWithZeros_33 : decode cX3_fillWithZeros 33 = .ok (.iastore, 1) := by decide +kernel
theorem dX3_fillWithZeros_34 : decode cX3_fillWithZeros 34 = .ok (.iinc 2 1, 3) := by decide +kernel
theorem dX3_fillWithZeros_37 : decode cX3_fillWithZeros 37 = .ok (.goto (-18), 3) := by decide +kernel
theorem dX3_fillWithZeros_40 : decode cX3_fillWithZeros 40 = .ok (.return_, 1) := by decide +kernel
theorem dX3_copyFrom_0 : decode cX3_copyFrom 0 = .ok (.aload_n 0, 1) := by decide +kernel
theorem dX3_copyFrom_1 : decode cX3_copyFrom 1 = .ok (.aload_n 1, 1) := by decide +kernel
theorem dX3_copyFrom_2 : decode cX3_copyFrom 2 = .ok (.getfield 19, 3) := by decide +kernel
theorem dX3_copyFrom_5 : decode cX3_copyFrom 5 = .ok (.aload_n 0, 1) := by decide +kernel
theorem dX3_copyFrom_6 : decode cX3_copyFrom 6 = .ok (.getfield 13, 3) := by decide +kernel
theorem dX3_copyFrom_9 : decode cX3_copyFrom 9 = .ok (.arraylength, 1) := by decide +kernel
theorem dX3_copyFrom_10 : decode cX3_copyFrom 10 = .ok (.invokestatic 37, 3) := by decide +kernel
theorem dX3_copyFrom_13 : decode cX3_copyFrom 13 = .ok (.putfield 19, 3) := by decide +kernel
theorem dX3_copyFrom_16 : decode cX3_copyFrom 16 = .ok (.aload_n 1, 1) := by decide +kernel
theorem dX3_copyFrom_17 : decode cX3_copyFrom 17 = .ok (.getfield 13, 3) := by decide +kernel
theorem dX3_copyFrom_20 : decode cX3_copyFrom 20 = .ok (.iconst 0, 1) := by decide +kernel
theorem dX3_copyFrom_21 : decode cX3_copyFrom 21 = .ok (.aload_n 0, 1) := by decide +kernel
theorem dX3_copyFrom_22 : decode cX3_copyFrom 22 = .ok (.getfield 13, 3) := by decide +kernel
theorem dX3_copyFrom_25 : decode cX3_copyFrom 25 = .ok (.iconst 0, 1) := by decide +kernel
theorem dX3_copyFrom_26 : decode cX3_copyFrom 26 = .ok (.aload_n 0, 1) := by decide +kernel
theorem dX3_copyFrom_27 : decode cX3_copyFrom 27 = .ok (.getfield 19, 3) := by decide +kernel
theorem dX3_copyFrom_30 : decode cX3_copyFrom 30 = .ok (.invokestatic 31, 3) := by decide +kernel
theorem dX3_copyFrom_33 : decode cX3_copyFrom 33 = .ok (.return_, 1) := by decide +kernel
theorem dX4_init_0 : decode cX4_init 0 = .ok (.aload_n 0, 1) := by decide +kernel
theorem dX4_init_1 : decode cX4_init 1 = .ok (.invokespecial 1, 3) := by decide +kernel
theorem dX4_init_4 : decode cX4_init 4 = .ok (.return_, 1) := by decide +kernel
theorem dX4_copyFrom_0 : decode cX4_copyFrom 0 = .ok (.aload_n 0, 1) := by decide +kernel
theorem dX4_copyFrom_1 : decode cX4_copyFrom 1 = .ok (.aload_n 1, 1) := by decide +kernel
theorem dX4_copyFrom_2 : decode cX4_copyFrom 2 = .ok (.getfield 7, 3) := by decide +kernel
theorem dX4_copyFrom_5 : decode cX4_copyFrom 5 = .ok (.putfield 7, 3) := by decide +kernel
theorem dX4_copyFrom_8 : decode cX4_copyFrom 8 = .ok (.aload_n 0, 1) := by decide +kernel
theorem dX4_copyFrom_9 : decode cX4_copyFrom 9 = .ok (.aload_n 1, 1) := by decide +kernel
theorem dX4_copyFrom_10 : decode cX4_copyFrom 10 = .ok (.getfield 13, 3) := by decide +kernel
theorem dX4_copyFrom_13 : decode cX4_copyFrom 13 = .ok (.putfield 13, 3) := by decide +kernel
theorem dX4_copyFrom_16 : decode cX4_copyFrom 16 = .ok (.return_, 1) := by decide +kernel
theorem dX5_init_0 : decode cX5_init 0 = .ok (.aload_n 0, 1) := by decide +kernel
theorem dX5_init_1 : decode cX5_init 1 = .ok (.invokespecial 3, 3) := by decide +kernel
theorem dX5_init_4 : decode cX5_init 4 = .ok (.return_, 1) := by decide +kernel
theorem dX5_copyFrom_0 : decode cX5_copyFrom 0 = .ok (.aload_n 0, 1) := by decide +kernel
theorem dX5_copyFrom_1 : decode cX5_copyFrom 1 = .ok (.aload_n 1, 1) := by decide +kernel
theorem dX5_copyFrom_2 : decode cX5_copyFrom 2 = .ok (.getfield 9, 3) := by decide +kernel
theorem dX5_copyFrom_5 : decode cX5_copyFrom 5 = .ok (.putfield 9, 3) := by decide +kernel
theorem dX5_copyFrom_8 : decode cX5_copyFrom 8 = .ok (.aload_n 0, 1) := by decide +kernel
theorem dX5_copyFrom_9 : decode cX5_copyFrom 9 = .ok (.aload_n 1, 1) := by decide +kernel
theorem dX5_copyFrom_10 : decode cX5_copyFrom 10 = .ok (.getfield 15, 3) := by decide +kernel
theorem dX5_copyFrom_13 : decode cX5_copyFrom 13 = .ok (.putfield 15, 3) := by decide +kernel
theorem dX5_copyFrom_16 : decode cX5_copyFrom 16 = .ok (.aload_n 0, 1) := by decide +kernel
theorem dX5_copyFrom_17 : decode cX5_copyFrom 17 = .ok (.aload_n 1, 1) := by decide +kernel
theorem dX5_copyFrom_18 : decode cX5_copyFrom 18 = .ok (.getfield 18, 3) := by decide +kernel
theorem dX5_copyFrom_21 : decode cX5_copyFrom 21 = .ok (.putfield 18, 3) := by decide +kernel
theorem dX5_copyFrom_24 : decode cX5_copyFrom 24 = .ok (.aload_n 0, 1) := by decide +kernel
theorem dX5_copyFrom_25 : decode cX5_copyFrom 25 = .ok (.aload_n 1, 1) := by decide +kernel
theorem dX5_copyFrom_26 : decode cX5_copyFrom 26 = .ok (.getfield 21, 3) := by decide +kernel
theorem dX5_copyFrom_29 : decode cX5_copyFrom 29 = .ok (.putfield 21, 3) := by decide +kernel
theorem dX5_copyFrom_32 : decode cX5_copyFrom 32 = .ok (.aload_n 0, 1) := by decide +kernel
theorem dX5_copyFrom_33 : decode cX5_copyFrom 33 = .ok (.aload_n 1, 1) := by decide +kernel
theorem dX5_copyFrom_34 : decode cX5_copyFrom 34 = .ok (.getfield 24, 3) := by decide +kernel
theorem dX5_copyFrom_37 : decode cX5_copyFrom 37 = .ok (.putfield 24, 3) := by decide +kernel
theorem dX5_copyFrom_40 : decode cX5_copyFrom 40 = .ok (.aload_n 0, 1) := by decide +kernel
theorem dX5_copyFrom_41 : decode cX5_copyFrom 41 = .ok (.aload_n 1, 1) := by decide +kernel
theorem dX5_copyFrom_42 : decode cX5_copyFrom 42 = .ok (.getfield 27, 3) := by decide +kernel
theorem dX5_copyFrom_45 : decode cX5_copyFrom 45 = .ok (.putfield 27, 3) := by decide +kernel
theorem dX5_copyFrom_48 : decode cX5_copyFrom 48 = .ok (.return_, 1) := by decide +kernel
theorem dX5_isLost_0 : decode cX5_isLost 0 = .ok (.aload_n 0, 1) := by decide +kernel
theorem dX5_isLost_1 : decode cX5_isLost 1 = .ok (.getfield 27, 3) := by decide +kernel
theorem dX5_isLost_4 : decode cX5_isLost 4 = .ok (.ifCond .ne 14, 3) := by decide +kernel
theorem dX5_isLost_7 : decode cX5_isLost 7 = .ok (.aload_n 0, 1) := by decide +kernel
theorem dX5_isLost_8 : decode cX5_isLost 8 = .ok (.getfield 21, 3) := by decide +kernel
theorem dX5_isLost_11 : decode cX5_isLost 11 = .ok (.ifCond .ne 7, 3) := by decide +kernel
theorem dX5_isLost_14 : decode cX5_isLost 14 = .ok (.iconst 1, 1) := by decide +kernel
theorem dX5_isLost_15 : decode cX5_isLost 15 = .ok (.goto 4, 3) := by decide +kernel
theorem dX5_isLost_18 : decode cX5_isLost 18 = .ok (.iconst 0, 1) := by decide +kernel
theorem dX5_isLost_19 : decode cX5_isLost 19 = .ok (.ireturn, 1) := by decide +kernel
theorem dX5_isSought_0 : decode cX5_isSought 0 = .ok (.aload_n 0, 1) := by decide +kernel
theorem dX5_isSought_1 : decode cX5_isSought 1 = .ok (.getfield 27, 3) := by decide +kernel
theorem dX5_isSought_4 : decode cX5_isSought 4 = .ok (.ifCond .ne 14, 3) := by decide +kernel
theorem dX5_isSought_7 : decode cX5_isSought 7 = .ok (.aload_n 0, 1) := by decide +kernel
theorem dX5_isSought_8 : decode cX5_isSought 8 = .ok (.getfield 21, 3) := by decide +kernel
theorem dX5_isSought_11 : decode cX5_isSought 11 = .ok (.ifCond .le 7, 3) := by decide +kernel
theorem dX5_isSought_14 : decode cX5_isSought 14 = .ok (.iconst 1, 1) := by decide +kernel
theorem dX5_isSought_15 : decode cX5_isSought 15 = .ok (.goto 4, 3) := by decide +kernel
theorem dX5_isSought_18 : decode cX5_isSought 18 = .ok (.iconst 0, 1) := by decide +kernel
theorem dX5_isSought_19 : decode cX5_isSought 19 = .ok (.ireturn, 1) := by decide +kernel
theorem dX5_heard_0 : decode cX5_heard 0 = .ok (.aload_n 0, 1) := by decide +kernel
theorem dX5_heard_1 : decode cX5_heard 1 = .ok (.getfield 9, 3) := by decide +kernel
theorem dX5_heard_4 : decode cX5_heard 4 = .ok (.tableswitch 98 1 6 #[40, 47, 50, 55, 65, 78], 40) := by decide +kernel
theorem dX5_heard_44 : decode cX5_heard 44 = .ok (.iconst 5, 1) := by decide +kernel
theorem dX5_heard_45 : decode cX5_heard 45 = .ok (.aload_n 0, 1) := by decide +kernel
theorem dX5_heard_46 : decode cX5_heard 46 = .ok (.getfield 15, 3) := by decide +kernel
theorem dX5_heard_49 : decode cX5_heard 49 = .ok (.iadd, 1) := by decide +kernel
theorem dX5_heard_50 : decode cX5_heard 50 = .ok (.ireturn, 1) := by decide +kernel
theorem dX5_heard_51 : decode cX5_heard 51 = .ok (.bipush 10, 2) := by decide +kernel
theorem dX5_heard_53 : decode cX5_heard 53 = .ok (.ireturn, 1) := by decide +kernel
theorem dX5_heard_54 : decode cX5_heard 54 = .ok (.aload_n 0, 1) := by decide +kernel
theorem dX5_heard_55 : decode cX5_heard 55 = .ok (.invokevirtual 31, 3) := by decide +kernel
theorem dX5_heard_58 : decode cX5_heard 58 = .ok (.ireturn, 1) := by decide +kernel
theorem dX5_heard_59 : decode cX5_heard 59 = .ok (.iconst 5, 1) := by decide +kernel
theorem dX5_heard_60 : decode cX5_heard 60 = .ok (.aload_n 0, 1) := by decide +kernel
theorem dX5_heard_61 : decode cX5_heard 61 = .ok (.getfield 15, 3) := by decide +kernel
theorem dX5_heard_64 : decode cX5_heard 64 = .ok (.iadd, 1) := by decide +kernel
theorem dX5_heard_65 : decode cX5_heard 65 = .ok (.bipush 50, 2) := by decide +kernel
theorem dX5_heard_67 : decode cX5_heard 67 = .ok (.iadd, 1) := by decide +kernel
theorem dX5_heard_68 : decode cX5_heard 68 = .ok (.ireturn, 1) := by decide +kernel
theorem dX5_heard_69 : decode cX5_heard 69 = .ok (.iload_n 1, 1) := by decide +kernel
theorem dX5_heard_70 : decode cX5_heard 70 = .ok (.iconst 2, 1) := by decide +kernel
theorem dX5_heard_71 : decode cX5_heard 71 = .ok (.irem, 1) := by decide +kernel
theorem dX5_heard_72 : decode cX5_heard 72 = .ok (.ifCond .ne 8, 3) := by decide +kernel
theorem dX5_heard_75 : decode cX5_heard 75 = .ok (.bipush 10, 2) := by decide +kernel
theorem dX5_heard_77 : decode cX5_heard 77 = .ok (.goto 4, 3) := by decide +kernel
theorem dX5_heard_80 : decode cX5_heard 80 = .ok (.iconst 0, 1) := by decide +kernel
theorem dX5_heard_81 : decode cX5_heard 81 = .ok (.ireturn, 1) := by decide +kernel
theorem dX5_heard_82 : decode cX5_heard 82 = .ok (.aload_n 0, 1) := by decide +kernel
theorem dX5_heard_83 : decode cX5_heard 83 = .ok (.getfield 24, 3) := by decide +kernel
theorem dX5_heard_86 : decode cX5_heard 86 = .ok (.invokestatic 35, 3) := by decide +kernel
theorem dX5_heard_89 : decode cX5_heard 89 = .ok (.iconst 1, 1) := by decide +kernel
theorem dX5_heard_90 : decode cX5_heard 90 = .ok (.if_icmp .ne 7, 3) := by decide +kernel
theorem dX5_heard_93 : decode cX5_heard 93 = .ok (.iconst 0, 1) := by decide +kernel
theorem dX5_heard_94 : decode cX5_heard 94 = .ok (.goto 7, 3) := by decide +kernel
theorem dX5_heard_97 : decode cX5_heard 97 = .ok (.aload_n 0, 1) := by decide +kernel
theorem dX5_heard_98 : decode cX5_heard 98 = .ok (.invokevirtual 31, 3) := by decide +kernel
theorem dX5_heard_101 : decode cX5_heard 101 = .ok (.ireturn, 1) := by decide +kernel
theorem dX5_heard_102 : decode cX5_heard 102 = .ok (.iconst 5, 1) := by decide +kernel
theorem dX5_heard_103 : decode cX5_heard 103 = .ok (.ireturn, 1) := by decide +kernel
theorem dX5_heardAsLamb_0 : decode cX5_heardAsLamb 0 = .ok (.iconst 0, 1) := by decide +kernel
theorem dX5_heardAsLamb_1 : decode cX5_heardAsLamb 1 = .ok (.iconst 5, 1) := by decide +kernel
theorem dX5_heardAsLamb_2 : decode cX5_heardAsLamb 2 = .ok (.aload_n 0, 1) := by decide +kernel
theorem dX5_heardAsLamb_3 : decode cX5_heardAsLamb 3 = .ok (.getfield 15, 3) := by decide +kernel
theorem dX5_heardAsLamb_6 : decode cX5_heardAsLamb 6 = .ok (.iconst 2, 1) := by decide +kernel
theorem dX5_heardAsLamb_7 : decode cX5_heardAsLamb 7 = .ok (.idiv, 1) := by decide +kernel
theorem dX5_heardAsLamb_8 : decode cX5_heardAsLamb 8 = .ok (.isub, 1) := by decide +kernel
theorem dX5_heardAsLamb_9 : decode cX5_heardAsLamb 9 = .ok (.invokestatic 41, 3) := by decide +kernel
theorem dX5_heardAsLamb_12 : decode cX5_heardAsLamb 12 = .ok (.ireturn, 1) := by decide +kernel
theorem dX5_cold_0 : decode cX5_cold 0 = .ok (.aload_n 0, 1) := by decide +kernel
theorem dX5_cold_1 : decode cX5_cold 1 = .ok (.getfield 9, 3) := by decide +kernel
theorem dX5_cold_4 : decode cX5_cold 4 = .ok (.tableswitch 63 1 6 #[40, 52, 61, 40, 52, 61], 40) := by decide +kernel
theorem dX5_cold_44 : decode cX5_cold 44 = .ok (.iload_n 1, 1) := by decide +kernel
theorem dX5_cold_45 : decode cX5_cold 45 = .ok (.iconst 2, 1) := by decide +kernel
theorem dX5_cold_46 : decode cX5_cold 46 = .ok (.irem, 1) := by decide +kernel
theorem dX5_cold_47 : decode cX5_cold 47 = .ok (.ifCond .ne 7, 3) := by decide +kernel
theorem dX5_cold_50 : decode cX5_cold 50 = .ok (.iconst 1, 1) := by decide +kernel
theorem dX5_cold_51 : decode cX5_cold 51 = .ok (.goto 4, 3) := by decide +kernel
theorem dX5_cold_54 : decode cX5_cold 54 = .ok (.iconst 0, 1) := by decide +kernel
theorem dX5_cold_55 : decode cX5_cold 55 = .ok (.ireturn, 1) := by decide +kernel
theorem dX5_cold_56 : decode cX5_cold 56 = .ok (.iconst 1, 1) := by decide +kernel
theorem dX5_cold_57 : decode cX5_cold 57 = .ok (.aload_n 0, 1) := by decide +kernel
theorem dX5_cold_58 : decode cX5_cold 58 = .ok (.getfield 15, 3) := by decide +kernel
theorem dX5_cold_61 : decode cX5_cold 61 = .ok (.iconst 2, 1) := by decide +kernel
theorem dX5_cold_62 : decode cX5_cold 62 = .ok (.irem, 1) := by decide +kernel
theorem dX5_cold_63 : decode cX5_cold 63 = .ok (.iadd, 1) := by decide +kernel
theorem dX5_cold_64 : decode cX5_cold 64 = .ok (.ireturn, 1) := by decide +kernel
theorem dX5_cold_65 : decode cX5_cold 65 = .ok (.iconst 3, 1) := by decide +kernel
theorem dX5_cold_66 : decode cX5_cold 66 = .ok (.ireturn, 1) := by decide +kernel
theorem dX5_cold_67 : decode cX5_cold 67 = .ok (.iconst 1, 1) := by decide +kernel
theorem dX5_cold_68 : decode cX5_cold 68 = .ok (.ireturn, 1) := by decide +kernel
theorem dX6_init_0 : decode cX6_init 0 = .ok (.aload_n 0, 1) := by decide +kernel
theorem dX6_init_1 : decode cX6_init 1 = .ok (.invokespecial 3, 3) := by decide +kernel
theorem dX6_init_4 : decode cX6_init 4 = .ok (.aload_n 0, 1) := by decide +kernel
theorem dX6_init_5 : decode cX6_init 5 = .ok (.new 9, 3) := by decide +kernel
theorem dX6_init_8 : decode cX6_init 8 = .ok (.dup, 1) := by decide +kernel
theorem dX6_init_9 : decode cX6_init 9 = .ok (.bipush 40, 2) := by decide +kernel
theorem dX6_init_11 : decode cX6_init 11 = .ok (.invokespecial 11, 3) := by decide +kernel
theorem dX6_init_14 : decode cX6_init 14 = .ok (.putfield 14, 3) := by decide +kernel
theorem dX6_init_17 : decode cX6_init 17 = .ok (.return_, 1) := by decide +kernel
theorem dX6_isMissing_0 : decode cX6_isMissing 0 = .ok (.aload_n 0, 1) := by decide +kernel
theorem dX6_isMissing_1 : decode cX6_isMissing 1 = .ok (.getfield 20, 3) := by decide +kernel
theorem dX6_isMissing_4 : decode cX6_isMissing 4 = .ok (.ifCond .ne 7, 3) := by decide +kernel
theorem dX6_isMissing_7 : decode cX6_isMissing 7 = .ok (.iconst 1, 1) := by decide +kernel
theorem dX6_isMissing_8 : decode cX6_isMissing 8 = .ok (.goto 4, 3) := by decide +kernel
theorem dX6_isMissing_11 : decode cX6_isMissing 11 = .ok (.iconst 0, 1) := by decide +kernel
theorem dX6_isMissing_12 : decode cX6_isMissing 12 = .ok (.ireturn, 1) := by decide +kernel
theorem dX6_begin_0 : decode cX6_begin 0 = .ok (.aload_n 0, 1) := by decide +kernel
theorem dX6_begin_1 : decode cX6_begin 1 = .ok (.iload_n 1, 1) := by decide +kernel
theorem dX6_begin_2 : decode cX6_begin 2 = .ok (.putfield 20, 3) := by decide +kernel
theorem dX6_begin_5 : decode cX6_begin 5 = .ok (.aload_n 0, 1) := by decide +kernel
theorem dX6_begin_6 : decode cX6_begin 6 = .ok (.getfield 14, 3) := by decide +kernel
theorem dX6_begin_9 : decode cX6_begin 9 = .ok (.iload_n 2, 1) := by decide +kernel
theorem dX6_begin_10 : decode cX6_begin 10 = .ok (.invokevirtual 24, 3) := by decide +kernel
theorem dX6_begin_13 : decode cX6_begin 13 = .ok (.return_, 1) := by decide +kernel
theorem dX6_lowestBits_0 : decode cX6_lowestBits 0 = .ok (.aload_n 0, 1) := by decide +kernel
theorem dX6_lowestBits_1 : decode cX6_lowestBits 1 = .ok (.getfield 20, 3) := by decide +kernel
theorem dX6_lowestBits_4 : decode cX6_lowestBits 4 = .ok (.lookupswitch 34 #[(8, 28), (16, 31)], 28) := by decide +kernel
theorem dX6_lowestBits_32 : decode cX6_lowestBits 32 = .ok (.iload_n 1, 1) := by decide +kernel
theorem dX6_lowestBits_33 : decode cX6_lowestBits 33 = .ok (.i2b, 1) := by decide +kernel
theorem dX6_lowestBits_34 : decode cX6_lowestBits 34 = .ok (.ireturn, 1) := by decide +kernel
theorem dX6_lowestBits_35 : decode cX6_lowestBits 35 = .ok (.iload_n 1, 1) := by decide +kernel
theorem dX6_lowestBits_36 : decode cX6_lowestBits 36 = .ok (.i2s, 1) := by decide +kernel
theorem dX6_lowestBits_37 : decode cX6_lowestBits 37 = .ok (.ireturn, 1) := by decide +kernel
theorem dX6_lowestBits_38 : decode cX6_lowestBits 38 = .ok (.iload_n 1, 1) := by decide +kernel
theorem dX6_lowestBits_39 : decode cX6_lowestBits 39 = .ok (.ireturn, 1) := by decide +kernel
theorem dX7_init_0 : decode cX7_init 0 = .ok (.aload_n 0, 1) := by decide +kernel
theorem dX7_init_1 : decode cX7_init 1 = .ok (.invokespecial 3, 3) := by decide +kernel
theorem dX7_init_4 : decode cX7_init 4 = .ok (.aload_n 0, 1) := by decide +kernel
theorem dX7_init_5 : decode cX7_init 5 = .ok (.new 9, 3) := by decide +kernel
theorem dX7_init_8 : decode cX7_init 8 = .ok (.dup, 1) := by decide +kernel
theorem dX7_init_9 : decode cX7_init 9 = .ok (.bipush 40, 2) := by decide +kernel
theorem dX7_init_11 : decode cX7_init 11 = .ok (.invokespecial 11, 3) := by decide +kernel
theorem dX7_init_14 : decode cX7_init 14 = .ok (.putfield 14, 3) := by decide +kernel
theorem dX7_init_17 : decode cX7_init 17 = .ok (.return_, 1) := by decide +kernel
theorem dX7_raise_0 : decode cX7_raise 0 = .ok (.aload_n 0, 1) := by decide +kernel
theorem dX7_raise_1 : decode cX7_raise 1 = .ok (.iload_n 1, 1) := by decide +kernel
theorem dX7_raise_2 : decode cX7_raise 2 = .ok (.putfield 20, 3) := by decide +kernel
theorem dX7_raise_5 : decode cX7_raise 5 = .ok (.aload_n 0, 1) := by decide +kernel
theorem dX7_raise_6 : decode cX7_raise 6 = .ok (.iload_n 2, 1) := by decide +kernel
theorem dX7_raise_7 : decode cX7_raise 7 = .ok (.putfield 24, 3) := by decide +kernel
theorem dX7_raise_10 : decode cX7_raise 10 = .ok (.aload_n 0, 1) := by decide +kernel
theorem dX7_raise_11 : decode cX7_raise 11 = .ok (.iload_n 3, 1) := by decide +kernel
theorem dX7_raise_12 : decode cX7_raise 12 = .ok (.putfield 27, 3) := by decide +kernel
theorem dX7_raise_15 : decode cX7_raise 15 = .ok (.aload_n 0, 1) := by decide +kernel
theorem dX7_raise_16 : decode cX7_raise 16 = .ok (.getfield 14, 3) := by decide +kernel
theorem dX7_raise_19 : decode cX7_raise 19 = .ok (.invokevirtual 30, 3) := by decide +kernel
theorem dX7_raise_22 : decode cX7_raise 22 = .ok (.aload_n 0, 1) := by decide +kernel
theorem dX7_raise_23 : decode cX7_raise 23 = .ok (.iload_n 1, 1) := by decide +kernel
theorem dX7_raise_24 : decode cX7_raise 24 = .ok (.iload 4, 2) := by decide +kernel
theorem dX7_raise_26 : decode cX7_raise 26 = .ok (.iload 5, 2) := by decide +kernel
theorem dX7_raise_28 : decode cX7_raise 28 = .ok (.iconst 0, 1) := by decide +kernel
theorem dX7_raise_29 : decode cX7_raise 29 = .ok (.invokevirtual 33, 3) := by decide +kernel
theorem dX7_raise_32 : decode cX7_raise 32 = .ok (.ireturn, 1) := by decide +kernel
theorem dX7_own_0 : decode cX7_own 0 = .ok (.aload_n 0, 1) := by decide +kernel
theorem dX7_own_1 : decode cX7_own 1 = .ok (.aload_n 0, 1) := by decide +kernel
theorem dX7_own_2 : decode cX7_own 2 = .ok (.getfield 20, 3) := by decide +kernel
theorem dX7_own_5 : decode cX7_own 5 = .ok (.iload_n 1, 1) := by decide +kernel
theorem dX7_own_6 : decode cX7_own 6 = .ok (.iload_n 2, 1) := by decide +kernel
theorem dX7_own_7 : decode cX7_own 7 = .ok (.iload_n 3, 1) := by decide +kernel
theorem dX7_own_8 : decode cX7_own 8 = .ok (.invokevirtual 33, 3) := by decide +kernel
theorem dX7_own_11 : decode cX7_own 11 = .ok (.ireturn, 1) := by decide +kernel
theorem dX7_above_0 : decode cX7_above 0 = .ok (.aload_n 0, 1) := by decide +kernel
theorem dX7_above_1 : decode cX7_above 1 = .ok (.iload_n 1, 1) := by decide +kernel
theorem dX7_above_2 : decode cX7_above 2 = .ok (.bipush 6, 2) := by decide +kernel
theorem dX7_above_4 : decode cX7_above 4 = .ok (.invokestatic 37, 3) := by decide +kernel
theorem dX7_above_7 : decode cX7_above 7 = .ok (.ifCond .eq 11, 3) := by decide +kernel
theorem dX7_above_10 : decode cX7_above 10 = .ok (.getstatic 41, 3) := by decide +kernel
theorem dX7_above_13 : decode cX7_above 13 = .ok (.iload_n 1, 1) := by decide +kernel
theorem dX7_above_14 : decode cX7_above 14 = .ok (.iaload, 1) := by decide +kernel
theorem dX7_above_15 : decode cX7_above 15 = .ok (.goto 4, 3) := by decide +kernel
theorem dX7_above_18 : decode cX7_above 18 = .ok (.iconst 0, 1) := by decide +kernel
theorem dX7_above_19 : decode cX7_above 19 = .ok (.iload_n 2, 1) := by decide +kernel
theorem dX7_above_20 : decode cX7_above 20 = .ok (.iload_n 3, 1) := by decide +kernel
theorem dX7_above_21 : decode cX7_above 21 = .ok (.iload 4, 2) := by decide +kernel
theorem dX7_above_23 : decode cX7_above 23 = .ok (.invokevirtual 33, 3) := by decide +kernel
theorem dX7_above_26 : decode cX7_above 26 = .ok (.ireturn, 1) := by decide +kernel
theorem dX7_speak_0 : decode cX7_speak 0 = .ok (.iload 4, 2) := by decide +kernel
theorem dX7_speak_2 : decode cX7_speak 2 = .ok (.bipush 40, 2) := by decide +kernel
theorem dX7_speak_4 : decode cX7_speak 4 = .ok (.if_icmp .lt 5, 3) := by decide +kernel
theorem dX7_speak_7 : decode cX7_speak 7 = .ok (.iconst 0, 1) := by decide +kernel
theorem dX7_speak_8 : decode cX7_speak 8 = .ok (.ireturn, 1) := by decide +kernel
theorem dX7_speak_9 : decode cX7_speak 9 = .ok (.iload_n 1, 1) := by decide +kernel
theorem dX7_speak_10 : decode cX7_speak 10 = .ok (.iload_n 2, 1) := by decide +kernel
theorem dX7_speak_11 : decode cX7_speak 11 = .ok (.invokestatic 45, 3) := by decide +kernel
theorem dX7_speak_14 : decode cX7_speak 14 = .ok (.istore 5, 2) := by decide +kernel
theorem dX7_speak_16 : decode cX7_speak 16 = .ok (.aload_n 0, 1) := by decide +kernel
theorem dX7_speak_17 : decode cX7_speak 17 = .ok (.getfield 14, 3) := by decide +kernel
theorem dX7_speak_20 : decode cX7_speak 20 = .ok (.iload 5, 2) := by decide +kernel
theorem dX7_speak_22 : decode cX7_speak 22 = .ok (.invokevirtual 49, 3) := by decide +kernel
theorem dX7_speak_25 : decode cX7_speak 25 = .ok (.pop, 1) := by decide +kernel
theorem dX7_speak_26 : decode cX7_speak 26 = .ok (.aload_n 0, 1) := by decide +kernel
theorem dX7_speak_27 : decode cX7_speak 27 = .ok (.iload 5, 2) := by decide +kernel
theorem dX7_speak_29 : decode cX7_speak 29 = .ok (.iload_n 3, 1) := by decide +kernel
theorem dX7_speak_30 : decode cX7_speak 30 = .ok (.iload 4, 2) := by decide +kernel
theorem dX7_speak_32 : decode cX7_speak 32 = .ok (.iconst 1, 1) := by decide +kernel
theorem dX7_speak_33 : decode cX7_speak 33 = .ok (.iadd, 1) := by decide +kernel
theorem dX7_speak_34 : decode cX7_speak 34 = .ok (.invokevirtual 53, 3) := by decide +kernel
theorem dX7_speak_37 : decode cX7_speak 37 = .ok (.ireturn, 1) := by decide +kernel
theorem dX7_bodyFrom_0 : decode cX7_bodyFrom 0 = .ok (.iload_n 0, 1) := by decide +kernel
theorem dX7_bodyFrom_1 : decode cX7_bodyFrom 1 = .ok (.istore_n 2, 1) := by decide +kernel
theorem dX7_bodyFrom_2 : decode cX7_bodyFrom 2 = .ok (.iconst 0, 1) := by decide +kernel
theorem dX7_bodyFrom_3 : decode cX7_bodyFrom 3 = .ok (.istore_n 3, 1) := by decide +kernel
theorem dX7_bodyFrom_4 : decode cX7_bodyFrom 4 = .ok (.iload_n 3, 1) := by decide +kernel
theorem dX7_bodyFrom_5 : decode cX7_bodyFrom 5 = .ok (.bipush 7, 2) := by decide +kernel
theorem dX7_bodyFrom_7 : decode cX7_bodyFrom 7 = .ok (.if_icmp .ge 54, 3) := by decide +kernel
theorem dX7_bodyFrom_10 : decode cX7_bodyFrom 10 = .ok (.iload_n 2, 1) := by decide +kernel
theorem dX7_bodyFrom_11 : decode cX7_bodyFrom 11 = .ok (.bipush 6, 2) := by decide +kernel
theorem dX7_bodyFrom_13 : decode cX7_bodyFrom 13 = .ok (.invokestatic 37, 3) := by decide +kernel
theorem dX7_bodyFrom_16 : decode cX7_bodyFrom 16 = .ok (.ifCond .eq 45, 3) := by decide +kernel
theorem dX7_bodyFrom_19 : decode cX7_bodyFrom 19 = .ok (.iload_n 1, 1) := by decide +kernel
theorem dX7_bodyFrom_20 : decode cX7_bodyFrom 20 = .ok (.iconst 3, 1) := by decide +kernel
theorem dX7_bodyFrom_21 : decode cX7_bodyFrom 21 = .ok (.invokestatic 37, 3) := by decide +kernel
theorem dX7_bodyFrom_24 : decode cX7_bodyFrom 24 = .ok (.ifCond .eq 37, 3) := by decide +kernel
theorem dX7_bodyFrom_27 : decode cX7_bodyFrom 27 = .ok (.getstatic 57, 3) := by decide +kernel
theorem dX7_bodyFrom_30 : decode cX7_bodyFrom 30 = .ok (.iload_n 2, 1) := by decide +kernel
theorem dX7_bodyFrom_31 : decode cX7_bodyFrom 31 = .ok (.iconst 4, 1) := by decide +kernel
theorem dX7_bodyFrom_32 : decode cX7_bodyFrom 32 = .ok (.imul, 1) := by decide +kernel
theorem dX7_bodyFrom_33 : decode cX7_bodyFrom 33 = .ok (.iload_n 1, 1) := by decide +kernel
theorem dX7_bodyFrom_34 : decode cX7_bodyFrom 34 = .ok (.iadd, 1) := by decide +kernel
theorem dX7_bodyFrom_35 : decode cX7_bodyFrom 35 = .ok (.iaload, 1) := by decide +kernel
theorem dX7_bodyFrom_36 : decode cX7_bodyFrom 36 = .ok (.ifCond .eq 13, 3) := by decide +kernel
theorem dX7_bodyFrom_39 : decode cX7_bodyFrom 39 = .ok (.getstatic 57, 3) := by decide +kernel
theorem dX7_bodyFrom_42 : decode cX7_bodyFrom 42 = .ok (.iload_n 2, 1) := by decide +kernel
theorem dX7_bodyFrom_43 : decode cX7_bodyFrom 43 = .ok (.iconst 4, 1) := by decide +kernel
theorem dX7_bodyFrom_44 : decode cX7_bodyFrom 44 = .ok (.imul, 1) := by decide +kernel
theorem dX7_bodyFrom_45 : decode cX7_bodyFrom 45 = .ok (.iload_n 1, 1) := by decide +kernel
theorem dX7_bodyFrom_46 : decode cX7_bodyFrom 46 = .ok (.iadd, 1) := by decide +kernel
theorem dX7_bodyFrom_47 : decode cX7_bodyFrom 47 = .ok (.iaload, 1) := by decide +kernel
theorem dX7_bodyFrom_48 : decode cX7_bodyFrom 48 = .ok (.ireturn, 1) := by decide +kernel
theorem dX7_bodyFrom_49 : decode cX7_bodyFrom 49 = .ok (.getstatic 41, 3) := by decide +kernel
theorem dX7_bodyFrom_52 : decode cX7_bodyFrom 52 = .ok (.iload_n 2, 1) := by decide +kernel
theorem dX7_bodyFrom_53 : decode cX7_bodyFrom 53 = .ok (.iaload, 1) := by decide +kernel
theorem dX7_bodyFrom_54 : decode cX7_bodyFrom 54 = .ok (.istore_n 2, 1) := by decide +kernel
theorem dX7_bodyFrom_55 : decode cX7_bodyFrom 55 = .ok (.iinc 3 1, 3) := by decide +kernel
theorem dX7_bodyFrom_58 : decode cX7_bodyFrom 58 = .ok (.goto (-54), 3) := by decide +kernel
theorem dX7_bodyFrom_61 : decode cX7_bodyFrom 61 = .ok (.iconst 0, 1) := by decide +kernel
theorem dX7_bodyFrom_62 : decode cX7_bodyFrom 62 = .ok (.ireturn, 1) := by decide +kernel
theorem dX7_workOut_0 : decode cX7_workOut 0 = .ok (.iload_n 1, 1) := by decide +kernel
theorem dX7_workOut_1 : decode cX7_workOut 1 = .ok (.lookupswitch 238 #[(10, 99), (11, 106), (12, 116), (13, 123), (20, 139), (30, 150), (40, 167), (50, 177), (60, 194), (70, 205), (71, 220)], 99) := by decide +kernel
theorem dX7_workOut_100 : decode cX7_workOut 100 = .ok (.iload_n 2, 1) := by decide +kernel
theorem dX7_workOut_101 : decode cX7_workOut 101 = .ok (.aload_n 0, 1) := by decide +kernel
theorem dX7_workOut_102 : decode cX7_workOut 102 = .ok (.getfield 24, 3) := by decide +kernel
theorem dX7_workOut_105 : decode cX7_workOut 105 = .ok (.iadd, 1) := by decide +kernel
theorem dX7_workOut_106 : decode cX7_workOut 106 = .ok (.ireturn, 1) := by decide +kernel
theorem dX7_workOut_107 : decode cX7_workOut 107 = .ok (.aload_n 0, 1) := by decide +kernel
theorem dX7_workOut_108 : decode cX7_workOut 108 = .ok (.iconst 0, 1) := by decide +kernel
theorem dX7_workOut_109 : decode cX7_workOut 109 = .ok (.iload_n 2, 1) := by decide +kernel
theorem dX7_workOut_110 : decode cX7_workOut 110 = .ok (.iload_n 3, 1) := by decide +kernel
theorem dX7_workOut_111 : decode cX7_workOut 111 = .ok (.invokevirtual 60, 3) := by decide +kernel
theorem dX7_workOut_114 : decode cX7_workOut 114 = .ok (.iconst 2, 1) := by decide +kernel
theorem dX7_workOut_115 : decode cX7_workOut 115 = .ok (.imul, 1) := by decide +kernel
theorem dX7_workOut_116 : decode cX7_workOut 116 = .ok (.ireturn, 1) := by decide +kernel
theorem dX7_workOut_117 : decode cX7_workOut 117 = .ok (.iload_n 2, 1) := by decide +kernel
theorem dX7_workOut_118 : decode cX7_workOut 118 = .ok (.aload_n 0, 1) := by decide +kernel
theorem dX7_workOut_119 : decode cX7_workOut 119 = .ok (.getfield 27, 3) := by decide +kernel
theorem dX7_workOut_122 : decode cX7_workOut 122 = .ok (.isub, 1) := by decide +kernel
theorem dX7_workOut_123 : decode cX7_workOut 123 = .ok (.ireturn, 1) := by decide +kernel
theorem dX7_workOut_124 : decode cX7_workOut 124 = .ok (.aload_n 0, 1) := by decide +kernel
theorem dX7_workOut_125 : decode cX7_workOut 125 = .ok (.iconst 1, 1) := by decide +kernel
theorem dX7_workOut_126 : decode cX7_workOut 126 = .ok (.iload_n 2, 1) := by decide +kernel
theorem dX7_workOut_127 : decode cX7_workOut 127 = .ok (.iload_n 3, 1) := by decide +kernel
theorem dX7_workOut_128 : decode cX7_workOut 128 = .ok (.invokevirtual 60, 3) := by decide +kernel
theorem dX7_workOut_131 : decode cX7_workOut 131 = .ok (.aload_n 0, 1) := by decide +kernel
theorem dX7_workOut_132 : decode cX7_workOut 132 = .ok (.iconst 2, 1) := by decide +kernel
theorem dX7_workOut_133 : decode cX7_workOut 133 = .ok (.iload_n 2, 1) := by decide +kernel
theorem dX7_workOut_134 : decode cX7_workOut 134 = .ok (.iload_n 3, 1) := by decide +kernel
theorem dX7_workOut_135 : decode cX7_workOut 135 = .ok (.invokevirtual 60, 3) := by decide +kernel
theorem dX7_workOut_138 : decode cX7_workOut 138 = .ok (.ixor, 1) := by decide +kernel
theorem dX7_workOut_139 : decode cX7_workOut 139 = .ok (.ireturn, 1) := by decide +kernel
theorem dX7_workOut_140 : decode cX7_workOut 140 = .ok (.aload_n 0, 1) := by decide +kernel
theorem dX7_workOut_141 : decode cX7_workOut 141 = .ok (.iconst 1, 1) := by decide +kernel
theorem dX7_workOut_142 : decode cX7_workOut 142 = .ok (.iconst 0, 1) := by decide +kernel
theorem dX7_workOut_143 : decode cX7_workOut 143 = .ok (.iload_n 2, 1) := by decide +kernel
theorem dX7_workOut_144 : decode cX7_workOut 144 = .ok (.iload_n 3, 1) := by decide +kernel
theorem dX7_workOut_145 : decode cX7_workOut 145 = .ok (.invokevirtual 63, 3) := by decide +kernel
theorem dX7_workOut_148 : decode cX7_workOut 148 = .ok (.iconst 3, 1) := by decide +kernel
theorem dX7_workOut_149 : decode cX7_workOut 149 = .ok (.imul, 1) := by decide +kernel
theorem dX7_workOut_150 : decode cX7_workOut 150 = .ok (.ireturn, 1) := by decide +kernel
theorem dX7_workOut_151 : decode cX7_workOut 151 = .ok (.aload_n 0, 1) := by decide +kernel
theorem dX7_workOut_152 : decode cX7_workOut 152 = .ok (.iconst 2, 1) := by decide +kernel
theorem dX7_workOut_153 : decode cX7_workOut 153 = .ok (.iconst 1, 1) := by decide +kernel
theorem dX7_workOut_154 : decode cX7_workOut 154 = .ok (.iload_n 2, 1) := by decide +kernel
theorem dX7_workOut_155 : decode cX7_workOut 155 = .ok (.iload_n 3, 1) := by decide +kernel
theorem dX7_workOut_156 : decode cX7_workOut 156 = .ok (.invokevirtual 63, 3) := by decide +kernel
theorem dX7_workOut_159 : decode cX7_workOut 159 = .ok (.aload_n 0, 1) := by decide +kernel
theorem dX7_workOut_160 : decode cX7_workOut 160 = .ok (.iconst 2, 1) := by decide +kernel
theorem dX7_workOut_161 : decode cX7_workOut 161 = .ok (.iconst 1, 1) := by decide +kernel
theorem dX7_workOut_162 : decode cX7_workOut 162 = .ok (.iload_n 3, 1) := by decide +kernel
theorem dX7_workOut_163 : decode cX7_workOut 163 = .ok (.invokevirtual 60, 3) := by decide +kernel
theorem dX7_workOut_166 : decode cX7_workOut 166 = .ok (.isub, 1) := by decide +kernel
theorem dX7_workOut_167 : decode cX7_workOut 167 = .ok (.ireturn, 1) := by decide +kernel
theorem dX7_workOut_168 : decode cX7_workOut 168 = .ok (.aload_n 0, 1) := by decide +kernel
theorem dX7_workOut_169 : decode cX7_workOut 169 = .ok (.iconst 3, 1) := by decide +kernel
theorem dX7_workOut_170 : decode cX7_workOut 170 = .ok (.iconst 2, 1) := by decide +kernel
theorem dX7_workOut_171 : decode cX7_workOut 171 = .ok (.iload_n 2, 1) := by decide +kernel
theorem dX7_workOut_172 : decode cX7_workOut 172 = .ok (.iload_n 3, 1) := by decide +kernel
theorem dX7_workOut_173 : decode cX7_workOut 173 = .ok (.invokevirtual 63, 3) := by decide +kernel
theorem dX7_workOut_176 : decode cX7_workOut 176 = .ok (.ineg, 1) := by decide +kernel
theorem dX7_workOut_177 : decode cX7_workOut 177 = .ok (.ireturn, 1) := by decide +kernel
theorem dX7_workOut_178 : decode cX7_workOut 178 = .ok (.aload_n 0, 1) := by decide +kernel
theorem dX7_workOut_179 : decode cX7_workOut 179 = .ok (.iconst 4, 1) := by decide +kernel
theorem dX7_workOut_180 : decode cX7_workOut 180 = .ok (.iconst 3, 1) := by decide +kernel
theorem dX7_workOut_181 : decode cX7_workOut 181 = .ok (.iload_n 2, 1) := by decide +kernel
theorem dX7_workOut_182 : decode cX7_workOut 182 = .ok (.iload_n 3, 1) := by decide +kernel
theorem dX7_workOut_183 : decode cX7_workOut 183 = .ok (.invokevirtual 63, 3) := by decide +kernel
theorem dX7_workOut_186 : decode cX7_workOut 186 = .ok (.aload_n 0, 1) := by decide +kernel
theorem dX7_workOut_187 : decode cX7_workOut 187 = .ok (.iconst 0, 1) := by decide +kernel
theorem dX7_workOut_188 : decode cX7_workOut 188 = .ok (.iconst 2, 1) := by decide +kernel
theorem dX7_workOut_189 : decode cX7_workOut 189 = .ok (.iload_n 3, 1) := by decide +kernel
theorem dX7_workOut_190 : decode cX7_workOut 190 = .ok (.invokevirtual 60, 3) := by decide +kernel
theorem dX7_workOut_193 : decode cX7_workOut 193 = .ok (.isub, 1) := by decide +kernel
theorem dX7_workOut_194 : decode cX7_workOut 194 = .ok (.ireturn, 1) := by decide +kernel
theorem dX7_workOut_195 : decode cX7_workOut 195 = .ok (.aload_n 0, 1) := by decide +kernel
theorem dX7_workOut_196 : decode cX7_workOut 196 = .ok (.iconst 5, 1) := by decide +kernel
theorem dX7_workOut_197 : decode cX7_workOut 197 = .ok (.iconst 1, 1) := by decide +kernel
theorem dX7_workOut_198 : decode cX7_workOut 198 = .ok (.iload_n 2, 1) := by decide +kernel
theorem dX7_workOut_199 : decode cX7_workOut 199 = .ok (.iconst 1, 1) := by decide +kernel
theorem dX7_workOut_200 : decode cX7_workOut 200 = .ok (.iadd, 1) := by decide +kernel
theorem dX7_workOut_201 : decode cX7_workOut 201 = .ok (.iload_n 3, 1) := by decide +kernel
theorem dX7_workOut_202 : decode cX7_workOut 202 = .ok (.invokevirtual 63, 3) := by decide +kernel
theorem dX7_workOut_205 : decode cX7_workOut 205 = .ok (.ireturn, 1) := by decide +kernel
theorem dX7_workOut_206 : decode cX7_workOut 206 = .ok (.aload_n 0, 1) := by decide +kernel
theorem dX7_workOut_207 : decode cX7_workOut 207 = .ok (.bipush 6, 2) := by decide +kernel
theorem dX7_workOut_209 : decode cX7_workOut 209 = .ok (.iconst 2, 1) := by decide +kernel
theorem dX7_workOut_210 : decode cX7_workOut 210 = .ok (.iload_n 2, 1) := by decide +kernel
theorem dX7_workOut_211 : decode cX7_workOut 211 = .ok (.iload_n 3, 1) := by decide +kernel
theorem dX7_workOut_212 : decode cX7_workOut 212 = .ok (.invokevirtual 63, 3) := by decide +kernel
theorem dX7_workOut_215 : decode cX7_workOut 215 = .ok (.aload_n 0, 1) := by decide +kernel
theorem dX7_workOut_216 : decode cX7_workOut 216 = .ok (.getfield 24, 3) := by decide +kernel
theorem dX7_workOut_219 : decode cX7_workOut 219 = .ok (.ixor, 1) := by decide +kernel
theorem dX7_workOut_220 : decode cX7_workOut 220 = .ok (.ireturn, 1) := by decide +kernel
theorem dX7_workOut_221 : decode cX7_workOut 221 = .ok (.aload_n 0, 1) := by decide +kernel
theorem dX7_workOut_222 : decode cX7_workOut 222 = .ok (.iconst 1, 1) := by decide +kernel
theorem dX7_workOut_223 : decode cX7_workOut 223 = .ok (.iload_n 2, 1) := by decide +kernel
theorem dX7_workOut_224 : decode cX7_workOut 224 = .ok (.iload_n 3, 1) := by decide +kernel
theorem dX7_workOut_225 : decode cX7_workOut 225 = .ok (.invokevirtual 60, 3) := by decide +kernel
theorem dX7_workOut_228 : decode cX7_workOut 228 = .ok (.aload_n 0, 1) := by decide +kernel
theorem dX7_workOut_229 : decode cX7_workOut 229 = .ok (.bipush 6, 2) := by decide +kernel
theorem dX7_workOut_231 : decode cX7_workOut 231 = .ok (.iconst 3, 1) := by decide +kernel
theorem dX7_workOut_232 : decode cX7_workOut 232 = .ok (.iload_n 2, 1) := by decide +kernel
theorem dX7_workOut_233 : decode cX7_workOut 233 = .ok (.iload_n 3, 1) := by decide +kernel
theorem dX7_workOut_234 : decode cX7_workOut 234 = .ok (.invokevirtual 63, 3) := by decide +kernel
theorem dX7_workOut_237 : decode cX7_workOut 237 = .ok (.isub, 1) := by decide +kernel
theorem dX7_workOut_238 : decode cX7_workOut 238 = .ok (.ireturn, 1) := by decide +kernel
theorem dX7_workOut_239 : decode cX7_workOut 239 = .ok (.iconst 0, 1) := by decide +kernel
theorem dX7_workOut_240 : decode cX7_workOut 240 = .ok (.ireturn, 1) := by decide +kernel
theorem dX8_init_0 : decode cX8_init 0 = .ok (.aload_n 0, 1) := by decide +kernel
theorem dX8_init_1 : decode cX8_init 1 = .ok (.invokespecial 3, 3) := by decide +kernel
theorem dX8_init_4 : decode cX8_init 4 = .ok (.aload_n 0, 1) := by decide +kernel
theorem dX8_init_5 : decode cX8_init 5 = .ok (.new 9, 3) := by decide +kernel
theorem dX8_init_8 : decode cX8_init 8 = .ok (.dup, 1) := by decide +kernel
theorem dX8_init_9 : decode cX8_init 9 = .ok (.invokespecial 11, 3) := by decide +kernel
theorem dX8_init_12 : decode cX8_init 12 = .ok (.putfield 12, 3) := by decide +kernel
theorem dX8_init_15 : decode cX8_init 15 = .ok (.aload_n 0, 1) := by decide +kernel
theorem dX8_init_16 : decode cX8_init 16 = .ok (.new 18, 3) := by decide +kernel
theorem dX8_init_19 : decode cX8_init 19 = .ok (.dup, 1) := by decide +kernel
theorem dX8_init_20 : decode cX8_init 20 = .ok (.bipush 50, 2) := by decide +kernel
theorem dX8_init_22 : decode cX8_init 22 = .ok (.invokespecial 20, 3) := by decide +kernel
theorem dX8_init_25 : decode cX8_init 25 = .ok (.putfield 23, 3) := by decide +kernel
theorem dX8_init_28 : decode cX8_init 28 = .ok (.aload_n 0, 1) := by decide +kernel
theorem dX8_init_29 : decode cX8_init 29 = .ok (.new 18, 3) := by decide +kernel
theorem dX8_init_32 : decode cX8_init 32 = .ok (.dup, 1) := by decide +kernel
theorem dX8_init_33 : decode cX8_init 33 = .ok (.bipush 20, 2) := by decide +kernel
theorem dX8_init_35 : decode cX8_init 35 = .ok (.invokespecial 20, 3) := by decide +kernel
theorem dX8_init_38 : decode cX8_init 38 = .ok (.putfield 27, 3) := by decide +kernel
theorem dX8_init_41 : decode cX8_init 41 = .ok (.aload_n 0, 1) := by decide +kernel
theorem dX8_init_42 : decode cX8_init 42 = .ok (.iconst 1, 1) := by decide +kernel
theorem dX8_init_43 : decode cX8_init 43 = .ok (.putfield 30, 3) := by decide +kernel
theorem dX8_init_46 : decode cX8_init 46 = .ok (.return_, 1) := by decide +kernel
theorem dX8_drift_0 : decode cX8_drift 0 = .ok (.aload_n 0, 1) := by decide +kernel
theorem dX8_drift_1 : decode cX8_drift 1 = .ok (.aload_n 0, 1) := by decide +kernel
theorem dX8_drift_2 : decode cX8_drift 2 = .ok (.getfield 30, 3) := by decide +kernel
theorem dX8_drift_5 : decode cX8_drift 5 = .ok (.ldc 34, 2) := by decide +kernel
theorem dX8_drift_7 : decode cX8_drift 7 = .ok (.imul, 1) := by decide +kernel
theorem dX8_drift_8 : decode cX8_drift 8 = .ok (.sipush 12345, 3) := by decide +kernel
theorem dX8_drift_11 : decode cX8_drift 11 = .ok (.iadd, 1) := by decide +kernel
theorem dX8_drift_12 : decode cX8_drift 12 = .ok (.putfield 30, 3) := by decide +kernel
theorem dX8_drift_15 : decode cX8_drift 15 = .ok (.aload_n 0, 1) := by decide +kernel
theorem dX8_drift_16 : decode cX8_drift 16 = .ok (.getfield 30, 3) := by decide +kernel
theorem dX8_drift_19 : decode cX8_drift 19 = .ok (.bipush 8, 2) := by decide +kernel
theorem dX8_drift_21 : decode cX8_drift 21 = .ok (.iushr, 1) := by decide +kernel
theorem dX8_drift_22 : decode cX8_drift 22 = .ok (.istore_n 1, 1) := by decide +kernel
theorem dX8_drift_23 : decode cX8_drift 23 = .ok (.aload_n 0, 1) := by decide +kernel
theorem dX8_drift_24 : decode cX8_drift 24 = .ok (.getfield 12, 3) := by decide +kernel
theorem dX8_drift_27 : decode cX8_drift 27 = .ok (.iload_n 1, 1) := by decide +kernel
theorem dX8_drift_28 : decode cX8_drift 28 = .ok (.bipush 10, 2) := by decide +kernel
theorem dX8_drift_30 : decode cX8_drift 30 = .ok (.irem, 1) := by decide +kernel
theorem dX8_drift_31 : decode cX8_drift 31 = .ok (.iload_n 1, 1) := by decide +kernel
theorem dX8_drift_32 : decode cX8_drift 32 = .ok (.bipush 8, 2) := by decide +kernel
theorem dX8_drift_34 : decode cX8_drift 34 = .ok (.idiv, 1) := by decide +kernel
theorem dX8_drift_35 : decode cX8_drift 35 = .ok (.bipush 30, 2) := by decide +kernel
theorem dX8_drift_37 : decode cX8_drift 37 = .ok (.irem, 1) := by decide +kernel
theorem dX8_drift_38 : decode cX8_drift 38 = .ok (.invokevirtual 35, 3) := by decide +kernel
theorem dX8_drift_41 : decode cX8_drift 41 = .ok (.return_, 1) := by decide +kernel
theorem dX8_copyFrom_0 : decode cX8_copyFrom 0 = .ok (.aload_n 0, 1) := by decide +kernel
theorem dX8_copyFrom_1 : decode cX8_copyFrom 1 = .ok (.getfield 12, 3) := by decide +kernel
theorem dX8_copyFrom_4 : decode cX8_copyFrom 4 = .ok (.aload_n 1, 1) := by decide +kernel
theorem dX8_copyFrom_5 : decode cX8_copyFrom 5 = .ok (.getfield 12, 3) := by decide +kernel
theorem dX8_copyFrom_8 : decode cX8_copyFrom 8 = .ok (.invokevirtual 39, 3) := by decide +kernel
theorem dX8_copyFrom_11 : decode cX8_copyFrom 11 = .ok (.aload_n 0, 1) := by decide +kernel
theorem dX8_copyFrom_12 : decode cX8_copyFrom 12 = .ok (.getfield 23, 3) := by decide +kernel
theorem dX8_copyFrom_15 : decode cX8_copyFrom 15 = .ok (.aload_n 1, 1) := by decide +kernel
theorem dX8_copyFrom_16 : decode cX8_copyFrom 16 = .ok (.getfield 23, 3) := by decide +kernel
theorem dX8_copyFrom_19 : decode cX8_copyFrom 19 = .ok (.invokevirtual 43, 3) := by decide +kernel
theorem dX8_copyFrom_22 : decode cX8_copyFrom 22 = .ok (.aload_n 0, 1) := by decide +kernel
theorem dX8_copyFrom_23 : decode cX8_copyFrom 23 = .ok (.getfield 27, 3) := by decide +kernel
theorem dX8_copyFrom_26 : decode cX8_copyFrom 26 = .ok (.aload_n 1, 1) := by decide +kernel
theorem dX8_copyFrom_27 : decode cX8_copyFrom 27 = .ok (.getfield 27, 3) := by decide +kernel
theorem dX8_copyFrom_30 : decode cX8_copyFrom 30 = .ok (.invokevirtual 43, 3) := by decide +kernel
theorem dX8_copyFrom_33 : decode cX8_copyFrom 33 = .ok (.aload_n 0, 1) := by decide +kernel
theorem dX8_copyFrom_34 : decode cX8_copyFrom 34 = .ok (.aload_n 1, 1) := by decide +kernel
theorem dX8_copyFrom_35 : decode cX8_copyFrom 35 = .ok (.getfield 30, 3) := by decide +kernel
theorem dX8_copyFrom_38 : decode cX8_copyFrom 38 = .ok (.putfield 30, 3) := by decide +kernel
theorem dX8_copyFrom_41 : decode cX8_copyFrom 41 = .ok (.return_, 1) := by decide +kernel
theorem dJ6_bitCount_0f7a4_0 : decode cJ6_bitCount_0f7a4 0 = .ok (.iload_n 0, 1) := by decide +kernel
theorem dJ6_bitCount_0f7a4_1 : decode cJ6_bitCount_0f7a4 1 = .ok (.iload_n 0, 1) := by decide +kernel
theorem dJ6_bitCount_0f7a4_2 : decode cJ6_bitCount_0f7a4 2 = .ok (.iconst 1, 1) := by decide +kernel
theorem dJ6_bitCount_0f7a4_3 : decode cJ6_bitCount_0f7a4 3 = .ok (.iushr, 1) := by decide +kernel
theorem dJ6_bitCount_0f7a4_4 : decode cJ6_bitCount_0f7a4 4 = .ok (.ldc_w 265, 3) := by decide +kernel
theorem dJ6_bitCount_0f7a4_7 : decode cJ6_bitCount_0f7a4 7 = .ok (.iand, 1) := by decide +kernel
theorem dJ6_bitCount_0f7a4_8 : decode cJ6_bitCount_0f7a4 8 = .ok (.isub, 1) := by decide +kernel
theorem dJ6_bitCount_0f7a4_9 : decode cJ6_bitCount_0f7a4 9 = .ok (.istore_n 0, 1) := by decide +kernel
theorem dJ6_bitCount_0f7a4_10 : decode cJ6_bitCount_0f7a4 10 = .ok (.iload_n 0, 1) := by decide +kernel
theorem dJ6_bitCount_0f7a4_11 : decode cJ6_bitCount_0f7a4 11 = .ok (.ldc_w 266, 3) := by decide +kernel
theorem dJ6_bitCount_0f7a4_14 : decode cJ6_bitCount_0f7a4 14 = .ok (.iand, 1) := by decide +kernel
theorem dJ6_bitCount_0f7a4_15 : decode cJ6_bitCount_0f7a4 15 = .ok (.iload_n 0, 1) := by decide +kernel
theorem dJ6_bitCount_0f7a4_16 : decode cJ6_bitCount_0f7a4 16 = .ok (.iconst 2, 1) := by decide +kernel
theorem dJ6_bitCount_0f7a4_17 : decode cJ6_bitCount_0f7a4 17 = .ok (.iushr, 1) := by decide +kernel
theorem dJ6_bitCount_0f7a4_18 : decode cJ6_bitCount_0f7a4 18 = .ok (.ldc_w 266, 3) := by decide +kernel
theorem dJ6_bitCount_0f7a4_21 : decode cJ6_bitCount_0f7a4 21 = .ok (.iand, 1) := by decide +kernel
theorem dJ6_bitCount_0f7a4_22 : decode cJ6_bitCount_0f7a4 22 = .ok (.iadd, 1) := by decide +kernel
theorem dJ6_bitCount_0f7a4_23 : decode cJ6_bitCount_0f7a4 23 = .ok (.istore_n 0, 1) := by decide +kernel
theorem dJ6_bitCount_0f7a4_24 : decode cJ6_bitCount_0f7a4 24 = .ok (.iload_n 0, 1) := by decide +kernel
theorem dJ6_bitCount_0f7a4_25 : decode cJ6_bitCount_0f7a4 25 = .ok (.iload_n 0, 1) := by decide +kernel
theorem dJ6_bitCount_0f7a4_26 : decode cJ6_bitCount_0f7a4 26 = .ok (.iconst 4, 1) := by decide +kernel
theorem dJ6_bitCount_0f7a4_27 : decode cJ6_bitCount_0f7a4 27 = .ok (.iushr, 1) := by decide +kernel
theorem dJ6_bitCount_0f7a4_28 : decode cJ6_bitCount_0f7a4 28 = .ok (.iadd, 1) := by decide +kernel
theorem dJ6_bitCount_0f7a4_29 : decode cJ6_bitCount_0f7a4 29 = .ok (.ldc_w 267, 3) := by decide +kernel
theorem dJ6_bitCount_0f7a4_32 : decode cJ6_bitCount_0f7a4 32 = .ok (.iand, 1) := by decide +kernel
theorem dJ6_bitCount_0f7a4_33 : decode cJ6_bitCount_0f7a4 33 = .ok (.istore_n 0, 1) := by decide +kernel
theorem dJ6_bitCount_0f7a4_34 : decode cJ6_bitCount_0f7a4 34 = .ok (.iload_n 0, 1) := by decide +kernel
theorem dJ6_bitCount_0f7a4_35 : decode cJ6_bitCount_0f7a4 35 = .ok (.iload_n 0, 1) := by decide +kernel
theorem dJ6_bitCount_0f7a4_36 : decode cJ6_bitCount_0f7a4 36 = .ok (.bipush 8, 2) := by decide +kernel
theorem dJ6_bitCount_0f7a4_38 : decode cJ6_bitCount_0f7a4 38 = .ok (.iushr, 1) := by decide +kernel
theorem dJ6_bitCount_0f7a4_39 : decode cJ6_bitCount_0f7a4 39 = .ok (.iadd, 1) := by decide +kernel
theorem dJ6_bitCount_0f7a4_40 : decode cJ6_bitCount_0f7a4 40 = .ok (.istore_n 0, 1) := by decide +kernel
theorem dJ6_bitCount_0f7a4_41 : decode cJ6_bitCount_0f7a4 41 = .ok (.iload_n 0, 1) := by decide +kernel
theorem dJ6_bitCount_0f7a4_42 : decode cJ6_bitCount_0f7a4 42 = .ok (.iload_n 0, 1) := by decide +kernel
theorem dJ6_bitCount_0f7a4_43 : decode cJ6_bitCount_0f7a4 43 = .ok (.bipush 16, 2) := by decide +kernel
theorem dJ6_bitCount_0f7a4_45 : decode cJ6_bitCount_0f7a4 45 = .ok (.iushr, 1) := by decide +kernel
theorem dJ6_bitCount_0f7a4_46 : decode cJ6_bitCount_0f7a4 46 = .ok (.iadd, 1) := by decide +kernel
theorem dJ6_bitCount_0f7a4_47 : decode cJ6_bitCount_0f7a4 47 = .ok (.istore_n 0, 1) := by decide +kernel
theorem dJ6_bitCount_0f7a4_48 : decode cJ6_bitCount_0f7a4 48 = .ok (.iload_n 0, 1) := by decide +kernel
theorem dJ6_bitCount_0f7a4_49 : decode cJ6_bitCount_0f7a4 49 = .ok (.bipush 63, 2) := by decide +kernel
theorem dJ6_bitCount_0f7a4_51 : decode cJ6_bitCount_0f7a4 51 = .ok (.iand, 1) := by decide +kernel
theorem dJ6_bitCount_0f7a4_52 : decode cJ6_bitCount_0f7a4 52 = .ok (.ireturn, 1) := by decide +kernel
theorem dJ9_abs_0f7a4_0 : decode cJ9_abs_0f7a4 0 = .ok (.iload_n 0, 1) := by decide +kernel
theorem dJ9_abs_0f7a4_1 : decode cJ9_abs_0f7a4 1 = .ok (.ifCond .ge 8, 3) := by decide +kernel
theorem dJ9_abs_0f7a4_4 : decode cJ9_abs_0f7a4 4 = .ok (.iload_n 0, 1) := by decide +kernel
theorem dJ9_abs_0f7a4_5 : decode cJ9_abs_0f7a4 5 = .ok (.ineg, 1) := by decide +kernel
theorem dJ9_abs_0f7a4_6 : decode cJ9_abs_0f7a4 6 = .ok (.goto 4, 3) := by decide +kernel
theorem dJ9_abs_0f7a4_9 : decode cJ9_abs_0f7a4 9 = .ok (.iload_n 0, 1) := by decide +kernel
theorem dJ9_abs_0f7a4_10 : decode cJ9_abs_0f7a4 10 = .ok (.ireturn, 1) := by decide +kernel
theorem dJ9_max_7cf53_0 : decode cJ9_max_7cf53 0 = .ok (.iload_n 0, 1) := by decide +kernel
theorem dJ9_max_7cf53_1 : decode cJ9_max_7cf53 1 = .ok (.iload_n 1, 1) := by decide +kernel
theorem dJ9_max_7cf53_2 : decode cJ9_max_7cf53 2 = .ok (.if_icmp .lt 7, 3) := by decide +kernel
theorem dJ9_max_7cf53_5 : decode cJ9_max_7cf53 5 = .ok (.iload_n 0, 1) := by decide +kernel
theorem dJ9_max_7cf53_6 : decode cJ9_max_7cf53 6 = .ok (.goto 4, 3) := by decide +kernel
theorem dJ9_max_7cf53_9 : decode cJ9_max_7cf53 9 = .ok (.iload_n 1, 1) := by decide +kernel
theorem dJ9_max_7cf53_10 : decode cJ9_max_7cf53 10 = .ok (.ireturn, 1) := by decide +kernel
theorem dJ9_min_7cf53_0 : decode cJ9_min_7cf53 0 = .ok (.iload_n 0, 1) := by decide +kernel
theorem dJ9_min_7cf53_1 : decode cJ9_min_7cf53 1 = .ok (.iload_n 1, 1) := by decide +kernel
theorem dJ9_min_7cf53_2 : decode cJ9_min_7cf53 2 = .ok (.if_icmp .gt 7, 3) := by decide +kernel
theorem dJ9_min_7cf53_5 : decode cJ9_min_7cf53 5 = .ok (.iload_n 0, 1) := by decide +kernel
theorem dJ9_min_7cf53_6 : decode cJ9_min_7cf53 6 = .ok (.goto 4, 3) := by decide +kernel
theorem dJ9_min_7cf53_9 : decode cJ9_min_7cf53 9 = .ok (.iload_n 1, 1) := by decide +kernel
theorem dJ9_min_7cf53_10 : decode cJ9_min_7cf53 10 = .ok (.ireturn, 1) := by decide +kernel
