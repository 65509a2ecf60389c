theorem dX10_sum_4 : decode cX10_sum 4 = .ok (.aload_n 0, 1) := by decide +kernel
theorem dX10_sum_5 : decode cX10_sum 5 = .ok (.getfield 108, 3) := by decide +kernel
theorem dX10_sum_8 : decode cX10_sum 8 = .ok (.ifCond .eq 64, 3) := by decide +kernel
theorem dX10_sum_11 : decode cX10_sum 11 = .ok (.aload_n 0, 1) := by decide +kernel
theorem dX10_sum_12 : decode cX10_sum 12 = .ok (.aload_n 0, 1) := by decide +kernel
theorem dX10_sum_13 : decode cX10_sum 13 = .ok (.getfield 115, 3) := by decide +kernel
theorem dX10_sum_16 : decode cX10_sum 16 = .ok (.invokevirtual 117, 3) := by decide +kernel
theorem dX10_sum_19 : decode cX10_sum 19 = .ok (.bipush 43, 2) := by decide +kernel
theorem dX10_sum_21 : decode cX10_sum 21 = .ok (.if_icmp .eq 16, 3) := by decide +kernel
theorem dX10_sum_24 : decode cX10_sum 24 = .ok (.aload_n 0, 1) := by decide +kernel
theorem dX10_sum_25 : decode cX10_sum 25 = .ok (.aload_n 0, 1) := by decide +kernel
theorem dX10_sum_26 : decode cX10_sum 26 = .ok (.getfield 115, 3) := by decide +kernel
theorem dX10_sum_29 : decode cX10_sum 29 = .ok (.invokevirtual 117, 3) := by decide +kernel
theorem dX10_sum_32 : decode cX10_sum 32 = .ok (.bipush 45, 2) := by decide +kernel
theorem dX10_sum_34 : decode cX10_sum 34 = .ok (.if_icmp .ne 38, 3) := by decide +kernel
theorem dX10_sum_37 : decode cX10_sum 37 = .ok (.aload_n 0, 1) := by decide +kernel
theorem dX10_sum_38 : decode cX10_sum 38 = .ok (.aload_n 0, 1) := by decide +kernel
theorem dX10_sum_39 : decode cX10_sum 39 = .ok (.getfield 115, 3) := by decide +kernel
theorem dX10_sum_42 : decode cX10_sum 42 = .ok (.invokevirtual 117, 3) := by decide +kernel
theorem dX10_sum_45 : decode cX10_sum 45 = .ok (.istore_n 1, 1) := by decide +kernel
theorem dX10_sum_46 : decode cX10_sum 46 = .ok (.aload_n 0, 1) := by decide +kernel
theorem dX10_sum_47 : decode cX10_sum 47 = .ok (.dup, 1) := by decide +kernel
theorem dX10_sum_48 : decode cX10_sum 48 = .ok (.getfield 115, 3) := by decide +kernel
theorem dX10_sum_51 : decode cX10_sum 51 = .ok (.iconst 1, 1) := by decide +kernel
theorem dX10_sum_52 : decode cX10_sum 52 = .ok (.iadd, 1) := by decide +kernel
theorem dX10_sum_53 : decode cX10_sum 53 = .ok (.putfield 115, 3) := by decide +kernel
theorem dX10_sum_56 : decode cX10_sum 56 = .ok (.aload_n 0, 1) := by decide +kernel
theorem dX10_sum_57 : decode cX10_sum 57 = .ok (.invokevirtual 145, 3) := by decide +kernel
theorem dX10_sum_60 : decode cX10_sum 60 = .ok (.aload_n 0, 1) := by decide +kernel
theorem dX10_sum_61 : decode cX10_sum 61 = .ok (.sipush 20000, 3) := by decide +kernel
theorem dX10_sum_64 : decode cX10_sum 64 = .ok (.iload_n 1, 1) := by decide +kernel
theorem dX10_sum_65 : decode cX10_sum 65 = .ok (.iadd, 1) := by decide +kernel
theorem dX10_sum_66 : decode cX10_sum 66 = .ok (.invokevirtual 123, 3) := by decide +kernel
theorem dX10_sum_69 : decode cX10_sum 69 = .ok (.goto (-65), 3) := by decide +kernel
theorem dX10_sum_72 : decode cX10_sum 72 = .ok (.return_, 1) := by decide +kernel
theorem dX10_compared_0 : decode cX10_compared 0 = .ok (.aload_n 0, 1) := by decide +kernel
theorem dX10_compared_1 : decode cX10_compared 1 = .ok (.invokevirtual 148, 3) := by decide +kernel
theorem dX10_compared_4 : decode cX10_compared 4 = .ok (.aload_n 0, 1) := by decide +kernel
theorem dX10_compared_5 : decode cX10_compared 5 = .ok (.getfield 108, 3) := by decide +kernel
theorem dX10_compared_8 : decode cX10_compared 8 = .ok (.ifCond .eq 14, 3) := by decide +kernel
theorem dX10_compared_11 : decode cX10_compared 11 = .ok (.aload_n 0, 1) := by decide +kernel
theorem dX10_compared_12 : decode cX10_compared 12 = .ok (.aload_n 0, 1) := by decide +kernel
theorem dX10_compared_13 : decode cX10_compared 13 = .ok (.getfield 115, 3) := by decide +kernel
theorem dX10_compared_16 : decode cX10_compared 16 = .ok (.invokevirtual 117, 3) := by decide +kernel
theorem dX10_compared_19 : decode cX10_compared 19 = .ok (.goto 4, 3) := by decide +kernel
theorem dX10_compared_22 : decode cX10_compared 22 = .ok (.iconst (-1), 1) := by decide +kernel
theorem dX10_compared_23 : decode cX10_compared 23 = .ok (.istore_n 1, 1) := by decide +kernel
theorem dX10_compared_24 : decode cX10_compared 24 = .ok (.iload_n 1, 1) := by decide +kernel
theorem dX10_compared_25 : decode cX10_compared 25 = .ok (.bipush 60, 2) := by decide +kernel
theorem dX10_compared_27 : decode cX10_compared 27 = .ok (.if_icmp .eq 15, 3) := by decide +kernel
theorem dX10_compared_30 : decode cX10_compared 30 = .ok (.iload_n 1, 1) := by decide +kernel
theorem dX10_compared_31 : decode cX10_compared 31 = .ok (.bipush 61, 2) := by decide +kernel
theorem dX10_compared_33 : decode cX10_compared 33 = .ok (.if_icmp .eq 9, 3) := by decide +kernel
theorem dX10_compared_36 : decode cX10_compared 36 = .ok (.iload_n 1, 1) := by decide +kernel
theorem dX10_compared_37 : decode cX10_compared 37 = .ok (.bipush 62, 2) := by decide +kernel
theorem dX10_compared_39 : decode cX10_compared 39 = .ok (.if_icmp .ne 26, 3) := by decide +kernel
theorem dX10_compared_42 : decode cX10_compared 42 = .ok (.aload_n 0, 1) := by decide +kernel
theorem dX10_compared_43 : decode cX10_compared 43 = .ok (.dup, 1) := by decide +kernel
theorem dX10_compared_44 : decode cX10_compared 44 = .ok (.getfield 115, 3) := by decide +kernel
theorem dX10_compared_47 : decode cX10_compared 47 = .ok (.iconst 1, 1) := by decide +kernel
theorem dX10_compared_48 : decode cX10_compared 48 = .ok (.iadd, 1) := by decide +kernel
theorem dX10_compared_49 : decode cX10_compared 49 = .ok (.putfield 115, 3) := by decide +kernel
theorem dX10_compared_52 : decode cX10_compared 52 = .ok (.aload_n 0, 1) := by decide +kernel
theorem dX10_compared_53 : decode cX10_compared 53 = .ok (.invokevirtual 148, 3) := by decide +kernel
theorem dX10_compared_56 : decode cX10_compared 56 = .ok (.aload_n 0, 1) := by decide +kernel
theorem dX10_compared_57 : decode cX10_compared 57 = .ok (.sipush 20000, 3) := by decide +kernel
theorem dX10_compared_60 : decode cX10_compared 60 = .ok (.iload_n 1, 1) := by decide +kernel
theorem dX10_compared_61 : decode cX10_compared 61 = .ok (.iadd, 1) := by decide +kernel
theorem dX10_compared_62 : decode cX10_compared 62 = .ok (.invokevirtual 123, 3) := by decide +kernel
theorem dX10_compared_65 : decode cX10_compared 65 = .ok (.return_, 1) := by decide +kernel
theorem dX10_both_0 : decode cX10_both 0 = .ok (.aload_n 0, 1) := by decide +kernel
theorem dX10_both_1 : decode cX10_both 1 = .ok (.invokevirtual 151, 3) := by decide +kernel
theorem dX10_both_4 : decode cX10_both 4 = .ok (.aload_n 0, 1) := by decide +kernel
theorem dX10_both_5 : decode cX10_both 5 = .ok (.getfield 108, 3) := by decide +kernel
theorem dX10_both_8 : decode cX10_both 8 = .ok (.ifCond .eq 40, 3) := by decide +kernel
theorem dX10_both_11 : decode cX10_both 11 = .ok (.aload_n 0, 1) := by decide +kernel
theorem dX10_both_12 : decode cX10_both 12 = .ok (.aload_n 0, 1) := by decide +kernel
theorem dX10_both_13 : decode cX10_both 13 = .ok (.getfield 115, 3) := by decide +kernel
theorem dX10_both_16 : decode cX10_both 16 = .ok (.invokevirtual 117, 3) := by decide +kernel
theorem dX10_both_19 : decode cX10_both 19 = .ok (.bipush 38, 2) := by decide +kernel
theorem dX10_both_21 : decode cX10_both 21 = .ok (.if_icmp .ne 27, 3) := by decide +kernel
theorem dX10_both_24 : decode cX10_both 24 = .ok (.aload_n 0, 1) := by decide +kernel
theorem dX10_both_25 : decode cX10_both 25 = .ok (.dup, 1) := by decide +kernel
theorem dX10_both_26 : decode cX10_both 26 = .ok (.getfield 115, 3) := by decide +kernel
theorem dX10_both_29 : decode cX10_both 29 = .ok (.iconst 1, 1) := by decide +kernel
theorem dX10_both_30 : decode cX10_both 30 = .ok (.iadd, 1) := by decide +kernel
theorem dX10_both_31 : decode cX10_both 31 = .ok (.putfield 115, 3) := by decide +kernel
theorem dX10_both_34 : decode cX10_both 34 = .ok (.aload_n 0, 1) := by decide +kernel
theorem dX10_both_35 : decode cX10_both 35 = .ok (.invokevirtual 151, 3) := by decide +kernel
theorem dX10_both_38 : decode cX10_both 38 = .ok (.aload_n 0, 1) := by decide +kernel
theorem dX10_both_39 : decode cX10_both 39 = .ok (.sipush 20038, 3) := by decide +kernel
theorem dX10_both_42 : decode cX10_both 42 = .ok (.invokevirtual 123, 3) := by decide +kernel
theorem dX10_both_45 : decode cX10_both 45 = .ok (.goto (-41), 3) := by decide +kernel
theorem dX10_both_48 : decode cX10_both 48 = .ok (.return_, 1) := by decide +kernel
theorem dX10_whole_0 : decode cX10_whole 0 = .ok (.aload_n 0, 1) := by decide +kernel
theorem dX10_whole_1 : decode cX10_whole 1 = .ok (.invokevirtual 154, 3) := by decide +kernel
theorem dX10_whole_4 : decode cX10_whole 4 = .ok (.aload_n 0, 1) := by decide +kernel
theorem dX10_whole_5 : decode cX10_whole 5 = .ok (.getfield 108, 3) := by decide +kernel
theorem dX10_whole_8 : decode cX10_whole 8 = .ok (.ifCond .eq 40, 3) := by decide +kernel
theorem dX10_whole_11 : decode cX10_whole 11 = .ok (.aload_n 0, 1) := by decide +kernel
theorem dX10_whole_12 : decode cX10_whole 12 = .ok (.aload_n 0, 1) := by decide +kernel
theorem dX10_whole_13 : decode cX10_whole 13 = .ok (.getfield 115, 3) := by decide +kernel
theorem dX10_whole_16 : decode cX10_whole 16 = .ok (.invokevirtual 117, 3) := by decide +kernel
theorem dX10_whole_19 : decode cX10_whole 19 = .ok (.bipush 124, 2) := by decide +kernel
theorem dX10_whole_21 : decode cX10_whole 21 = .ok (.if_icmp .ne 27, 3) := by decide +kernel
theorem dX10_whole_24 : decode cX10_whole 24 = .ok (.aload_n 0, 1) := by decide +kernel
theorem dX10_whole_25 : decode cX10_whole 25 = .ok (.dup, 1) := by decide +kernel
theorem dX10_whole_26 : decode cX10_whole 26 = .ok (.getfield 115, 3) := by decide +kernel
theorem dX10_whole_29 : decode cX10_whole 29 = .ok (.iconst 1, 1) := by decide +kernel
theorem dX10_whole_30 : decode cX10_whole 30 = .ok (.iadd, 1) := by decide +kernel
theorem dX10_whole_31 : decode cX10_whole 31 = .ok (.putfield 115, 3) := by decide +kernel
theorem dX10_whole_34 : decode cX10_whole 34 = .ok (.aload_n 0, 1) := by decide +kernel
theorem dX10_whole_35 : decode cX10_whole 35 = .ok (.invokevirtual 154, 3) := by decide +kernel
theorem dX10_whole_38 : decode cX10_whole 38 = .ok (.aload_n 0, 1) := by decide +kernel
theorem dX10_whole_39 : decode cX10_whole 39 = .ok (.sipush 20124, 3) := by decide +kernel
theorem dX10_whole_42 : decode cX10_whole 42 = .ok (.invokevirtual 123, 3) := by decide +kernel
theorem dX10_whole_45 : decode cX10_whole 45 = .ok (.goto (-41), 3) := by decide +kernel
theorem dX10_whole_48 : decode cX10_whole 48 = .ok (.return_, 1) := by decide +kernel
theorem dX10_workedOut_0 : decode cX10_workedOut 0 = .ok (.iload_n 0, 1) := by decide +kernel
theorem dX10_workedOut_1 : decode cX10_workedOut 1 = .ok (.tableswitch 202 37 62 #[135, 188, 202, 202, 202, 119, 147, 202, 151, 202, 123, 202, 202, 202, 202, 202, 202, 202, 202, 202, 202, 202, 202, 155, 166, 177], 119) := by decide +kernel
theorem dX10_workedOut_120 : decode cX10_workedOut 120 = .ok (.iload_n 1, 1) := by decide +kernel
theorem dX10_workedOut_121 : decode cX10_workedOut 121 = .ok (.iload_n 2, 1) := by decide +kernel
theorem dX10_workedOut_122 : decode cX10_workedOut 122 = .ok (.imul, 1) := by decide +kernel
theorem dX10_workedOut_123 : decode cX10_workedOut 123 = .ok (.ireturn, 1) := by decide +kernel
theorem dX10_workedOut_124 : decode cX10_workedOut 124 = .ok (.iload_n 2, 1) := by decide +kernel
theorem dX10_workedOut_125 : decode cX10_workedOut 125 = .ok (.ifCond .ne 7, 3) := by decide +kernel
theorem dX10_workedOut_128 : decode cX10_workedOut 128 = .ok (.iconst 0, 1) := by decide +kernel
theorem dX10_workedOut_129 : decode cX10_workedOut 129 = .ok (.goto 6, 3) := by decide +kernel
theorem dX10_workedOut_132 : decode cX10_workedOut 132 = .ok (.iload_n 1, 1) := by decide +kernel
theorem dX10_workedOut_133 : decode cX10_workedOut 133 = .ok (.iload_n 2, 1) := by decide +kernel
theorem dX10_workedOut_134 : decode cX10_workedOut 134 = .ok (.idiv, 1) := by decide +kernel
theorem dX10_workedOut_135 : decode cX10_workedOut 135 = .ok (.ireturn, 1) := by decide +kernel
theorem dX10_workedOut_136 : decode cX10_workedOut 136 = .ok (.iload_n 2, 1) := by decide +kernel
theorem dX10_workedOut_137 : decode cX10_workedOut 137 = .ok (.ifCond .ne 7, 3) := by decide +kernel
theorem dX10_workedOut_140 : decode cX10_workedOut 140 = .ok (.iconst 0, 1) := by decide +kernel
theorem dX10_workedOut_141 : decode cX10_workedOut 141 = .ok (.goto 6, 3) := by decide +kernel
theorem dX10_workedOut_144 : decode cX10_workedOut 144 = .ok (.iload_n 1, 1) := by decide +kernel
theorem dX10_workedOut_145 : decode cX10_workedOut 145 = .ok (.iload_n 2, 1) := by decide +kernel
theorem dX10_workedOut_146 : decode cX10_workedOut 146 = .ok (.irem, 1) := by decide +kernel
theorem dX10_workedOut_147 : decode cX10_workedOut 147 = .ok (.ireturn, 1) := by decide +kernel
theorem dX10_workedOut_148 : decode cX10_workedOut 148 = .ok (.iload_n 1, 1) := by decide +kernel
theorem dX10_workedOut_149 : decode cX10_workedOut 149 = .ok (.iload_n 2, 1) := by decide +kernel
theorem dX10_workedOut_150 : decode cX10_workedOut 150 = .ok (.iadd, 1) := by decide +kernel
theorem dX10_workedOut_151 : decode cX10_workedOut 151 = .ok (.ireturn, 1) := by decide +kernel
theorem dX10_workedOut_152 : decode cX10_workedOut 152 = .ok (.iload_n 1, 1) := by decide +kernel
theorem dX10_workedOut_153 : decode cX10_workedOut 153 = .ok (.iload_n 2, 1) := by decide +kernel
theorem dX10_workedOut_154 : decode cX10_workedOut 154 = .ok (.isub, 1) := by decide +kernel
theorem dX10_workedOut_155 : decode cX10_workedOut 155 = .ok (.ireturn, 1) := by decide +kernel
theorem dX10_workedOut_156 : decode cX10_workedOut 156 = .ok (.iload_n 1, 1) := by decide +kernel
theorem dX10_workedOut_157 : decode cX10_workedOut 157 = .ok (.iload_n 2, 1) := by decide +kernel
theorem dX10_workedOut_158 : decode cX10_workedOut 158 = .ok (.if_icmp .ge 7, 3) := by decide +kernel
theorem dX10_workedOut_161 : decode cX10_workedOut 161 = .ok (.iconst 1, 1) := by decide +kernel
theorem dX10_workedOut_162 : decode cX10_workedOut 162 = .ok (.goto 4, 3) := by decide +kernel
theorem dX10_workedOut_165 : decode cX10_workedOut 165 = .ok (.iconst 0, 1) := by decide +kernel
theorem dX10_workedOut_166 : decode cX10_workedOut 166 = .ok (.ireturn, 1) := by decide +kernel
theorem dX10_workedOut_167 : decode cX10_workedOut 167 = .ok (.iload_n 1, 1) := by decide +kernel
theorem dX10_workedOut_168 : decode cX10_workedOut 168 = .ok (.iload_n 2, 1) := by decide +kernel
theorem dX10_workedOut_169 : decode cX10_workedOut 169 = .ok (.if_icmp .ne 7, 3) := by decide +kernel
theorem dX10_workedOut_172 : decode cX10_workedOut 172 = .ok (.iconst 1, 1) := by decide +kernel
theorem dX10_workedOut_173 : decode cX10_workedOut 173 = .ok (.goto 4, 3) := by decide +kernel
theorem dX10_workedOut_176 : decode cX10_workedOut 176 = .ok (.iconst 0, 1) := by decide +kernel
theorem dX10_workedOut_177 : decode cX10_workedOut 177 = .ok (.ireturn, 1) := by decide +kernel
theorem dX10_workedOut_178 : decode cX10_workedOut 178 = .ok (.iload_n 1, 1) := by decide +kernel
theorem dX10_workedOut_179 : decode cX10_workedOut 179 = .ok (.iload_n 2, 1) := by decide +kernel
theorem dX10_workedOut_180 : decode cX10_workedOut 180 = .ok (.if_icmp .le 7, 3) := by decide +kernel
theorem dX10_workedOut_183 : decode cX10_workedOut 183 = .ok (.iconst 1, 1) := by decide +kernel
theorem dX10_workedOut_184 : decode cX10_workedOut 184 = .ok (.goto 4, 3) := by decide +kernel
theorem dX10_workedOut_187 : decode cX10_workedOut 187 = .ok (.iconst 0, 1) := by decide +kernel
theorem dX10_workedOut_188 : decode cX10_workedOut 188 = .ok (.ireturn, 1) := by decide +kernel
theorem dX10_workedOut_189 : decode cX10_workedOut 189 = .ok (.iload_n 1, 1) := by decide +kernel
theorem dX10_workedOut_190 : decode cX10_workedOut 190 = .ok (.ifCond .eq 11, 3) := by decide +kernel
theorem dX10_workedOut_193 : decode cX10_workedOut 193 = .ok (.iload_n 2, 1) := by decide +kernel
theorem dX10_workedOut_194 : decode cX10_workedOut 194 = .ok (.ifCond .eq 7, 3) := by decide +kernel
theorem dX10_workedOut_197 : decode cX10_workedOut 197 = .ok (.iconst 1, 1) := by decide +kernel
theorem dX10_workedOut_198 : decode cX10_workedOut 198 = .ok (.goto 4, 3) := by decide +kernel
theorem dX10_workedOut_201 : decode cX10_workedOut 201 = .ok (.iconst 0, 1) := by decide +kernel
theorem dX10_workedOut_202 : decode cX10_workedOut 202 = .ok (.ireturn, 1) := by decide +kernel
theorem dX10_workedOut_203 : decode cX10_workedOut 203 = .ok (.iload_n 1, 1) := by decide +kernel
theorem dX10_workedOut_204 : decode cX10_workedOut 204 = .ok (.ifCond .ne 7, 3) := by decide +kernel
theorem dX10_workedOut_207 : decode cX10_workedOut 207 = .ok (.iload_n 2, 1) := by decide +kernel
theorem dX10_workedOut_208 : decode cX10_workedOut 208 = .ok (.ifCond .eq 7, 3) := by decide +kernel
theorem dX10_workedOut_211 : decode cX10_workedOut 211 = .ok (.iconst 1, 1) := by decide +kernel
theorem dX10_workedOut_212 : decode cX10_workedOut 212 = .ok (.goto 4, 3) := by decide +kernel
theorem dX10_workedOut_215 : decode cX10_workedOut 215 = .ok (.iconst 0, 1) := by decide +kernel
theorem dX10_workedOut_216 : decode cX10_workedOut 216 = .ok (.ireturn, 1) := by decide +kernel
theorem dX10_walks_0 : decode cX10_walks 0 = .ok (.aload_n 0, 1) := by decide +kernel
theorem dX10_walks_1 : decode cX10_walks 1 = .ok (.getfield 28, 3) := by decide +kernel
theorem dX10_walks_4 : decode cX10_walks 4 = .ok (.iconst 0, 1) := by decide +kernel
theorem dX10_walks_5 : decode cX10_walks 5 = .ok (.iload_n 2, 1) := by decide +kernel
theorem dX10_walks_6 : decode cX10_walks 6 = .ok (.iastore, 1) := by decide +kernel
theorem dX10_walks_7 : decode cX10_walks 7 = .ok (.aload_n 0, 1) := by decide +kernel
theorem dX10_walks_8 : decode cX10_walks 8 = .ok (.getfield 28, 3) := by decide +kernel
theorem dX10_walks_11 : decode cX10_walks 11 = .ok (.iconst 1, 1) := by decide +kernel
theorem dX10_walks_12 : decode cX10_walks 12 = .ok (.iload_n 3, 1) := by decide +kernel
theorem dX10_walks_13 : decode cX10_walks 13 = .ok (.iastore, 1) := by decide +kernel
theorem dX10_walks_14 : decode cX10_walks 14 = .ok (.aload_n 0, 1) := by decide +kernel
theorem dX10_walks_15 : decode cX10_walks 15 = .ok (.getfield 28, 3) := by decide +kernel
theorem dX10_walks_18 : decode cX10_walks 18 = .ok (.iconst 2, 1) := by decide +kernel
theorem dX10_walks_19 : decode cX10_walks 19 = .ok (.iload 4, 2) := by decide +kernel
theorem dX10_walks_21 : decode cX10_walks 21 = .ok (.iastore, 1) := by decide +kernel
theorem dX10_walks_22 : decode cX10_walks 22 = .ok (.sipush 142, 3) := by decide +kernel
theorem dX10_walks_25 : decode cX10_walks 25 = .ok (.bipush 50, 2) := by decide +kernel
theorem dX10_walks_27 : decode cX10_walks 27 = .ok (.iload_n 1, 1) := by decide +kernel
theorem dX10_walks_28 : decode cX10_walks 28 = .ok (.imul, 1) := by decide +kernel
theorem dX10_walks_29 : decode cX10_walks 29 = .ok (.iadd, 1) := by decide +kernel
theorem dX10_walks_30 : decode cX10_walks 30 = .ok (.istore 5, 2) := by decide +kernel
theorem dX10_walks_32 : decode cX10_walks 32 = .ok (.iconst 0, 1) := by decide +kernel
theorem dX10_walks_33 : decode cX10_walks 33 = .ok (.istore 6, 2) := by decide +kernel
theorem dX10_walks_35 : decode cX10_walks 35 = .ok (.iload 5, 2) := by decide +kernel
theorem dX10_walks_37 : decode cX10_walks 37 = .ok (.istore 7, 2) := by decide +kernel
theorem dX10_walks_39 : decode cX10_walks 39 = .ok (.iload 7, 2) := by decide +kernel
theorem dX10_walks_41 : decode cX10_walks 41 = .ok (.iload 5, 2) := by decide +kernel
theorem dX10_walks_43 : decode cX10_walks 43 = .ok (.aload_n 0, 1) := by decide +kernel
theorem dX10_walks_44 : decode cX10_walks 44 = .ok (.getfield 7, 3) := by decide +kernel
theorem dX10_walks_47 : decode cX10_walks 47 = .ok (.bipush 6, 2) := by decide +kernel
theorem dX10_walks_49 : decode cX10_walks 49 = .ok (.iload_n 1, 1) := by decide +kernel
theorem dX10_walks_50 : decode cX10_walks 50 = .ok (.iadd, 1) := by decide +kernel
theorem dX10_walks_51 : decode cX10_walks 51 = .ok (.iaload, 1) := by decide +kernel
theorem dX10_walks_52 : decode cX10_walks 52 = .ok (.iadd, 1) := by decide +kernel
theorem dX10_walks_53 : decode cX10_walks 53 = .ok (.if_icmp .ge 137, 3) := by decide +kernel
theorem dX10_walks_56 : decode cX10_walks 56 = .ok (.aload_n 0, 1) := by decide +kernel
theorem dX10_walks_57 : decode cX10_walks 57 = .ok (.getfield 7, 3) := by decide +kernel
theorem dX10_walks_60 : decode cX10_walks 60 = .ok (.iload 7, 2) := by decide +kernel
theorem dX10_walks_62 : decode cX10_walks 62 = .ok (.iaload, 1) := by decide +kernel
theorem dX10_walks_63 : decode cX10_walks 63 = .ok (.istore 8, 2) := by decide +kernel
theorem dX10_walks_65 : decode cX10_walks 65 = .ok (.iload 8, 2) := by decide +kernel
theorem dX10_walks_67 : decode cX10_walks 67 = .ok (.sipush 20000, 3) := by decide +kernel
theorem dX10_walks_70 : decode cX10_walks 70 = .ok (.if_icmp .ge 40, 3) := by decide +kernel
theorem dX10_walks_73 : decode cX10_walks 73 = .ok (.aload_n 0, 1) := by decide +kernel
theorem dX10_walks_74 : decode cX10_walks 74 = .ok (.getfield 25, 3) := by decide +kernel
theorem dX10_walks_77 : decode cX10_walks 77 = .ok (.iload 6, 2) := by decide +kernel
theorem dX10_walks_79 : decode cX10_walks 79 = .ok (.iload 8, 2) := by decide +kernel
theorem dX10_walks_81 : decode cX10_walks 81 = .ok (.sipush 10000, 3) := by decide +kernel
theorem dX10_walks_84 : decode cX10_walks 84 = .ok (.if_icmp .ge 8, 3) := by decide +kernel
theorem dX10_walks_87 : decode cX10_walks 87 = .ok (.iload 8, 2) := by decide +kernel
theorem dX10_walks_89 : decode cX10_walks 89 = .ok (.goto 14, 3) := by decide +kernel
theorem dX10_walks_92 : decode cX10_walks 92 = .ok (.aload_n 0, 1) := by decide +kernel
theorem dX10_walks_93 : decode cX10_walks 93 = .ok (.getfield 28, 3) := by decide +kernel
theorem dX10_walks_96 : decode cX10_walks 96 = .ok (.iload 8, 2) := by decide +kernel
theorem dX10_walks_98 : decode cX10_walks 98 = .ok (.sipush 10000, 3) := by decide +kernel
theorem dX10_walks_101 : decode cX10_walks 101 = .ok (.isub, 1) := by decide +kernel
theorem dX10_walks_102 : decode cX10_walks 102 = .ok (.iaload, 1) := by decide +kernel
theorem dX10_walks_103 : decode cX10_walks 103 = .ok (.iastore, 1) := by decide +kernel
theorem dX10_walks_104 : decode cX10_walks 104 = .ok (.iinc 6 1, 3) := by decide +kernel
theorem dX10_walks_107 : decode cX10_walks 107 = .ok (.goto 77, 3) := by decide +kernel
theorem dX10_walks_110 : decode cX10_walks 110 = .ok (.iload 8, 2) := by decide +kernel
theorem dX10_walks_112 : decode cX10_walks 112 = .ok (.sipush 20033, 3) := by decide +kernel
theorem dX10_walks_115 : decode cX10_walks 115 = .ok (.if_icmp .ne 32, 3) := by decide +kernel
theorem dX10_walks_118 : decode cX10_walks 118 = .ok (.aload_n 0, 1) := by decide +kernel
theorem dX10_walks_119 : decode cX10_walks 119 = .ok (.getfield 25, 3) := by decide +kernel
theorem dX10_walks_122 : decode cX10_walks 122 = .ok (.iload 6, 2) := by decide +kernel
theorem dX10_walks_124 : decode cX10_walks 124 = .ok (.iconst 1, 1) := by decide +kernel
theorem dX10_walks_125 : decode cX10_walks 125 = .ok (.isub, 1) := by decide +kernel
theorem dX10_walks_126 : decode cX10_walks 126 = .ok (.aload_n 0, 1) := by decide +kernel
theorem dX10_walks_127 : decode cX10_walks 127 = .ok (.getfield 25, 3) := by decide +kernel
theorem dX10_walks_130 : decode cX10_walks 130 = .ok (.iload 6, 2) := by decide +kernel
theorem dX10_walks_132 : decode cX10_walks 132 = .ok (.iconst 1, 1) := by decide +kernel
theorem dX10_walks_133 : decode cX10_walks 133 = .ok (.isub, 1) := by decide +kernel
theorem dX10_walks_134 : decode cX10_walks 134 = .ok (.iaload, 1) := by decide +kernel
theorem dX10_walks_135 : decode cX10_walks 135 = .ok (.ifCond .ne 7, 3) := by decide +kernel
theorem dX10_walks_138 : decode cX10_walks 138 = .ok (.iconst 1, 1) := by decide +kernel
theorem dX10_walks_139 : decode cX10_walks 139 = .ok (.goto 4, 3) := by decide +kernel
theorem dX10_walks_142 : decode cX10_walks 142 = .ok (.iconst 0, 1) := by decide +kernel
theorem dX10_walks_143 : decode cX10_walks 143 = .ok (.iastore, 1) := by decide +kernel
theorem dX10_walks_144 : decode cX10_walks 144 = .ok (.goto 40, 3) := by decide +kernel
theorem dX10_walks_147 : decode cX10_walks 147 = .ok (.iinc 6 (-1), 3) := by decide +kernel
theorem dX10_walks_150 : decode cX10_walks 150 = .ok (.aload_n 0, 1) := by decide +kernel
theorem dX10_walks_151 : decode cX10_walks 151 = .ok (.getfield 25, 3) := by decide +kernel
theorem dX10_walks_154 : decode cX10_walks 154 = .ok (.iload 6, 2) := by decide +kernel
theorem dX10_walks_156 : decode cX10_walks 156 = .ok (.iconst 1, 1) := by decide +kernel
theorem dX10_walks_157 : decode cX10_walks 157 = .ok (.isub, 1) := by decide +kernel
theorem dX10_walks_158 : decode cX10_walks 158 = .ok (.iload 8, 2) := by decide +kernel
theorem dX10_walks_160 : decode cX10_walks 160 = .ok (.sipush 20000, 3) := by decide +kernel
theorem dX10_walks_163 : decode cX10_walks 163 = .ok (.isub, 1) := by decide +kernel
theorem dX10_walks_164 : decode cX10_walks 164 = .ok (.aload_n 0, 1) := by decide +kernel
theorem dX10_walks_165 : decode cX10_walks 165 = .ok (.getfield 25, 3) := by decide +kernel
theorem dX10_walks_168 : decode cX10_walks 168 = .ok (.iload 6, 2) := by decide +kernel
theorem dX10_walks_170 : decode cX10_walks 170 = .ok (.iconst 1, 1) := by decide +kernel
theorem dX10_walks_171 : decode cX10_walks 171 = .ok (.isub, 1) := by decide +kernel
theorem dX10_walks_172 : decode cX10_walks 172 = .ok (.iaload, 1) := by decide +kernel
theorem dX10_walks_173 : decode cX10_walks 173 = .ok (.aload_n 0, 1) := by decide +kernel
theorem dX10_walks_174 : decode cX10_walks 174 = .ok (.getfield 25, 3) := by decide +kernel
theorem dX10_walks_177 : decode cX10_walks 177 = .ok (.iload 6, 2) := by decide +kernel
theorem dX10_walks_179 : decode cX10_walks 179 = .ok (.iaload, 1) := by decide +kernel
theorem dX10_walks_180 : decode cX10_walks 180 = .ok (.invokestatic 157, 3) := by decide +kernel
theorem dX10_walks_183 : decode cX10_walks 183 = .ok (.iastore, 1) := by decide +kernel
theorem dX10_walks_184 : decode cX10_walks 184 = .ok (.iinc 7 1, 3) := by decide +kernel
theorem dX10_walks_187 : decode cX10_walks 187 = .ok (.goto (-148), 3) := by decide +kernel
theorem dX10_walks_190 : decode cX10_walks 190 = .ok (.aload_n 0, 1) := by decide +kernel
theorem dX10_walks_191 : decode cX10_walks 191 = .ok (.getfield 25, 3) := by decide +kernel
theorem dX10_walks_194 : decode cX10_walks 194 = .ok (.iconst 0, 1) := by decide +kernel
theorem dX10_walks_195 : decode cX10_walks 195 = .ok (.iaload, 1) := by decide +kernel
theorem dX10_walks_196 : decode cX10_walks 196 = .ok (.ireturn, 1) := by decide +kernel
theorem dX10_lawOf_0 : decode cX10_lawOf 0 = .ok (.iload_n 1, 1) := by decide +kernel
theorem dX10_lawOf_1 : decode cX10_lawOf 1 = .ok (.ifCond .ne 8, 3) := by decide +kernel
theorem dX10_lawOf_4 : decode cX10_lawOf 4 = .ok (.bipush 99, 2) := by decide +kernel
theorem dX10_lawOf_6 : decode cX10_lawOf 6 = .ok (.goto 4, 3) := by decide +kernel
theorem dX10_lawOf_9 : decode cX10_lawOf 9 = .ok (.iconst 1, 1) := by decide +kernel
theorem dX10_lawOf_10 : decode cX10_lawOf 10 = .ok (.istore 5, 2) := by decide +kernel
theorem dX10_lawOf_12 : decode cX10_lawOf 12 = .ok (.aload_n 0, 1) := by decide +kernel
theorem dX10_lawOf_13 : decode cX10_lawOf 13 = .ok (.getfield 7, 3) := by decide +kernel
theorem dX10_lawOf_16 : decode cX10_lawOf 16 = .ok (.bipush 6, 2) := by decide +kernel
theorem dX10_lawOf_18 : decode cX10_lawOf 18 = .ok (.iload_n 1, 1) := by decide +kernel
theorem dX10_lawOf_19 : decode cX10_lawOf 19 = .ok (.iadd, 1) := by decide +kernel
theorem dX10_lawOf_20 : decode cX10_lawOf 20 = .ok (.iaload, 1) := by decide +kernel
theorem dX10_lawOf_21 : decode cX10_lawOf 21 = .ok (.ifCond .lt 19, 3) := by decide +kernel
theorem dX10_lawOf_24 : decode cX10_lawOf 24 = .ok (.aload_n 0, 1) := by decide +kernel
theorem dX10_lawOf_25 : decode cX10_lawOf 25 = .ok (.iload_n 1, 1) := by decide +kernel
theorem dX10_lawOf_26 : decode cX10_lawOf 26 = .ok (.iload_n 2, 1) := by decide +kernel
theorem dX10_lawOf_27 : decode cX10_lawOf 27 = .ok (.iload_n 3, 1) := by decide +kernel
theorem dX10_lawOf_28 : decode cX10_lawOf 28 = .ok (.iload 4, 2) := by decide +kernel
theorem dX10_lawOf_30 : decode cX10_lawOf 30 = .ok (.invokevirtual 161, 3) := by decide +kernel
theorem dX10_lawOf_33 : decode cX10_lawOf 33 = .ok (.iconst 0, 1) := by decide +kernel
theorem dX10_lawOf_34 : decode cX10_lawOf 34 = .ok (.iload 5, 2) := by decide +kernel
theorem dX10_lawOf_36 : decode cX10_lawOf 36 = .ok (.invokestatic 165, 3) := by decide +kernel
theorem dX10_lawOf_39 : decode cX10_lawOf 39 = .ok (.ireturn, 1) := by decide +kernel
theorem dX10_lawOf_40 : decode cX10_lawOf 40 = .ok (.iconst 1, 1) := by decide +kernel
theorem dX10_lawOf_41 : decode cX10_lawOf 41 = .ok (.ireturn, 1) := by decide +kernel
theorem dX10_law_0 : decode cX10_law 0 = .ok (.iload_n 1, 1) := by decide +kernel
theorem dX10_law_1 : decode cX10_law 1 = .ok (.iconst 0, 1) := by decide +kernel
theorem dX10_law_2 : decode cX10_law 2 = .ok (.iconst 1, 1) := by decide +kernel
theorem dX10_law_3 : decode cX10_law 3 = .ok (.invokestatic 50, 3) := by decide +kernel
theorem dX10_law_6 : decode cX10_law 6 = .ok (.ifCond .eq 15, 3) := by decide +kernel
theorem dX10_law_9 : decode cX10_law 9 = .ok (.aload_n 0, 1) := by decide +kernel
theorem dX10_law_10 : decode cX10_law 10 = .ok (.iload_n 1, 1) := by decide +kernel
theorem dX10_law_11 : decode cX10_law 11 = .ok (.iload_n 2, 1) := by decide +kernel
theorem dX10_law_12 : decode cX10_law 12 = .ok (.iload_n 3, 1) := by decide +kernel
theorem dX10_law_13 : decode cX10_law 13 = .ok (.iload 4, 2) := by decide +kernel
theorem dX10_law_15 : decode cX10_law 15 = .ok (.invokevirtual 168, 3) := by decide +kernel
theorem dX10_law_18 : decode cX10_law 18 = .ok (.goto 9, 3) := by decide +kernel
theorem dX10_law_21 : decode cX10_law 21 = .ok (.aload_n 0, 1) := by decide +kernel
theorem dX10_law_22 : decode cX10_law 22 = .ok (.ldc 62, 2) := by decide +kernel
theorem dX10_law_24 : decode cX10_law 24 = .ok (.invokevirtual 63, 3) := by decide +kernel
theorem dX10_law_27 : decode cX10_law 27 = .ok (.ireturn, 1) := by decide +kernel
theorem dX10_feed_0 : decode cX10_feed 0 = .ok (.iload_n 3, 1) := by decide +kernel
theorem dX10_feed_1 : decode cX10_feed 1 = .ok (.iconst 1, 1) := by decide +kernel
theorem dX10_feed_2 : decode cX10_feed 2 = .ok (.bipush 8, 2) := by decide +kernel
theorem dX10_feed_4 : decode cX10_feed 4 = .ok (.invokestatic 50, 3) := by decide +kernel
theorem dX10_feed_7 : decode cX10_feed 7 = .ok (.ifCond .ne 10, 3) := by decide +kernel
theorem dX10_feed_10 : decode cX10_feed 10 = .ok (.aload_n 0, 1) := by decide +kernel
theorem dX10_feed_11 : decode cX10_feed 11 = .ok (.ldc 62, 2) := by decide +kernel
theorem dX10_feed_13 : decode cX10_feed 13 = .ok (.invokevirtual 63, 3) := by decide +kernel
theorem dX10_feed_16 : decode cX10_feed 16 = .ok (.ireturn, 1) := by decide +kernel
theorem dX10_feed_17 : decode cX10_feed 17 = .ok (.aload_n 0, 1) := by decide +kernel
theorem dX10_feed_18 : decode cX10_feed 18 = .ok (.getfield 7, 3) := by decide +kernel
theorem dX10_feed_21 : decode cX10_feed 21 = .ok (.iconst 4, 1) := by decide +kernel
theorem dX10_feed_22 : decode cX10_feed 22 = .ok (.iaload, 1) := by decide +kernel
theorem dX10_feed_23 : decode cX10_feed 23 = .ok (.iload_n 3, 1) := by decide +kernel
theorem dX10_feed_24 : decode cX10_feed 24 = .ok (.iadd, 1) := by decide +kernel
theorem dX10_feed_25 : decode cX10_feed 25 = .ok (.bipush 50, 2) := by decide +kernel
theorem dX10_feed_27 : decode cX10_feed 27 = .ok (.if_icmp .le 10, 3) := by decide +kernel
theorem dX10_feed_30 : decode cX10_feed 30 = .ok (.aload_n 0, 1) := by decide +kernel
theorem dX10_feed_31 : decode cX10_feed 31 = .ok (.ldc 77, 2) := by decide +kernel
theorem dX10_feed_33 : decode cX10_feed 33 = .ok (.invokevirtual 63, 3) := by decide +kernel
theorem dX10_feed_36 : decode cX10_feed 36 = .ok (.ireturn, 1) := by decide +kernel
theorem dX10_feed_37 : decode cX10_feed 37 = .ok (.iconst 0, 1) := by decide +kernel
theorem dX10_feed_38 : decode cX10_feed 38 = .ok (.istore 4, 2) := by decide +kernel
theorem dX10_feed_40 : decode cX10_feed 40 = .ok (.iload 4, 2) := by decide +kernel
theorem dX10_feed_42 : decode cX10_feed 42 = .ok (.iload_n 3, 1) := by decide +kernel
theorem dX10_feed_43 : decode cX10_feed 43 = .ok (.if_icmp .ge 45, 3) := by decide +kernel
theorem dX10_feed_46 : decode cX10_feed 46 = .ok (.aload_n 0, 1) := by decide +kernel
theorem dX10_feed_47 : decode cX10_feed 47 = .ok (.getfield 7, 3) := by decide +kernel
theorem dX10_feed_50 : decode cX10_feed 50 = .ok (.bipush 72, 2) := by decide +kernel
theorem dX10_feed_52 : decode cX10_feed 52 = .ok (.aload_n 0, 1) := by decide +kernel
theorem dX10_feed_53 : decode cX10_feed 53 = .ok (.getfield 7, 3) := by decide +kernel
theorem dX10_feed_56 : decode cX10_feed 56 = .ok (.iconst 4, 1) := by decide +kernel
theorem dX10_feed_57 : decode cX10_feed 57 = .ok (.iaload, 1) := by decide +kernel
theorem dX10_feed_58 : decode cX10_feed 58 = .ok (.iadd, 1) := by decide +kernel
theorem dX10_feed_59 : decode cX10_feed 59 = .ok (.lload_n 1, 1) := by decide +kernel
theorem dX10_feed_60 : decode cX10_feed 60 = .ok (.bipush 8, 2) := by decide +kernel
theorem dX10_feed_62 : decode cX10_feed 62 = .ok (.iload 4, 2) := by decide +kernel
theorem dX10_feed_64 : decode cX10_feed 64 = .ok (.imul, 1) := by decide +kernel
theorem dX10_feed_65 : decode cX10_feed 65 = .ok (.lshr, 1) := by decide +kernel
theorem dX10_feed_66 : decode cX10_feed 66 = .ok (.ldc2_w 171, 3) := by decide +kernel
theorem dX10_feed_69 : decode cX10_feed 69 = .ok (.land, 1) := by decide +kernel
theorem dX10_feed_70 : decode cX10_feed 70 = .ok (.l2i, 1) := by decide +kernel
theorem dX10_feed_71 : decode cX10_feed 71 = .ok (.iastore, 1) := by decide +kernel
theorem dX10_feed_72 : decode cX10_feed 72 = .ok (.aload_n 0, 1) := by decide +kernel
theorem dX10_feed_73 : decode cX10_feed 73 = .ok (.getfield 7, 3) := by decide +kernel
theorem dX10_feed_76 : decode cX10_feed 76 = .ok (.iconst 4, 1) := by decide +kernel
theorem dX10_feed_77 : decode cX10_feed 77 = .ok (.dup2, 1) := by decide +kernel
theorem dX10_feed_78 : decode cX10_feed 78 = .ok (.iaload, 1) := by decide +kernel
theorem dX10_feed_79 : decode cX10_feed 79 = .ok (.iconst 1, 1) := by decide +kernel
theorem dX10_feed_80 : decode cX10_feed 80 = .ok (.iadd, 1) := by decide +kernel
theorem dX10_feed_81 : decode cX10_feed 81 = .ok (.iastore, 1) := by decide +kernel
theorem dX10_feed_82 : decode cX10_feed 82 = .ok (.iinc 4 1, 3) := by decide +kernel
theorem dX10_feed_85 : decode cX10_feed 85 = .ok (.goto (-45), 3) := by decide +kernel
theorem dX10_feed_88 : decode cX10_feed 88 = .ok (.aload_n 0, 1) := by decide +kernel
theorem dX10_feed_89 : decode cX10_feed 89 = .ok (.getfield 7, 3) := by decide +kernel
theorem dX10_feed_92 : decode cX10_feed 92 = .ok (.iconst 4, 1) := by decide +kernel
theorem dX10_feed_93 : decode cX10_feed 93 = .ok (.iaload, 1) := by decide +kernel
theorem dX10_feed_94 : decode cX10_feed 94 = .ok (.ireturn, 1) := by decide +kernel
theorem dX10_text_0 : decode cX10_text 0 = .ok (.iload_n 1, 1) := by decide +kernel
theorem dX10_text_1 : decode cX10_text 1 = .ok (.iconst 0, 1) := by decide +kernel
theorem dX10_text_2 : decode cX10_text 2 = .ok (.iconst 1, 1) := by decide +kernel
theorem dX10_text_3 : decode cX10_text 3 = .ok (.invokestatic 50, 3) := by decide +kernel
theorem dX10_text_6 : decode cX10_text 6 = .ok (.ifCond .ne 10, 3) := by decide +kernel
theorem dX10_text_9 : decode cX10_text 9 = .ok (.aload_n 0, 1) := by decide +kernel
theorem dX10_text_10 : decode cX10_text 10 = .ok (.ldc 62, 2) := by decide +kernel
theorem dX10_text_12 : decode cX10_text 12 = .ok (.invokevirtual 63, 3) := by decide +kernel
theorem dX10_text_15 : decode cX10_text 15 = .ok (.ireturn, 1) := by decide +kernel
theorem dX10_text_16 : decode cX10_text 16 = .ok (.aload_n 0, 1) := by decide +kernel
theorem dX10_text_17 : decode cX10_text 17 = .ok (.iload_n 1, 1) := by decide +kernel
theorem dX10_text_18 : decode cX10_text 18 = .ok (.putfield 127, 3) := by decide +kernel
theorem dX10_text_21 : decode cX10_text 21 = .ok (.aload_n 0, 1) := by decide +kernel
theorem dX10_text_22 : decode cX10_text 22 = .ok (.iconst 0, 1) := by decide +kernel
theorem dX10_text_23 : decode cX10_text 23 = .ok (.putfield 115, 3) := by decide +kernel
theorem dX10_text_26 : decode cX10_text 26 = .ok (.aload_n 0, 1) := by decide +kernel
theorem dX10_text_27 : decode cX10_text 27 = .ok (.aload_n 0, 1) := by decide +kernel
theorem dX10_text_28 : decode cX10_text 28 = .ok (.getfield 7, 3) := by decide +kernel
theorem dX10_text_31 : decode cX10_text 31 = .ok (.iconst 4, 1) := by decide +kernel
theorem dX10_text_32 : decode cX10_text 32 = .ok (.iaload, 1) := by decide +kernel
theorem dX10_text_33 : decode cX10_text 33 = .ok (.putfield 104, 3) := by decide +kernel
theorem dX10_text_36 : decode cX10_text 36 = .ok (.aload_n 0, 1) := by decide +kernel
theorem dX10_text_37 : decode cX10_text 37 = .ok (.iconst 0, 1) := by decide +kernel
theorem dX10_text_38 : decode cX10_text 38 = .ok (.putfield 136, 3) := by decide +kernel
theorem dX10_text_41 : decode cX10_text 41 = .ok (.aload_n 0, 1) := by decide +kernel
theorem dX10_text_42 : decode cX10_text 42 = .ok (.iconst 0, 1) := by decide +kernel
theorem dX10_text_43 : decode cX10_text 43 = .ok (.putfield 112, 3) := by decide +kernel
theorem dX10_text_46 : decode cX10_text 46 = .ok (.aload_n 0, 1) := by decide +kernel
theorem dX10_text_47 : decode cX10_text 47 = .ok (.iconst 1, 1) := by decide +kernel
theorem dX10_text_48 : decode cX10_text 48 = .ok (.putfield 108, 3) := by decide +kernel
theorem dX10_text_51 : decode cX10_text 51 = .ok (.aload_n 0, 1) := by decide +kernel
theorem dX10_text_52 : decode cX10_text 52 = .ok (.invokevirtual 142, 3) := by decide +kernel
theorem dX10_text_55 : decode cX10_text 55 = .ok (.aload_n 0, 1) := by decide +kernel
theorem dX10_text_56 : decode cX10_text 56 = .ok (.aload_n 0, 1) := by decide +kernel
theorem dX10_text_57 : decode cX10_text 57 = .ok (.getfield 108, 3) := by decide +kernel
theorem dX10_text_60 : decode cX10_text 60 = .ok (.ifCond .eq 18, 3) := by decide +kernel
theorem dX10_text_63 : decode cX10_text 63 = .ok (.aload_n 0, 1) := by decide +kernel
theorem dX10_text_64 : decode cX10_text 64 = .ok (.getfield 115, 3) := by decide +kernel
theorem dX10_text_67 : decode cX10_text 67 = .ok (.aload_n 0, 1) := by decide +kernel
theorem dX10_text_68 : decode cX10_text 68 = .ok (.getfield 104, 3) := by decide +kernel
theorem dX10_text_71 : decode cX10_text 71 = .ok (.if_icmp .ne 7, 3) := by decide +kernel
theorem dX10_text_74 : decode cX10_text 74 = .ok (.iconst 1, 1) := by decide +kernel
theorem dX10_text_75 : decode cX10_text 75 = .ok (.goto 4, 3) := by decide +kernel
theorem dX10_text_78 : decode cX10_text 78 = .ok (.iconst 0, 1) := by decide +kernel
theorem dX10_text_79 : decode cX10_text 79 = .ok (.putfield 108, 3) := by decide +kernel
theorem dX10_text_82 : decode cX10_text 82 = .ok (.aload_n 0, 1) := by decide +kernel
theorem dX10_text_83 : decode cX10_text 83 = .ok (.getfield 7, 3) := by decide +kernel
theorem dX10_text_86 : decode cX10_text 86 = .ok (.iconst 4, 1) := by decide +kernel
theorem dX10_text_87 : decode cX10_text 87 = .ok (.iconst 0, 1) := by decide +kernel
theorem dX10_text_88 : decode cX10_text 88 = .ok (.iastore, 1) := by decide +kernel
theorem dX10_text_89 : decode cX10_text 89 = .ok (.aload_n 0, 1) := by decide +kernel
theorem dX10_text_90 : decode cX10_text 90 = .ok (.getfield 108, 3) := by decide +kernel
theorem dX10_text_93 : decode cX10_text 93 = .ok (.ifCond .ne 11, 3) := by decide +kernel
theorem dX10_text_96 : decode cX10_text 96 = .ok (.bipush (-10), 2) := by decide +kernel
theorem dX10_text_98 : decode cX10_text 98 = .ok (.aload_n 0, 1) := by decide +kernel
theorem dX10_text_99 : decode cX10_text 99 = .ok (.getfield 115, 3) := by decide +kernel
theorem dX10_text_102 : decode cX10_text 102 = .ok (.isub, 1) := by decide +kernel
theorem dX10_text_103 : decode cX10_text 103 = .ok (.ireturn, 1) := by decide +kernel
theorem dX10_text_104 : decode cX10_text 104 = .ok (.aload_n 0, 1) := by decide +kernel
theorem dX10_text_105 : decode cX10_text 105 = .ok (.getfield 7, 3) := by decide +kernel
theorem dX10_text_108 : decode cX10_text 108 = .ok (.bipush 6, 2) := by decide +kernel
theorem dX10_text_110 : decode cX10_text 110 = .ok (.iload_n 1, 1) := by decide +kernel
theorem dX10_text_111 : decode cX10_text 111 = .ok (.iadd, 1) := by decide +kernel
theorem dX10_text_112 : decode cX10_text 112 = .ok (.aload_n 0, 1) := by decide +kernel
theorem dX10_text_113 : decode cX10_text 113 = .ok (.getfield 112, 3) := by decide +kernel
theorem dX10_text_116 : decode cX10_text 116 = .ok (.iastore, 1) := by decide +kernel
theorem dX10_text_117 : decode cX10_text 117 = .ok (.iconst 0, 1) := by decide +kernel
theorem dX10_text_118 : decode cX10_text 118 = .ok (.istore_n 2, 1) := by decide +kernel
theorem dX10_text_119 : decode cX10_text 119 = .ok (.iload_n 2, 1) := by decide +kernel
theorem dX10_text_120 : decode cX10_text 120 = .ok (.aload_n 0, 1) := by decide +kernel
theorem dX10_text_121 : decode cX10_text 121 = .ok (.getfield 112, 3) := by decide +kernel
theorem dX10_text_124 : decode cX10_text 124 = .ok (.if_icmp .ge 30, 3) := by decide +kernel
theorem dX10_text_127 : decode cX10_text 127 = .ok (.aload_n 0, 1) := by decide +kernel
theorem dX10_text_128 : decode cX10_text 128 = .ok (.getfield 7, 3) := by decide +kernel
theorem dX10_text_131 : decode cX10_text 131 = .ok (.sipush 142, 3) := by decide +kernel
theorem dX10_text_134 : decode cX10_text 134 = .ok (.bipush 50, 2) := by decide +kernel
theorem dX10_text_136 : decode cX10_text 136 = .ok (.iload_n 1, 1) := by decide +kernel
theorem dX10_text_137 : decode cX10_text 137 = .ok (.imul, 1) := by decide +kernel
theorem dX10_text_138 : decode cX10_text 138 = .ok (.iadd, 1) := by decide +kernel
theorem dX10_text_139 : decode cX10_text 139 = .ok (.iload_n 2, 1) := by decide +kernel
theorem dX10_text_140 : decode cX10_text 140 = .ok (.iadd, 1) := by decide +kernel
theorem dX10_text_141 : decode cX10_text 141 = .ok (.aload_n 0, 1) := by decide +kernel
theorem dX10_text_142 : decode cX10_text 142 = .ok (.getfield 22, 3) := by decide +kernel
theorem dX10_text_145 : decode cX10_text 145 = .ok (.iload_n 2, 1) := by decide +kernel
theorem dX10_text_146 : decode cX10_text 146 = .ok (.iaload, 1) := by decide +kernel
theorem dX10_text_147 : decode cX10_text 147 = .ok (.iastore, 1) := by decide +kernel
theorem dX10_text_148 : decode cX10_text 148 = .ok (.iinc 2 1, 3) := by decide +kernel
theorem dX10_text_151 : decode cX10_text 151 = .ok (.goto (-32), 3) := by decide +kernel
theorem dX10_text_154 : decode cX10_text 154 = .ok (.iconst 1, 1) := by decide +kernel
theorem dX10_text_155 : decode cX10_text 155 = .ok (.ireturn, 1) := by decide +kernel
theorem dX10_heard_0 : decode cX10_heard 0 = .ok (.aload_n 0, 1) := by decide +kernel
theorem dX10_heard_1 : decode cX10_heard 1 = .ok (.iload_n 1, 1) := by decide +kernel
theorem dX10_heard_2 : decode cX10_heard 2 = .ok (.iconst 1, 1) := by decide +kernel
theorem dX10_heard_3 : decode cX10_heard 3 = .ok (.invokevirtual 67, 3) := by decide +kernel
theorem dX10_heard_6 : decode cX10_heard 6 = .ok (.istore_n 2, 1) := by decide +kernel
theorem dX10_heard_7 : decode cX10_heard 7 = .ok (.aload_n 0, 1) := by decide +kernel
theorem dX10_heard_8 : decode cX10_heard 8 = .ok (.iload_n 1, 1) := by decide +kernel
theorem dX10_heard_9 : decode cX10_heard 9 = .ok (.iconst 0, 1) := by decide +kernel
theorem dX10_heard_10 : decode cX10_heard 10 = .ok (.invokevirtual 67, 3) := by decide +kernel
theorem dX10_heard_13 : decode cX10_heard 13 = .ok (.tableswitch 99 1 6 #[39, 48, 70, 43, 51, 76], 39) := by decide +kernel
theorem dX10_heard_52 : decode cX10_heard 52 = .ok (.iconst 5, 1) := by decide +kernel
theorem dX10_heard_53 : decode cX10_heard 53 = .ok (.iload_n 2, 1) := by decide +kernel
theorem dX10_heard_54 : decode cX10_heard 54 = .ok (.iadd, 1) := by decide +kernel
theorem dX10_heard_55 : decode cX10_heard 55 = .ok (.ireturn, 1) := by decide +kernel
theorem dX10_heard_56 : decode cX10_heard 56 = .ok (.bipush 55, 2) := by decide +kernel
theorem dX10_heard_58 : decode cX10_heard 58 = .ok (.iload_n 2, 1) := by decide +kernel
theorem dX10_heard_59 : decode cX10_heard 59 = .ok (.iadd, 1) := by decide +kernel
theorem dX10_heard_60 : decode cX10_heard 60 = .ok (.ireturn, 1) := by decide +kernel
theorem dX10_heard_61 : decode cX10_heard 61 = .ok (.bipush 10, 2) := by decide +kernel
theorem dX10_heard_63 : decode cX10_heard 63 = .ok (.ireturn, 1) := by decide +kernel
theorem dX10_heard_64 : decode cX10_heard 64 = .ok (.aload_n 0, 1) := by decide +kernel
theorem dX10_heard_65 : decode cX10_heard 65 = .ok (.getfield 7, 3) := by decide +kernel
theorem dX10_heard_68 : decode cX10_heard 68 = .ok (.iconst 0, 1) := by decide +kernel
theorem dX10_heard_69 : decode cX10_heard 69 = .ok (.iaload, 1) := by decide +kernel
theorem dX10_heard_70 : decode cX10_heard 70 = .ok (.iconst 2, 1) := by decide +kernel
theorem dX10_heard_71 : decode cX10_heard 71 = .ok (.irem, 1) := by decide +kernel
theorem dX10_heard_72 : decode cX10_heard 72 = .ok (.iconst 1, 1) := by decide +kernel
theorem dX10_heard_73 : decode cX10_heard 73 = .ok (.if_icmp .ne 7, 3) := by decide +kernel
theorem dX10_heard_76 : decode cX10_heard 76 = .ok (.iconst 0, 1) := by decide +kernel
theorem dX10_heard_77 : decode cX10_heard 77 = .ok (.goto 5, 3) := by decide +kernel
theorem dX10_heard_80 : decode cX10_heard 80 = .ok (.bipush 10, 2) := by decide +kernel
theorem dX10_heard_82 : decode cX10_heard 82 = .ok (.ireturn, 1) := by decide +kernel
theorem dX10_heard_83 : decode cX10_heard 83 = .ok (.iconst 5, 1) := by decide +kernel
theorem dX10_heard_84 : decode cX10_heard 84 = .ok (.iload_n 2, 1) := by decide +kernel
theorem dX10_heard_85 : decode cX10_heard 85 = .ok (.iconst 2, 1) := by decide +kernel
theorem dX10_heard_86 : decode cX10_heard 86 = .ok (.idiv, 1) := by decide +kernel
theorem dX10_heard_87 : decode cX10_heard 87 = .ok (.isub, 1) := by decide +kernel
theorem dX10_heard_88 : decode cX10_heard 88 = .ok (.ireturn, 1) := by decide +kernel
theorem dX10_heard_89 : decode cX10_heard 89 = .ok (.aload_n 0, 1) := by decide +kernel
theorem dX10_heard_90 : decode cX10_heard 90 = .ok (.iload_n 1, 1) := by decide +kernel
theorem dX10_heard_91 : decode cX10_heard 91 = .ok (.iconst 4, 1) := by decide +kernel
theorem dX10_heard_92 : decode cX10_heard 92 = .ok (.invokevirtual 67, 3) := by decide +kernel
theorem dX10_heard_95 : decode cX10_heard 95 = .ok (.invokestatic 173, 3) := by decide +kernel
theorem dX10_heard_98 : decode cX10_heard 98 = .ok (.iconst 1, 1) := by decide +kernel
theorem dX10_heard_99 : decode cX10_heard 99 = .ok (.if_icmp .ne 7, 3) := by decide +kernel
theorem dX10_heard_102 : decode cX10_heard 102 = .ok (.iconst 0, 1) := by decide +kernel
theorem dX10_heard_103 : decode cX10_heard 103 = .ok (.goto 8, 3) := by decide +kernel
theorem dX10_heard_106 : decode cX10_heard 106 = .ok (.iconst 5, 1) := by decide +kernel
theorem dX10_heard_107 : decode cX10_heard 107 = .ok (.iload_n 2, 1) := by decide +kernel
theorem dX10_heard_108 : decode cX10_heard 108 = .ok (.iconst 2, 1) := by decide +kernel
theorem dX10_heard_109 : decode cX10_heard 109 = .ok (.idiv, 1) := by decide +kernel
theorem dX10_heard_110 : decode cX10_heard 110 = .ok (.isub, 1) := by decide +kernel
theorem dX10_heard_111 : decode cX10_heard 111 = .ok (.ireturn, 1) := by decide +kernel
theorem dX10_heard_112 : decode cX10_heard 112 = .ok (.iconst 5, 1) := by decide +kernel
theorem dX10_heard_113 : decode cX10_heard 113 = .ok (.ireturn, 1) := by decide +kernel
theorem dX10_cold_0 : decode cX10_cold 0 = .ok (.aload_n 0, 1) := by decide +kernel
theorem dX10_cold_1 : decode cX10_cold 1 = .ok (.iload_n 1, 1) := by decide +kernel
theorem dX10_cold_2 : decode cX10_cold 2 = .ok (.iconst 0, 1) := by decide +kernel
theorem dX10_cold_3 : decode cX10_cold 3 = .ok (.invokevirtual 67, 3) := by decide +kernel
theorem dX10_cold_6 : decode cX10_cold 6 = .ok (.tableswitch 68 1 6 #[38, 55, 66, 38, 55, 66], 38) := by decide +kernel
theorem dX10_cold_44 : decode cX10_cold 44 = .ok (.aload_n 0, 1) := by decide +kernel
theorem dX10_cold_45 : decode cX10_cold 45 = .ok (.getfield 7, 3) := by decide +kernel
theorem dX10_cold_48 : decode cX10_cold 48 = .ok (.iconst 0, 1) := by decide +kernel
theorem dX10_cold_49 : decode cX10_cold 49 = .ok (.iaload, 1) := by decide +kernel
theorem dX10_cold_50 : decode cX10_cold 50 = .ok (.iconst 2, 1) := by decide +kernel
theorem dX10_cold_51 : decode cX10_cold 51 = .ok (.irem, 1) := by decide +kernel
theorem dX10_cold_52 : decode cX10_cold 52 = .ok (.ifCond .ne 7, 3) := by decide +kernel
theorem dX10_cold_55 : decode cX10_cold 55 = .ok (.iconst 1, 1) := by decide +kernel
theorem dX10_cold_56 : decode cX10_cold 56 = .ok (.goto 4, 3) := by decide +kernel
theorem dX10_cold_59 : decode cX10_cold 59 = .ok (.iconst 0, 1) := by decide +kernel
theorem dX10_cold_60 : decode cX10_cold 60 = .ok (.ireturn, 1) := by decide +kernel
theorem dX10_cold_61 : decode cX10_cold 61 = .ok (.iconst 1, 1) := by decide +kernel
theorem dX10_cold_62 : decode cX10_cold 62 = .ok (.aload_n 0, 1) := by decide +kernel
theorem dX10_cold_63 : decode cX10_cold 63 = .ok (.iload_n 1, 1) := by decide +kernel
theorem dX10_cold_64 : decode cX10_cold 64 = .ok (.iconst 1, 1) := by decide +kernel
theorem dX10_cold_65 : decode cX10_cold 65 = .ok (.invokevirtual 67, 3) := by decide +kernel
theorem dX10_cold_68 : decode cX10_cold 68 = .ok (.iconst 2, 1) := by decide +kernel
theorem dX10_cold_69 : decode cX10_cold 69 = .ok (.irem, 1) := by decide +kernel
theorem dX10_cold_70 : decode cX10_cold 70 = .ok (.iadd, 1) := by decide +kernel
theorem dX10_cold_71 : decode cX10_cold 71 = .ok (.ireturn, 1) := by decide +kernel
theorem dX10_cold_72 : decode cX10_cold 72 = .ok (.iconst 3, 1) := by decide +kernel
theorem dX10_cold_73 : decode cX10_cold 73 = .ok (.ireturn, 1) := by decide +kernel
theorem dX10_cold_74 : decode cX10_cold 74 = .ok (.iconst 1, 1) := by decide +kernel
theorem dX10_cold_75 : decode cX10_cold 75 = .ok (.ireturn, 1) := by decide +kernel
theorem dX10_isLost_0 : decode cX10_isLost 0 = .ok (.aload_n 0, 1) := by decide +kernel
theorem dX10_isLost_1 : decode cX10_isLost 1 = .ok (.iload_n 1, 1) := by decide +kernel
theorem dX10_isLost_2 : decode cX10_isLost 2 = .ok (.iconst 5, 1) := by decide +kernel
theorem dX10_isLost_3 : decode cX10_isLost 3 = .ok (.invokevirtual 67, 3) := by decide +kernel
theorem dX10_isLost_6 : decode cX10_isLost 6 = .ok (.ifCond .ne 16, 3) := by decide +kernel
theorem dX10_isLost_9 : decode cX10_isLost 9 = .ok (.aload_n 0, 1) := by decide +kernel
theorem dX10_isLost_10 : decode cX10_isLost 10 = .ok (.iload_n 1, 1) := by decide +kernel
theorem dX10_isLost_11 : decode cX10_isLost 11 = .ok (.iconst 3, 1) := by decide +kernel
theorem dX10_isLost_12 : decode cX10_isLost 12 = .ok (.invokevirtual 67, 3) := by decide +kernel
theorem dX10_isLost_15 : decode cX10_isLost 15 = .ok (.ifCond .ne 7, 3) := by decide +kernel
theorem dX10_isLost_18 : decode cX10_isLost 18 = .ok (.iconst 1, 1) := by decide +kernel
theorem dX10_isLost_19 : decode cX10_isLost 19 = .ok (.goto 4, 3) := by decide +kernel
theorem dX10_isLost_22 : decode cX10_isLost 22 = .ok (.iconst 0, 1) := by decide +kernel
theorem dX10_isLost_23 : decode cX10_isLost 23 = .ok (.ireturn, 1) := by decide +kernel
theorem dX10_apart_0 : decode cX10_apart 0 = .ok (.iload_n 0, 1) := by decide +kernel
theorem dX10_apart_1 : decode cX10_apart 1 = .ok (.iload_n 1, 1) := by decide +kernel
theorem dX10_apart_2 : decode cX10_apart 2 = .ok (.if_icmp .ge 9, 3) := by decide +kernel
theorem dX10_apart_5 : decode cX10_apart 5 = .ok (.iload_n 1, 1) := by decide +kernel
theorem dX10_apart_6 : decode cX10_apart 6 = .ok (.iload_n 0, 1) := by decide +kernel
theorem dX10_apart_7 : decode cX10_apart 7 = .ok (.isub, 1) := by decide +kernel
theorem dX10_apart_8 : decode cX10_apart 8 = .ok (.goto 6, 3) := by decide +kernel
theorem dX10_apart_11 : decode cX10_apart 11 = .ok (.iload_n 0, 1) := by decide +kernel
theorem dX10_apart_12 : decode cX10_apart 12 = .ok (.iload_n 1, 1) := by decide +kernel
theorem dX10_apart_13 : decode cX10_apart 13 = .ok (.isub, 1) := by decide +kernel
theorem dX10_apart_14 : decode cX10_apart 14 = .ok (.ireturn, 1) := by decide +kernel
theorem dX10_outFor_0 : decode cX10_outFor 0 = .ok (.iconst (-1), 1) := by decide +kernel
theorem dX10_outFor_1 : decode cX10_outFor 1 = .ok (.istore_n 2, 1) := by decide +kernel
theorem dX10_outFor_2 : decode cX10_outFor 2 = .ok (.iconst 0, 1) := by decide +kernel
theorem dX10_outFor_3 : decode cX10_outFor 3 = .ok (.istore_n 3, 1) := by decide +kernel
theorem dX10_outFor_4 : decode cX10_outFor 4 = .ok (.iload_n 3, 1) := by decide +kernel
theorem dX10_outFor_5 : decode cX10_outFor 5 = .ok (.aload_n 0, 1) := by decide +kernel
theorem dX10_outFor_6 : decode cX10_outFor 6 = .ok (.getfield 7, 3) := by decide +kernel
theorem dX10_outFor_9 : decode cX10_outFor 9 = .ok (.iconst 2, 1) := by decide +kernel
theorem dX10_outFor_10 : decode cX10_outFor 10 = .ok (.iaload, 1) := by decide +kernel
theorem dX10_outFor_11 : decode cX10_outFor 11 = .ok (.if_icmp .ge 115, 3) := by decide +kernel
theorem dX10_outFor_14 : decode cX10_outFor 14 = .ok (.aload_n 0, 1) := by decide +kernel
theorem dX10_outFor_15 : decode cX10_outFor 15 = .ok (.iload_n 1, 1) := by decide +kernel
theorem dX10_outFor_16 : decode cX10_outFor 16 = .ok (.invokevirtual 70, 3) := by decide +kernel
theorem dX10_outFor_19 : decode cX10_outFor 19 = .ok (.aload_n 0, 1) := by decide +kernel
theorem dX10_outFor_20 : decode cX10_outFor 20 = .ok (.iload_n 3, 1) := by decide +kernel
theorem dX10_outFor_21 : decode cX10_outFor 21 = .ok (.iconst 2, 1) := by decide +kernel
theorem dX10_outFor_22 : decode cX10_outFor 22 = .ok (.invokevirtual 67, 3) := by decide +kernel
theorem dX10_outFor_25 : decode cX10_outFor 25 = .ok (.invokestatic 176, 3) := by decide +kernel
theorem dX10_outFor_28 : decode cX10_outFor 28 = .ok (.istore 4, 2) := by decide +kernel
theorem dX10_outFor_30 : decode cX10_outFor 30 = .ok (.aload_n 0, 1) := by decide +kernel
theorem dX10_outFor_31 : decode cX10_outFor 31 = .ok (.iload_n 3, 1) := by decide +kernel
theorem dX10_outFor_32 : decode cX10_outFor 32 = .ok (.iconst 5, 1) := by decide +kernel
theorem dX10_outFor_33 : decode cX10_outFor 33 = .ok (.invokevirtual 67, 3) := by decide +kernel
theorem dX10_outFor_36 : decode cX10_outFor 36 = .ok (.ifCond .ne 29, 3) := by decide +kernel
theorem dX10_outFor_39 : decode cX10_outFor 39 = .ok (.aload_n 0, 1) := by decide +kernel
theorem dX10_outFor_40 : decode cX10_outFor 40 = .ok (.iload_n 3, 1) := by decide +kernel
theorem dX10_outFor_41 : decode cX10_outFor 41 = .ok (.invokevirtual 179, 3) := by decide +kernel
theorem dX10_outFor_44 : decode cX10_outFor 44 = .ok (.ifCond .ne 21, 3) := by decide +kernel
theorem dX10_outFor_47 : decode cX10_outFor 47 = .ok (.aload_n 0, 1) := by decide +kernel
theorem dX10_outFor_48 : decode cX10_outFor 48 = .ok (.iload_n 3, 1) := by decide +kernel
theorem dX10_outFor_49 : decode cX10_outFor 49 = .ok (.iconst 4, 1) := by decide +kernel
theorem dX10_outFor_50 : decode cX10_outFor 50 = .ok (.invokevirtual 67, 3) := by decide +kernel
theorem dX10_outFor_53 : decode cX10_outFor 53 = .ok (.iload_n 1, 1) := by decide +kernel
theorem dX10_outFor_54 : decode cX10_outFor 54 = .ok (.ishr, 1) := by decide +kernel
theorem dX10_outFor_55 : decode cX10_outFor 55 = .ok (.iconst 1, 1) := by decide +kernel
theorem dX10_outFor_56 : decode cX10_outFor 56 = .ok (.iand, 1) := by decide +kernel
theorem dX10_outFor_57 : decode cX10_outFor 57 = .ok (.iconst 1, 1) := by decide +kernel
theorem dX10_outFor_58 : decode cX10_outFor 58 = .ok (.if_icmp .ne 7, 3) := by decide +kernel
theorem dX10_outFor_61 : decode cX10_outFor 61 = .ok (.iconst 1, 1) := by decide +kernel
theorem dX10_outFor_62 : decode cX10_outFor 62 = .ok (.goto 4, 3) := by decide +kernel
theorem dX10_outFor_65 : decode cX10_outFor 65 = .ok (.iconst 0, 1) := by decide +kernel
theorem dX10_outFor_66 : decode cX10_outFor 66 = .ok (.istore 5, 2) := by decide +kernel
theorem dX10_outFor_68 : decode cX10_outFor 68 = .ok (.iload 5, 2) := by decide +kernel
theorem dX10_outFor_70 : decode cX10_outFor 70 = .ok (.ifCond .eq 50, 3) := by decide +kernel
theorem dX10_outFor_73 : decode cX10_outFor 73 = .ok (.iload_n 2, 1) := by decide +kernel
theorem dX10_outFor_74 : decode cX10_outFor 74 = .ok (.ifCond .lt 22, 3) := by decide +kernel
theorem dX10_outFor_77 : decode cX10_outFor 77 = .ok (.iload 4, 2) := by decide +kernel
theorem dX10_outFor_79 : decode cX10_outFor 79 = .ok (.aload_n 0, 1) := by decide +kernel
theorem dX10_outFor_80 : decode cX10_outFor 80 = .ok (.iload_n 1, 1) := by decide +kernel
theorem dX10_outFor_81 : decode cX10_outFor 81 = .ok (.invokevirtual 70, 3) := by decide +kernel
theorem dX10_outFor_84 : decode cX10_outFor 84 = .ok (.aload_n 0, 1) := by decide +kernel
theorem dX10_outFor_85 : decode cX10_outFor 85 = .ok (.iload_n 2, 1) := by decide +kernel
theorem dX10_outFor_86 : decode cX10_outFor 86 = .ok (.iconst 2, 1) := by decide +kernel
theorem dX10_outFor_87 : decode cX10_outFor 87 = .ok (.invokevirtual 67, 3) := by decide +kernel
theorem dX10_outFor_90 : decode cX10_outFor 90 = .ok (.invokestatic 176, 3) := by decide +kernel
theorem dX10_outFor_93 : decode cX10_outFor 93 = .ok (.if_icmp .ge 27, 3) := by decide +kernel
theorem dX10_outFor_96 : decode cX10_outFor 96 = .ok (.aload_n 0, 1) := by decide +kernel
theorem dX10_outFor_97 : decode cX10_outFor 97 = .ok (.iconst 1, 1) := by decide +kernel
theorem dX10_outFor_98 : decode cX10_outFor 98 = .ok (.iload 4, 2) := by decide +kernel
theorem dX10_outFor_100 : decode cX10_outFor 100 = .ok (.aload_n 0, 1) := by decide +kernel
theorem dX10_outFor_101 : decode cX10_outFor 101 = .ok (.iload_n 3, 1) := by decide +kernel
theorem dX10_outFor_102 : decode cX10_outFor 102 = .ok (.iconst 3, 1) := by decide +kernel
theorem dX10_outFor_103 : decode cX10_outFor 103 = .ok (.invokevirtual 67, 3) := by decide +kernel
theorem dX10_outFor_106 : decode cX10_outFor 106 = .ok (.aload_n 0, 1) := by decide +kernel
theorem dX10_outFor_107 : decode cX10_outFor 107 = .ok (.iload_n 3, 1) := by decide +kernel
theorem dX10_outFor_108 : decode cX10_outFor 108 = .ok (.iconst 1, 1) := by decide +kernel
theorem dX10_outFor_109 : decode cX10_outFor 109 = .ok (.invokevirtual 67, 3) := by decide +kernel
theorem dX10_outFor_112 : decode cX10_outFor 112 = .ok (.invokevirtual 168, 3) := by decide +kernel
theorem dX10_outFor_115 : decode cX10_outFor 115 = .ok (.ifCond .eq 5, 3) := by decide +kernel
theorem dX10_outFor_118 : decode cX10_outFor 118 = .ok (.iload_n 3, 1) := by decide +kernel
theorem dX10_outFor_119 : decode cX10_outFor 119 = .ok (.istore_n 2, 1) := by decide +kernel
theorem dX10_outFor_120 : decode cX10_outFor 120 = .ok (.iinc 3 1, 3) := by decide +kernel
theorem dX10_outFor_123 : decode cX10_outFor 123 = .ok (.goto (-119), 3) := by decide +kernel
theorem dX10_outFor_126 : decode cX10_outFor 126 = .ok (.iload_n 2, 1) := by decide +kernel
theorem dX10_outFor_127 : decode cX10_outFor 127 = .ok (.ireturn, 1) := by decide +kernel
theorem dX10_seeks_0 : decode cX10_seeks 0 = .ok (.aload_n 0, 1) := by decide +kernel
theorem dX10_seeks_1 : decode cX10_seeks 1 = .ok (.iload_n 1, 1) := by decide +kernel
theorem dX10_seeks_2 : decode cX10_seeks 2 = .ok (.invokevirtual 81, 3) := by decide +kernel
theorem dX10_seeks_5 : decode cX10_seeks 5 = .ok (.istore_n 2, 1) := by decide +kernel
theorem dX10_seeks_6 : decode cX10_seeks 6 = .ok (.aload_n 0, 1) := by decide +kernel
theorem dX10_seeks_7 : decode cX10_seeks 7 = .ok (.getfield 31, 3) := by decide +kernel
theorem dX10_seeks_10 : decode cX10_seeks 10 = .ok (.iload_n 1, 1) := by decide +kernel
theorem dX10_seeks_11 : decode cX10_seeks 11 = .ok (.iconst (-1), 1) := by decide +kernel
theorem dX10_seeks_12 : decode cX10_seeks 12 = .ok (.iastore, 1) := by decide +kernel
theorem dX10_seeks_13 : decode cX10_seeks 13 = .ok (.iload_n 2, 1) := by decide +kernel
theorem dX10_seeks_14 : decode cX10_seeks 14 = .ok (.ifCond .ge 4, 3) := by decide +kernel
theorem dX10_seeks_17 : decode cX10_seeks 17 = .ok (.return_, 1) := by decide +kernel
theorem dX10_seeks_18 : decode cX10_seeks 18 = .ok (.aload_n 0, 1) := by decide +kernel
theorem dX10_seeks_19 : decode cX10_seeks 19 = .ok (.iload_n 2, 1) := by decide +kernel
theorem dX10_seeks_20 : decode cX10_seeks 20 = .ok (.iconst 2, 1) := by decide +kernel
theorem dX10_seeks_21 : decode cX10_seeks 21 = .ok (.invokevirtual 67, 3) := by decide +kernel
theorem dX10_seeks_24 : decode cX10_seeks 24 = .ok (.istore_n 3, 1) := by decide +kernel
theorem dX10_seeks_25 : decode cX10_seeks 25 = .ok (.iload_n 3, 1) := by decide +kernel
theorem dX10_seeks_26 : decode cX10_seeks 26 = .ok (.aload_n 0, 1) := by decide +kernel
theorem dX10_seeks_27 : decode cX10_seeks 27 = .ok (.iload_n 1, 1) := by decide +kernel
theorem dX10_seeks_28 : decode cX10_seeks 28 = .ok (.invokevirtual 70, 3) := by decide +kernel
theorem dX10_seeks_31 : decode cX10_seeks 31 = .ok (.if_icmp .eq 32, 3) := by decide +kernel
theorem dX10_seeks_34 : decode cX10_seeks 34 = .ok (.aload_n 0, 1) := by decide +kernel
theorem dX10_seeks_35 : decode cX10_seeks 35 = .ok (.getfield 7, 3) := by decide +kernel
theorem dX10_seeks_38 : decode cX10_seeks 38 = .ok (.bipush 18, 2) := by decide +kernel
theorem dX10_seeks_40 : decode cX10_seeks 40 = .ok (.iconst 2, 1) := by decide +kernel
theorem dX10_seeks_41 : decode cX10_seeks 41 = .ok (.iload_n 1, 1) := by decide +kernel
theorem dX10_seeks_42 : decode cX10_seeks 42 = .ok (.imul, 1) := by decide +kernel
theorem dX10_seeks_43 : decode cX10_seeks 43 = .ok (.iadd, 1) := by decide +kernel
theorem dX10_seeks_44 : decode cX10_seeks 44 = .ok (.dup2, 1) := by decide +kernel
theorem dX10_seeks_45 : decode cX10_seeks 45 = .ok (.iaload, 1) := by decide +kernel
theorem dX10_seeks_46 : decode cX10_seeks 46 = .ok (.iload_n 3, 1) := by decide +kernel
theorem dX10_seeks_47 : decode cX10_seeks 47 = .ok (.aload_n 0, 1) := by decide +kernel
theorem dX10_seeks_48 : decode cX10_seeks 48 = .ok (.iload_n 1, 1) := by decide +kernel
theorem dX10_seeks_49 : decode cX10_seeks 49 = .ok (.invokevirtual 70, 3) := by decide +kernel
theorem dX10_seeks_52 : decode cX10_seeks 52 = .ok (.if_icmp .le 7, 3) := by decide +kernel
theorem dX10_seeks_55 : decode cX10_seeks 55 = .ok (.iconst 1, 1) := by decide +kernel
theorem dX10_seeks_56 : decode cX10_seeks 56 = .ok (.goto 4, 3) := by decide +kernel
theorem dX10_seeks_59 : decode cX10_seeks 59 = .ok (.iconst (-1), 1) := by decide +kernel
theorem dX10_seeks_60 : decode cX10_seeks 60 = .ok (.iadd, 1) := by decide +kernel
theorem dX10_seeks_61 : decode cX10_seeks 61 = .ok (.iastore, 1) := by decide +kernel
theorem dX10_seeks_62 : decode cX10_seeks 62 = .ok (.return_, 1) := by decide +kernel
theorem dX10_seeks_63 : decode cX10_seeks 63 = .ok (.aload_n 0, 1) := by decide +kernel
theorem dX10_seeks_64 : decode cX10_seeks 64 = .ok (.getfield 7, 3) := by decide +kernel
theorem dX10_seeks_67 : decode cX10_seeks 67 = .ok (.bipush 8, 2) := by decide +kernel
theorem dX10_seeks_69 : decode cX10_seeks 69 = .ok (.iload_n 3, 1) := by decide +kernel
theorem dX10_seeks_70 : decode cX10_seeks 70 = .ok (.iadd, 1) := by decide +kernel
theorem dX10_seeks_71 : decode cX10_seeks 71 = .ok (.aload_n 0, 1) := by decide +kernel
theorem dX10_seeks_72 : decode cX10_seeks 72 = .ok (.getfield 7, 3) := by decide +kernel
theorem dX10_seeks_75 : decode cX10_seeks 75 = .ok (.bipush 8, 2) := by decide +kernel
theorem dX10_seeks_77 : decode cX10_seeks 77 = .ok (.iload_n 3, 1) := by decide +kernel
theorem dX10_seeks_78 : decode cX10_seeks 78 = .ok (.iadd, 1) := by decide +kernel
theorem dX10_seeks_79 : decode cX10_seeks 79 = .ok (.iaload, 1) := by decide +kernel
theorem dX10_seeks_80 : decode cX10_seeks 80 = .ok (.aload_n 0, 1) := by decide +kernel
theorem dX10_seeks_81 : decode cX10_seeks 81 = .ok (.getfield 7, 3) := by decide +kernel
theorem dX10_seeks_84 : decode cX10_seeks 84 = .ok (.bipush 18, 2) := by decide +kernel
theorem dX10_seeks_86 : decode cX10_seeks 86 = .ok (.iconst 2, 1) := by decide +kernel
theorem dX10_seeks_87 : decode cX10_seeks 87 = .ok (.iload_n 1, 1) := by decide +kernel
theorem dX10_seeks_88 : decode cX10_seeks 88 = .ok (.imul, 1) := by decide +kernel
theorem dX10_seeks_89 : decode cX10_seeks 89 = .ok (.iadd, 1) := by decide +kernel
theorem dX10_seeks_90 : decode cX10_seeks 90 = .ok (.iconst 1, 1) := by decide +kernel
theorem dX10_seeks_91 : decode cX10_seeks 91 = .ok (.iadd, 1) := by decide +kernel
theorem dX10_seeks_92 : decode cX10_seeks 92 = .ok (.iaload, 1) := by decide +kernel
theorem dX10_seeks_93 : decode cX10_seeks 93 = .ok (.isub, 1) := by decide +kernel
theorem dX10_seeks_94 : decode cX10_seeks 94 = .ok (.iconst 0, 1) := by decide +kernel
theorem dX10_seeks_95 : decode cX10_seeks 95 = .ok (.sipush 999, 3) := by decide +kernel
theorem dX10_seeks_98 : decode cX10_seeks 98 = .ok (.invokestatic 165, 3) := by decide +kernel
theorem dX10_seeks_101 : decode cX10_seeks 101 = .ok (.iastore, 1) := by decide +kernel
theorem dX10_seeks_102 : decode cX10_seeks 102 = .ok (.aload_n 0, 1) := by decide +kernel
theorem dX10_seeks_103 : decode cX10_seeks 103 = .ok (.getfield 7, 3) := by decide +kernel
theorem dX10_seeks_106 : decode cX10_seeks 106 = .ok (.bipush 8, 2) := by decide +kernel
theorem dX10_seeks_108 : decode cX10_seeks 108 = .ok (.iload_n 3, 1) := by decide +kernel
theorem dX10_seeks_109 : decode cX10_seeks 109 = .ok (.iadd, 1) := by decide +kernel
theorem dX10_seeks_110 : decode cX10_seeks 110 = .ok (.iaload, 1) := by decide +kernel
theorem dX10_seeks_111 : decode cX10_seeks 111 = .ok (.aload_n 0, 1) := by decide +kernel
theorem dX10_seeks_112 : decode cX10_seeks 112 = .ok (.iload_n 2, 1) := by decide +kernel
theorem dX10_seeks_113 : decode cX10_seeks 113 = .ok (.invokevirtual 94, 3) := by decide +kernel
theorem dX10_seeks_116 : decode cX10_seeks 116 = .ok (.if_icmp .gt 17, 3) := by decide +kernel
theorem dX10_seeks_119 : decode cX10_seeks 119 = .ok (.aload_n 0, 1) := by decide +kernel
theorem dX10_seeks_120 : decode cX10_seeks 120 = .ok (.iload_n 2, 1) := by decide +kernel
theorem dX10_seeks_121 : decode cX10_seeks 121 = .ok (.iconst 5, 1) := by decide +kernel
theorem dX10_seeks_122 : decode cX10_seeks 122 = .ok (.iconst 1, 1) := by decide +kernel
theorem dX10_seeks_123 : decode cX10_seeks 123 = .ok (.invokevirtual 87, 3) := by decide +kernel
theorem dX10_seeks_126 : decode cX10_seeks 126 = .ok (.aload_n 0, 1) := by decide +kernel
theorem dX10_seeks_127 : decode cX10_seeks 127 = .ok (.getfield 31, 3) := by decide +kernel
theorem dX10_seeks_130 : decode cX10_seeks 130 = .ok (.iload_n 1, 1) := by decide +kernel
theorem dX10_seeks_131 : decode cX10_seeks 131 = .ok (.iload_n 2, 1) := by decide +kernel
theorem dX10_seeks_132 : decode cX10_seeks 132 = .ok (.iastore, 1) := by decide +kernel
theorem dX10_seeks_133 : decode cX10_seeks 133 = .ok (.return_, 1) := by decide +kernel
theorem dX10_oneHour_0 : decode cX10_oneHour 0 = .ok (.iconst 0, 1) := by decide +kernel
theorem dX10_oneHour_1 : decode cX10_oneHour 1 = .ok (.istore_n 1, 1) := by decide +kernel
theorem dX10_oneHour_2 : decode cX10_oneHour 2 = .ok (.iload_n 1, 1) := by decide +kernel
theorem dX10_oneHour_3 : decode cX10_oneHour 3 = .ok (.bipush 10, 2) := by decide +kernel
theorem dX10_oneHour_5 : decode cX10_oneHour 5 = .ok (.if_icmp .ge 59, 3) := by decide +kernel
theorem dX10_oneHour_8 : decode cX10_oneHour 8 = .ok (.aload_n 0, 1) := by decide +kernel
theorem dX10_oneHour_9 : decode cX10_oneHour 9 = .ok (.getfield 7, 3) := by decide +kernel
theorem dX10_oneHour_12 : decode cX10_oneHour 12 = .ok (.bipush 8, 2) := by decide +kernel
theorem dX10_oneHour_14 : decode cX10_oneHour 14 = .ok (.iload_n 1, 1) := by decide +kernel
theorem dX10_oneHour_15 : decode cX10_oneHour 15 = .ok (.iadd, 1) := by decide +kernel
theorem dX10_oneHour_16 : decode cX10_oneHour 16 = .ok (.aload_n 0, 1) := by decide +kernel
theorem dX10_oneHour_17 : decode cX10_oneHour 17 = .ok (.getfield 7, 3) := by decide +kernel
theorem dX10_oneHour_20 : decode cX10_oneHour 20 = .ok (.bipush 8, 2) := by decide +kernel
theorem dX10_oneHour_22 : decode cX10_oneHour 22 = .ok (.iload_n 1, 1) := by decide +kernel
theorem dX10_oneHour_23 : decode cX10_oneHour 23 = .ok (.iadd, 1) := by decide +kernel
theorem dX10_oneHour_24 : decode cX10_oneHour 24 = .ok (.iaload, 1) := by decide +kernel
theorem dX10_oneHour_25 : decode cX10_oneHour 25 = .ok (.aload_n 0, 1) := by decide +kernel
theorem dX10_oneHour_26 : decode cX10_oneHour 26 = .ok (.iconst 0, 1) := by decide +kernel
theorem dX10_oneHour_27 : decode cX10_oneHour 27 = .ok (.iload_n 1, 1) := by decide +kernel
theorem dX10_oneHour_28 : decode cX10_oneHour 28 = .ok (.aload_n 0, 1) := by decide +kernel
theorem dX10_oneHour_29 : decode cX10_oneHour 29 = .ok (.getfield 7, 3) := by decide +kernel
theorem dX10_oneHour_32 : decode cX10_oneHour 32 = .ok (.bipush 8, 2) := by decide +kernel
theorem dX10_oneHour_34 : decode cX10_oneHour 34 = .ok (.iload_n 1, 1) := by decide +kernel
theorem dX10_oneHour_35 : decode cX10_oneHour 35 = .ok (.iadd, 1) := by decide +kernel
theorem dX10_oneHour_36 : decode cX10_oneHour 36 = .ok (.iaload, 1) := by decide +kernel
theorem dX10_oneHour_37 : decode cX10_oneHour 37 = .ok (.aload_n 0, 1) := by decide +kernel
theorem dX10_oneHour_38 : decode cX10_oneHour 38 = .ok (.getfield 7, 3) := by decide +kernel
theorem dX10_oneHour_41 : decode cX10_oneHour 41 = .ok (.iconst 0, 1) := by decide +kernel
theorem dX10_oneHour_42 : decode cX10_oneHour 42 = .ok (.iaload, 1) := by decide +kernel
theorem dX10_oneHour_43 : decode cX10_oneHour 43 = .ok (.bipush 24, 2) := by decide +kernel
theorem dX10_oneHour_45 : decode cX10_oneHour 45 = .ok (.irem, 1) := by decide +kernel
theorem dX10_oneHour_46 : decode cX10_oneHour 46 = .ok (.invokevirtual 168, 3) := by decide +kernel
theorem dX10_oneHour_49 : decode cX10_oneHour 49 = .ok (.iadd, 1) := by decide +kernel
theorem dX10_oneHour_50 : decode cX10_oneHour 50 = .ok (.iconst 0, 1) := by decide +kernel
theorem dX10_oneHour_51 : decode cX10_oneHour 51 = .ok (.sipush 999, 3) := by decide +kernel
theorem dX10_oneHour_54 : decode cX10_oneHour 54 = .ok (.invokestatic 165, 3) := by decide +kernel
theorem dX10_oneHour_57 : decode cX10_oneHour 57 = .ok (.iastore, 1) := by decide +kernel
theorem dX10_oneHour_58 : decode cX10_oneHour 58 = .ok (.iinc 1 1, 3) := by decide +kernel
theorem dX10_oneHour_61 : decode cX10_oneHour 61 = .ok (.goto (-59), 3) := by decide +kernel
theorem dX10_oneHour_64 : decode cX10_oneHour 64 = .ok (.iconst 0, 1) := by decide +kernel
theorem dX10_oneHour_65 : decode cX10_oneHour 65 = .ok (.istore_n 1, 1) := by decide +kernel
theorem dX10_oneHour_66 : decode cX10_oneHour 66 = .ok (.iload_n 1, 1) := by decide +kernel
theorem dX10_oneHour_67 : decode cX10_oneHour 67 = .ok (.aload_n 0, 1) := by decide +kernel
theorem dX10_oneHour_68 : decode cX10_oneHour 68 = .ok (.getfield 7, 3) := by decide +kernel
theorem dX10_oneHour_71 : decode cX10_oneHour 71 = .ok (.iconst 3, 1) := by decide +kernel
theorem dX10_oneHour_72 : decode cX10_oneHour 72 = .ok (.iaload, 1) := by decide +kernel
theorem dX10_oneHour_73 : decode cX10_oneHour 73 = .ok (.if_icmp .ge 14, 3) := by decide +kernel
theorem dX10_oneHour_76 : decode cX10_oneHour 76 = .ok (.aload_n 0, 1) := by decide +kernel
theorem dX10_oneHour_77 : decode cX10_oneHour 77 = .ok (.iload_n 1, 1) := by decide +kernel
theorem dX10_oneHour_78 : decode cX10_oneHour 78 = .ok (.invokevirtual 182, 3) := by decide +kernel
theorem dX10_oneHour_81 : decode cX10_oneHour 81 = .ok (.iinc 1 1, 3) := by decide +kernel
theorem dX10_oneHour_84 : decode cX10_oneHour 84 = .ok (.goto (-18), 3) := by decide +kernel
theorem dX10_oneHour_87 : decode cX10_oneHour 87 = .ok (.iconst 0, 1) := by decide +kernel
theorem dX10_oneHour_88 : decode cX10_oneHour 88 = .ok (.istore_n 1, 1) := by decide +kernel
theorem dX10_oneHour_89 : decode cX10_oneHour 89 = .ok (.iload_n 1, 1) := by decide +kernel
theorem dX10_oneHour_90 : decode cX10_oneHour 90 = .ok (.aload_n 0, 1) := by decide +kernel
theorem dX10_oneHour_91 : decode cX10_oneHour 91 = .ok (.getfield 7, 3) := by decide +kernel
theorem dX10_oneHour_94 : decode cX10_oneHour 94 = .ok (.iconst 2, 1) := by decide +kernel
theorem dX10_oneHour_95 : decode cX10_oneHour 95 = .ok (.iaload, 1) := by decide +kernel
theorem dX10_oneHour_96 : decode cX10_oneHour 96 = .ok (.if_icmp .ge 59, 3) := by decide +kernel
theorem dX10_oneHour_99 : decode cX10_oneHour 99 = .ok (.aload_n 0, 1) := by decide +kernel
theorem dX10_oneHour_100 : decode cX10_oneHour 100 = .ok (.iload_n 1, 1) := by decide +kernel
theorem dX10_oneHour_101 : decode cX10_oneHour 101 = .ok (.iconst 5, 1) := by decide +kernel
theorem dX10_oneHour_102 : decode cX10_oneHour 102 = .ok (.invokevirtual 67, 3) := by decide +kernel
theorem dX10_oneHour_105 : decode cX10_oneHour 105 = .ok (.ifCond .ne 44, 3) := by decide +kernel
theorem dX10_oneHour_108 : decode cX10_oneHour 108 = .ok (.aload_n 0, 1) := by decide +kernel
theorem dX10_oneHour_109 : decode cX10_oneHour 109 = .ok (.getfield 7, 3) := by decide +kernel
theorem dX10_oneHour_112 : decode cX10_oneHour 112 = .ok (.bipush 8, 2) := by decide +kernel
theorem dX10_oneHour_114 : decode cX10_oneHour 114 = .ok (.aload_n 0, 1) := by decide +kernel
theorem dX10_oneHour_115 : decode cX10_oneHour 115 = .ok (.iload_n 1, 1) := by decide +kernel
theorem dX10_oneHour_116 : decode cX10_oneHour 116 = .ok (.iconst 2, 1) := by decide +kernel
theorem dX10_oneHour_117 : decode cX10_oneHour 117 = .ok (.invokevirtual 67, 3) := by decide +kernel
theorem dX10_oneHour_120 : decode cX10_oneHour 120 = .ok (.iadd, 1) := by decide +kernel
theorem dX10_oneHour_121 : decode cX10_oneHour 121 = .ok (.iaload, 1) := by decide +kernel
theorem dX10_oneHour_122 : decode cX10_oneHour 122 = .ok (.ifCond .le 27, 3) := by decide +kernel
theorem dX10_oneHour_125 : decode cX10_oneHour 125 = .ok (.aload_n 0, 1) := by decide +kernel
theorem dX10_oneHour_126 : decode cX10_oneHour 126 = .ok (.iload_n 1, 1) := by decide +kernel
theorem dX10_oneHour_127 : decode cX10_oneHour 127 = .ok (.iconst 3, 1) := by decide +kernel
theorem dX10_oneHour_128 : decode cX10_oneHour 128 = .ok (.aload_n 0, 1) := by decide +kernel
theorem dX10_oneHour_129 : decode cX10_oneHour 129 = .ok (.iload_n 1, 1) := by decide +kernel
theorem dX10_oneHour_130 : decode cX10_oneHour 130 = .ok (.iconst 3, 1) := by decide +kernel
theorem dX10_oneHour_131 : decode cX10_oneHour 131 = .ok (.invokevirtual 67, 3) := by decide +kernel
theorem dX10_oneHour_134 : decode cX10_oneHour 134 = .ok (.aload_n 0, 1) := by decide +kernel
theorem dX10_oneHour_135 : decode cX10_oneHour 135 = .ok (.iload_n 1, 1) := by decide +kernel
theorem dX10_oneHour_136 : decode cX10_oneHour 136 = .ok (.invokevirtual 97, 3) := by decide +kernel
theorem dX10_oneHour_139 : decode cX10_oneHour 139 = .ok (.isub, 1) := by decide +kernel
theorem dX10_oneHour_140 : decode cX10_oneHour 140 = .ok (.iconst 0, 1) := by decide +kernel
theorem dX10_oneHour_141 : decode cX10_oneHour 141 = .ok (.bipush 99, 2) := by decide +kernel
theorem dX10_oneHour_143 : decode cX10_oneHour 143 = .ok (.invokestatic 165, 3) := by decide +kernel
theorem dX10_oneHour_146 : decode cX10_oneHour 146 = .ok (.invokevirtual 87, 3) := by decide +kernel
theorem dX10_oneHour_149 : decode cX10_oneHour 149 = .ok (.iinc 1 1, 3) := by decide +kernel
theorem dX10_oneHour_152 : decode cX10_oneHour 152 = .ok (.goto (-63), 3) := by decide +kernel
theorem dX10_oneHour_155 : decode cX10_oneHour 155 = .ok (.aload_n 0, 1) := by decide +kernel
theorem dX10_oneHour_156 : decode cX10_oneHour 156 = .ok (.getfield 7, 3) := by decide +kernel
theorem dX10_oneHour_159 : decode cX10_oneHour 159 = .ok (.iconst 0, 1) := by decide +kernel
theorem dX10_oneHour_160 : decode cX10_oneHour 160 = .ok (.dup2, 1) := by decide +kernel
theorem dX10_oneHour_161 : decode cX10_oneHour 161 = .ok (.iaload, 1) := by decide +kernel
theorem dX10_oneHour_162 : decode cX10_oneHour 162 = .ok (.iconst 1, 1) := by decide +kernel
theorem dX10_oneHour_163 : decode cX10_oneHour 163 = .ok (.iadd, 1) := by decide +kernel
theorem dX10_oneHour_164 : decode cX10_oneHour 164 = .ok (.iastore, 1) := by decide +kernel
theorem dX10_oneHour_165 : decode cX10_oneHour 165 = .ok (.return_, 1) := by decide +kernel
theorem dX10_passes_0 : decode cX10_passes 0 = .ok (.iconst 0, 1) := by decide +kernel
theorem dX10_passes_1 : decode cX10_passes 1 = .ok (.istore_n 2, 1) := by decide +kernel
theorem dX10_passes_2 : decode cX10_passes 2 = .ok (.iload_n 2, 1) := by decide +kernel
theorem dX10_passes_3 : decode cX10_passes 3 = .ok (.iload_n 1, 1) := by decide +kernel
theorem dX10_passes_4 : decode cX10_passes 4 = .ok (.if_icmp .ge 13, 3) := by decide +kernel
theorem dX10_passes_7 : decode cX10_passes 7 = .ok (.aload_n 0, 1) := by decide +kernel
theorem dX10_passes_8 : decode cX10_passes 8 = .ok (.invokevirtual 185, 3) := by decide +kernel
theorem dX10_passes_11 : decode cX10_passes 11 = .ok (.iinc 2 1, 3) := by decide +kernel
theorem dX10_passes_14 : decode cX10_passes 14 = .ok (.goto (-12), 3) := by decide +kernel
theorem dX10_passes_17 : decode cX10_passes 17 = .ok (.return_, 1) := by decide +kernel
theorem dX10_foundSet_0 : decode cX10_foundSet 0 = .ok (.iconst 0, 1) := by decide +kernel
theorem dX10_foundSet_1 : decode cX10_foundSet 1 = .ok (.istore_n 1, 1) := by decide +kernel
theorem dX10_foundSet_2 : decode cX10_foundSet 2 = .ok (.iconst 0, 1) := by decide +kernel
theorem dX10_foundSet_3 : decode cX10_foundSet 3 = .ok (.istore_n 2, 1) := by decide +kernel
theorem dX10_foundSet_4 : decode cX10_foundSet 4 = .ok (.iload_n 2, 1) := by decide +kernel
theorem dX10_foundSet_5 : decode cX10_foundSet 5 = .ok (.aload_n 0, 1) := by decide +kernel
theorem dX10_foundSet_6 : decode cX10_foundSet 6 = .ok (.getfield 7, 3) := by decide +kernel
theorem dX10_foundSet_9 : decode cX10_foundSet 9 = .ok (.iconst 2, 1) := by decide +kernel
theorem dX10_foundSet_10 : decode cX10_foundSet 10 = .ok (.iaload, 1) := by decide +kernel
theorem dX10_foundSet_11 : decode cX10_foundSet 11 = .ok (.if_icmp .ge 20, 3) := by decide +kernel
theorem dX10_foundSet_14 : decode cX10_foundSet 14 = .ok (.iload_n 1, 1) := by decide +kernel
theorem dX10_foundSet_15 : decode cX10_foundSet 15 = .ok (.aload_n 0, 1) := by decide +kernel
theorem dX10_foundSet_16 : decode cX10_foundSet 16 = .ok (.iload_n 2, 1) := by decide +kernel
theorem dX10_foundSet_17 : decode cX10_foundSet 17 = .ok (.iconst 5, 1) := by decide +kernel
theorem dX10_foundSet_18 : decode cX10_foundSet 18 = .ok (.invokevirtual 67, 3) := by decide +kernel
theorem dX10_foundSet_21 : decode cX10_foundSet 21 = .ok (.iload_n 2, 1) := by decide +kernel
theorem dX10_foundSet_22 : decode cX10_foundSet 22 = .ok (.ishl, 1) := by decide +kernel
theorem dX10_foundSet_23 : decode cX10_foundSet 23 = .ok (.ior, 1) := by decide +kernel
theorem dX10_foundSet_24 : decode cX10_foundSet 24 = .ok (.istore_n 1, 1) := by decide +kernel
theorem dX10_foundSet_25 : decode cX10_foundSet 25 = .ok (.iinc 2 1, 3) := by decide +kernel
theorem dX10_foundSet_28 : decode cX10_foundSet 28 = .ok (.goto (-24), 3) := by decide +kernel
theorem dX10_foundSet_31 : decode cX10_foundSet 31 = .ok (.iload_n 1, 1) := by decide +kernel
theorem dX10_foundSet_32 : decode cX10_foundSet 32 = .ok (.ireturn, 1) := by decide +kernel
theorem dX10_foundBehind_0 : decode cX10_foundBehind 0 = .ok (.aload_n 0, 1) := by decide +kernel
theorem dX10_foundBehind_1 : decode cX10_foundBehind 1 = .ok (.aload_n 0, 1) := by decide +kernel
theorem dX10_foundBehind_2 : decode cX10_foundBehind 2 = .ok (.getfield 7, 3) := by decide +kernel
theorem dX10_foundBehind_5 : decode cX10_foundBehind 5 = .ok (.aload_n 0, 1) := by decide +kernel
theorem dX10_foundBehind_6 : decode cX10_foundBehind 6 = .ok (.getfield 16, 3) := by decide +kernel
theorem dX10_foundBehind_9 : decode cX10_foundBehind 9 = .ok (.invokevirtual 188, 3) := by decide +kernel
theorem dX10_foundBehind_12 : decode cX10_foundBehind 12 = .ok (.aload_n 0, 1) := by decide +kernel
theorem dX10_foundBehind_13 : decode cX10_foundBehind 13 = .ok (.iload_n 1, 1) := by decide +kernel
theorem dX10_foundBehind_14 : decode cX10_foundBehind 14 = .ok (.invokevirtual 192, 3) := by decide +kernel
theorem dX10_foundBehind_17 : decode cX10_foundBehind 17 = .ok (.aload_n 0, 1) := by decide +kernel
theorem dX10_foundBehind_18 : decode cX10_foundBehind 18 = .ok (.invokevirtual 195, 3) := by decide +kernel
theorem dX10_foundBehind_21 : decode cX10_foundBehind 21 = .ok (.istore_n 2, 1) := by decide +kernel
theorem dX10_foundBehind_22 : decode cX10_foundBehind 22 = .ok (.aload_n 0, 1) := by decide +kernel
theorem dX10_foundBehind_23 : decode cX10_foundBehind 23 = .ok (.aload_n 0, 1) := by decide +kernel
theorem dX10_foundBehind_24 : decode cX10_foundBehind 24 = .ok (.getfield 16, 3) := by decide +kernel
theorem dX10_foundBehind_27 : decode cX10_foundBehind 27 = .ok (.aload_n 0, 1) := by decide +kernel
theorem dX10_foundBehind_28 : decode cX10_foundBehind 28 = .ok (.getfield 7, 3) := by decide +kernel
theorem dX10_foundBehind_31 : decode cX10_foundBehind 31 = .ok (.invokevirtual 188, 3) := by decide +kernel
theorem dX10_foundBehind_34 : decode cX10_foundBehind 34 = .ok (.iload_n 2, 1) := by decide +kernel
theorem dX10_foundBehind_35 : decode cX10_foundBehind 35 = .ok (.ireturn, 1) := by decide +kernel
theorem dX10_hours_0 : decode cX10_hours 0 = .ok (.iload_n 1, 1) := by decide +kernel
theorem dX10_hours_1 : decode cX10_hours 1 = .ok (.iconst 1, 1) := by decide +kernel
theorem dX10_hours_2 : decode cX10_hours 2 = .ok (.bipush 60, 2) := by decide +kernel
theorem dX10_hours_4 : decode cX10_hours 4 = .ok (.invokestatic 50, 3) := by decide +kernel
theorem dX10_hours_7 : decode cX10_hours 7 = .ok (.ifCond .ne 10, 3) := by decide +kernel
theorem dX10_hours_10 : decode cX10_hours 10 = .ok (.aload_n 0, 1) := by decide +kernel
theorem dX10_hours_11 : decode cX10_hours 11 = .ok (.ldc 62, 2) := by decide +kernel
theorem dX10_hours_13 : decode cX10_hours 13 = .ok (.invokevirtual 63, 3) := by decide +kernel
theorem dX10_hours_16 : decode cX10_hours 16 = .ok (.ireturn, 1) := by decide +kernel
theorem dX10_hours_17 : decode cX10_hours 17 = .ok (.aload_n 0, 1) := by decide +kernel
theorem dX10_hours_18 : decode cX10_hours 18 = .ok (.getfield 7, 3) := by decide +kernel
theorem dX10_hours_21 : decode cX10_hours 21 = .ok (.iconst 0, 1) := by decide +kernel
theorem dX10_hours_22 : decode cX10_hours 22 = .ok (.iaload, 1) := by decide +kernel
theorem dX10_hours_23 : decode cX10_hours 23 = .ok (.iload_n 1, 1) := by decide +kernel
theorem dX10_hours_24 : decode cX10_hours 24 = .ok (.iadd, 1) := by decide +kernel
theorem dX10_hours_25 : decode cX10_hours 25 = .ok (.sipush 9999, 3) := by decide +kernel
theorem dX10_hours_28 : decode cX10_hours 28 = .ok (.if_icmp .le 10, 3) := by decide +kernel
theorem dX10_hours_31 : decode cX10_hours 31 = .ok (.aload_n 0, 1) := by decide +kernel
theorem dX10_hours_32 : decode cX10_hours 32 = .ok (.ldc 199, 2) := by decide +kernel
theorem dX10_hours_34 : decode cX10_hours 34 = .ok (.invokevirtual 63, 3) := by decide +kernel
theorem dX10_hours_37 : decode cX10_hours 37 = .ok (.ireturn, 1) := by decide +kernel
theorem dX10_hours_38 : decode cX10_hours 38 = .ok (.aload_n 0, 1) := by decide +kernel
theorem dX10_hours_39 : decode cX10_hours 39 = .ok (.iload_n 1, 1) := by decide +kernel
theorem dX10_hours_40 : decode cX10_hours 40 = .ok (.invokevirtual 192, 3) := by decide +kernel
theorem dX10_hours_43 : decode cX10_hours 43 = .ok (.aload_n 0, 1) := by decide +kernel
theorem dX10_hours_44 : decode cX10_hours 44 = .ok (.invokevirtual 195, 3) := by decide +kernel
theorem dX10_hours_47 : decode cX10_hours 47 = .ok (.ireturn, 1) := by decide +kernel
theorem dX10_drawn_0 : decode cX10_drawn 0 = .ok (.aload_n 0, 1) := by decide +kernel
theorem dX10_drawn_1 : decode cX10_drawn 1 = .ok (.getfield 7, 3) := by decide +kernel
theorem dX10_drawn_4 : decode cX10_drawn 4 = .ok (.iconst 1, 1) := by decide +kernel
theorem dX10_drawn_5 : decode cX10_drawn 5 = .ok (.aload_n 0, 1) := by decide +kernel
theorem dX10_drawn_6 : decode cX10_drawn 6 = .ok (.getfield 7, 3) := by decide +kernel
theorem dX10_drawn_9 : decode cX10_drawn 9 = .ok (.iconst 1, 1) := by decide +kernel
theorem dX10_drawn_10 : decode cX10_drawn 10 = .ok (.iaload, 1) := by decide +kernel
theorem dX10_drawn_11 : decode cX10_drawn 11 = .ok (.ldc 200, 2) := by decide +kernel
theorem dX10_drawn_13 : decode cX10_drawn 13 = .ok (.imul, 1) := by decide +kernel
theorem dX10_drawn_14 : decode cX10_drawn 14 = .ok (.sipush 12345, 3) := by decide +kernel
theorem dX10_drawn_17 : decode cX10_drawn 17 = .ok (.iadd, 1) := by decide +kernel
theorem dX10_drawn_18 : decode cX10_drawn 18 = .ok (.iastore, 1) := by decide +kernel
theorem dX10_drawn_19 : decode cX10_drawn 19 = .ok (.aload_n 0, 1) := by decide +kernel
theorem dX10_drawn_20 : decode cX10_drawn 20 = .ok (.getfield 7, 3) := by decide +kernel
