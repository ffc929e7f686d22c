theorem dX11_sets_136 : decode cX11_sets 136 = .ok (.iaload, 1) := by decide +kernel
theorem dX11_sets_137 : decode cX11_sets 137 = .ok (.if_icmp .eq 9, 3) := by decide +kernel
theorem dX11_sets_140 : decode cX11_sets 140 = .ok (.iinc 5 1, 3) := by decide +kernel
theorem dX11_sets_143 : decode cX11_sets 143 = .ok (.goto (-87), 3) := by decide +kernel
theorem dX11_sets_146 : decode cX11_sets 146 = .ok (.aload_n 0, 1) := by decide +kernel
theorem dX11_sets_147 : decode cX11_sets 147 = .ok (.getfield 46, 3) := by decide +kernel
theorem dX11_sets_150 : decode cX11_sets 150 = .ok (.iload 4, 2) := by decide +kernel
theorem dX11_sets_152 : decode cX11_sets 152 = .ok (.iload 5, 2) := by decide +kernel
theorem dX11_sets_154 : decode cX11_sets 154 = .ok (.iastore, 1) := by decide +kernel
theorem dX11_sets_155 : decode cX11_sets 155 = .ok (.iload 5, 2) := by decide +kernel
theorem dX11_sets_157 : decode cX11_sets 157 = .ok (.iconst 2, 1) := by decide +kernel
theorem dX11_sets_158 : decode cX11_sets 158 = .ok (.if_icmp .ge 37, 3) := by decide +kernel
theorem dX11_sets_161 : decode cX11_sets 161 = .ok (.aload_n 0, 1) := by decide +kernel
theorem dX11_sets_162 : decode cX11_sets 162 = .ok (.getfield 49, 3) := by decide +kernel
theorem dX11_sets_165 : decode cX11_sets 165 = .ok (.iload 5, 2) := by decide +kernel
theorem dX11_sets_167 : decode cX11_sets 167 = .ok (.dup2, 1) := by decide +kernel
theorem dX11_sets_168 : decode cX11_sets 168 = .ok (.iaload, 1) := by decide +kernel
theorem dX11_sets_169 : decode cX11_sets 169 = .ok (.aload_n 0, 1) := by decide +kernel
theorem dX11_sets_170 : decode cX11_sets 170 = .ok (.iload 5, 2) := by decide +kernel
theorem dX11_sets_172 : decode cX11_sets 172 = .ok (.ifCond .ne 7, 3) := by decide +kernel
theorem dX11_sets_175 : decode cX11_sets 175 = .ok (.iload_n 2, 1) := by decide +kernel
theorem dX11_sets_176 : decode cX11_sets 176 = .ok (.goto 4, 3) := by decide +kernel
theorem dX11_sets_179 : decode cX11_sets 179 = .ok (.iload_n 3, 1) := by decide +kernel
theorem dX11_sets_180 : decode cX11_sets 180 = .ok (.iload 4, 2) := by decide +kernel
theorem dX11_sets_182 : decode cX11_sets 182 = .ok (.aload_n 0, 1) := by decide +kernel
theorem dX11_sets_183 : decode cX11_sets 183 = .ok (.getfield 7, 3) := by decide +kernel
theorem dX11_sets_186 : decode cX11_sets 186 = .ok (.sipush 202, 3) := by decide +kernel
theorem dX11_sets_189 : decode cX11_sets 189 = .ok (.iaload, 1) := by decide +kernel
theorem dX11_sets_190 : decode cX11_sets 190 = .ok (.invokevirtual 125, 3) := by decide +kernel
theorem dX11_sets_193 : decode cX11_sets 193 = .ok (.iadd, 1) := by decide +kernel
theorem dX11_sets_194 : decode cX11_sets 194 = .ok (.iastore, 1) := by decide +kernel
theorem dX11_sets_195 : decode cX11_sets 195 = .ok (.iload 5, 2) := by decide +kernel
theorem dX11_sets_197 : decode cX11_sets 197 = .ok (.ifCond .ne 8, 3) := by decide +kernel
theorem dX11_sets_200 : decode cX11_sets 200 = .ok (.iload 4, 2) := by decide +kernel
theorem dX11_sets_202 : decode cX11_sets 202 = .ok (.iconst 1, 1) := by decide +kernel
theorem dX11_sets_203 : decode cX11_sets 203 = .ok (.iadd, 1) := by decide +kernel
theorem dX11_sets_204 : decode cX11_sets 204 = .ok (.istore_n 2, 1) := by decide +kernel
theorem dX11_sets_205 : decode cX11_sets 205 = .ok (.iload 5, 2) := by decide +kernel
theorem dX11_sets_207 : decode cX11_sets 207 = .ok (.iconst 1, 1) := by decide +kernel
theorem dX11_sets_208 : decode cX11_sets 208 = .ok (.if_icmp .ne 8, 3) := by decide +kernel
theorem dX11_sets_211 : decode cX11_sets 211 = .ok (.iload 4, 2) := by decide +kernel
theorem dX11_sets_213 : decode cX11_sets 213 = .ok (.iconst 1, 1) := by decide +kernel
theorem dX11_sets_214 : decode cX11_sets 214 = .ok (.iadd, 1) := by decide +kernel
theorem dX11_sets_215 : decode cX11_sets 215 = .ok (.istore_n 3, 1) := by decide +kernel
theorem dX11_sets_216 : decode cX11_sets 216 = .ok (.iinc 4 1, 3) := by decide +kernel
theorem dX11_sets_219 : decode cX11_sets 219 = .ok (.goto (-177), 3) := by decide +kernel
theorem dX11_sets_222 : decode cX11_sets 222 = .ok (.iload_n 1, 1) := by decide +kernel
theorem dX11_sets_223 : decode cX11_sets 223 = .ok (.ireturn, 1) := by decide +kernel
theorem dX11_fists_0 : decode cX11_fists 0 = .ok (.iload_n 1, 1) := by decide +kernel
theorem dX11_fists_1 : decode cX11_fists 1 = .ok (.iconst 1, 1) := by decide +kernel
theorem dX11_fists_2 : decode cX11_fists 2 = .ok (.if_icmp .lt 20, 3) := by decide +kernel
theorem dX11_fists_5 : decode cX11_fists 5 = .ok (.iload_n 1, 1) := by decide +kernel
theorem dX11_fists_6 : decode cX11_fists 6 = .ok (.bipush 24, 2) := by decide +kernel
theorem dX11_fists_8 : decode cX11_fists 8 = .ok (.if_icmp .gt 14, 3) := by decide +kernel
theorem dX11_fists_11 : decode cX11_fists 11 = .ok (.iload_n 2, 1) := by decide +kernel
theorem dX11_fists_12 : decode cX11_fists 12 = .ok (.ifCond .lt 10, 3) := by decide +kernel
theorem dX11_fists_15 : decode cX11_fists 15 = .ok (.iload_n 2, 1) := by decide +kernel
theorem dX11_fists_16 : decode cX11_fists 16 = .ok (.sipush 10000, 3) := by decide +kernel
theorem dX11_fists_19 : decode cX11_fists 19 = .ok (.if_icmp .le 5, 3) := by decide +kernel
theorem dX11_fists_22 : decode cX11_fists 22 = .ok (.iconst 0, 1) := by decide +kernel
theorem dX11_fists_23 : decode cX11_fists 23 = .ok (.ireturn, 1) := by decide +kernel
theorem dX11_fists_24 : decode cX11_fists 24 = .ok (.aload_n 0, 1) := by decide +kernel
theorem dX11_fists_25 : decode cX11_fists 25 = .ok (.getfield 7, 3) := by decide +kernel
theorem dX11_fists_28 : decode cX11_fists 28 = .ok (.sipush 202, 3) := by decide +kernel
theorem dX11_fists_31 : decode cX11_fists 31 = .ok (.iload_n 1, 1) := by decide +kernel
theorem dX11_fists_32 : decode cX11_fists 32 = .ok (.iastore, 1) := by decide +kernel
theorem dX11_fists_33 : decode cX11_fists 33 = .ok (.aload_n 0, 1) := by decide +kernel
theorem dX11_fists_34 : decode cX11_fists 34 = .ok (.getfield 7, 3) := by decide +kernel
theorem dX11_fists_37 : decode cX11_fists 37 = .ok (.sipush 203, 3) := by decide +kernel
theorem dX11_fists_40 : decode cX11_fists 40 = .ok (.iload_n 2, 1) := by decide +kernel
theorem dX11_fists_41 : decode cX11_fists 41 = .ok (.iastore, 1) := by decide +kernel
theorem dX11_fists_42 : decode cX11_fists 42 = .ok (.iconst 1, 1) := by decide +kernel
theorem dX11_fists_43 : decode cX11_fists 43 = .ok (.ireturn, 1) := by decide +kernel
theorem dX11_cost_0 : decode cX11_cost 0 = .ok (.aload_n 0, 1) := by decide +kernel
theorem dX11_cost_1 : decode cX11_cost 1 = .ok (.invokevirtual 143, 3) := by decide +kernel
theorem dX11_cost_4 : decode cX11_cost 4 = .ok (.ireturn, 1) := by decide +kernel
theorem dX11_need_0 : decode cX11_need 0 = .ok (.iconst 1, 1) := by decide +kernel
theorem dX11_need_1 : decode cX11_need 1 = .ok (.istore_n 1, 1) := by decide +kernel
theorem dX11_need_2 : decode cX11_need 2 = .ok (.iload_n 1, 1) := by decide +kernel
theorem dX11_need_3 : decode cX11_need 3 = .ok (.bipush 24, 2) := by decide +kernel
theorem dX11_need_5 : decode cX11_need 5 = .ok (.if_icmp .gt 23, 3) := by decide +kernel
theorem dX11_need_8 : decode cX11_need 8 = .ok (.aload_n 0, 1) := by decide +kernel
theorem dX11_need_9 : decode cX11_need 9 = .ok (.iload_n 1, 1) := by decide +kernel
theorem dX11_need_10 : decode cX11_need 10 = .ok (.ldc 120, 2) := by decide +kernel
theorem dX11_need_12 : decode cX11_need 12 = .ok (.invokevirtual 140, 3) := by decide +kernel
theorem dX11_need_15 : decode cX11_need 15 = .ok (.ldc 120, 2) := by decide +kernel
theorem dX11_need_17 : decode cX11_need 17 = .ok (.if_icmp .ge 5, 3) := by decide +kernel
theorem dX11_need_20 : decode cX11_need 20 = .ok (.iload_n 1, 1) := by decide +kernel
theorem dX11_need_21 : decode cX11_need 21 = .ok (.ireturn, 1) := by decide +kernel
theorem dX11_need_22 : decode cX11_need 22 = .ok (.iinc 1 1, 3) := by decide +kernel
theorem dX11_need_25 : decode cX11_need 25 = .ok (.goto (-23), 3) := by decide +kernel
theorem dX11_need_28 : decode cX11_need 28 = .ok (.iconst (-1), 1) := by decide +kernel
theorem dX11_need_29 : decode cX11_need 29 = .ok (.ireturn, 1) := by decide +kernel
theorem dX11_by_0 : decode cX11_by 0 = .ok (.iload_n 1, 1) := by decide +kernel
theorem dX11_by_1 : decode cX11_by 1 = .ok (.ifCond .lt 13, 3) := by decide +kernel
theorem dX11_by_4 : decode cX11_by 4 = .ok (.iload_n 1, 1) := by decide +kernel
theorem dX11_by_5 : decode cX11_by 5 = .ok (.aload_n 0, 1) := by decide +kernel
theorem dX11_by_6 : decode cX11_by 6 = .ok (.getfield 7, 3) := by decide +kernel
theorem dX11_by_9 : decode cX11_by 9 = .ok (.iconst 0, 1) := by decide +kernel
theorem dX11_by_10 : decode cX11_by 10 = .ok (.iaload, 1) := by decide +kernel
theorem dX11_by_11 : decode cX11_by 11 = .ok (.if_icmp .lt 5, 3) := by decide +kernel
theorem dX11_by_14 : decode cX11_by 14 = .ok (.iconst (-1), 1) := by decide +kernel
theorem dX11_by_15 : decode cX11_by 15 = .ok (.ireturn, 1) := by decide +kernel
theorem dX11_by_16 : decode cX11_by 16 = .ok (.aload_n 0, 1) := by decide +kernel
theorem dX11_by_17 : decode cX11_by 17 = .ok (.invokevirtual 143, 3) := by decide +kernel
theorem dX11_by_20 : decode cX11_by 20 = .ok (.pop, 1) := by decide +kernel
theorem dX11_by_21 : decode cX11_by 21 = .ok (.aload_n 0, 1) := by decide +kernel
theorem dX11_by_22 : decode cX11_by 22 = .ok (.getfield 46, 3) := by decide +kernel
theorem dX11_by_25 : decode cX11_by 25 = .ok (.iload_n 1, 1) := by decide +kernel
theorem dX11_by_26 : decode cX11_by 26 = .ok (.iaload, 1) := by decide +kernel
theorem dX11_by_27 : decode cX11_by 27 = .ok (.ireturn, 1) := by decide +kernel
theorem dX11_way_0 : decode cX11_way 0 = .ok (.iload_n 1, 1) := by decide +kernel
theorem dX11_way_1 : decode cX11_way 1 = .ok (.ifCond .eq 10, 3) := by decide +kernel
theorem dX11_way_4 : decode cX11_way 4 = .ok (.iload_n 1, 1) := by decide +kernel
theorem dX11_way_5 : decode cX11_way 5 = .ok (.iconst 1, 1) := by decide +kernel
theorem dX11_way_6 : decode cX11_way 6 = .ok (.if_icmp .eq 5, 3) := by decide +kernel
theorem dX11_way_9 : decode cX11_way 9 = .ok (.iconst (-1), 1) := by decide +kernel
theorem dX11_way_10 : decode cX11_way 10 = .ok (.ireturn, 1) := by decide +kernel
theorem dX11_way_11 : decode cX11_way 11 = .ok (.aload_n 0, 1) := by decide +kernel
theorem dX11_way_12 : decode cX11_way 12 = .ok (.invokevirtual 143, 3) := by decide +kernel
theorem dX11_way_15 : decode cX11_way 15 = .ok (.pop, 1) := by decide +kernel
theorem dX11_way_16 : decode cX11_way 16 = .ok (.aload_n 0, 1) := by decide +kernel
theorem dX11_way_17 : decode cX11_way 17 = .ok (.getfield 49, 3) := by decide +kernel
theorem dX11_way_20 : decode cX11_way 20 = .ok (.iload_n 1, 1) := by decide +kernel
theorem dX11_way_21 : decode cX11_way 21 = .ok (.iaload, 1) := by decide +kernel
theorem dX11_way_22 : decode cX11_way 22 = .ok (.ireturn, 1) := by decide +kernel
theorem dX11_count_0 : decode cX11_count 0 = .ok (.iload_n 1, 1) := by decide +kernel
theorem dX11_count_1 : decode cX11_count 1 = .ok (.tableswitch 81 0 2 #[27, 34, 41], 27) := by decide +kernel
theorem dX11_count_28 : decode cX11_count 28 = .ok (.aload_n 0, 1) := by decide +kernel
theorem dX11_count_29 : decode cX11_count 29 = .ok (.getfield 7, 3) := by decide +kernel
theorem dX11_count_32 : decode cX11_count 32 = .ok (.iconst 0, 1) := by decide +kernel
theorem dX11_count_33 : decode cX11_count 33 = .ok (.iaload, 1) := by decide +kernel
theorem dX11_count_34 : decode cX11_count 34 = .ok (.ireturn, 1) := by decide +kernel
theorem dX11_count_35 : decode cX11_count 35 = .ok (.aload_n 0, 1) := by decide +kernel
theorem dX11_count_36 : decode cX11_count 36 = .ok (.getfield 7, 3) := by decide +kernel
theorem dX11_count_39 : decode cX11_count 39 = .ok (.iconst 1, 1) := by decide +kernel
theorem dX11_count_40 : decode cX11_count 40 = .ok (.iaload, 1) := by decide +kernel
theorem dX11_count_41 : decode cX11_count 41 = .ok (.ireturn, 1) := by decide +kernel
theorem dX11_count_42 : decode cX11_count 42 = .ok (.aload_n 0, 1) := by decide +kernel
theorem dX11_count_43 : decode cX11_count 43 = .ok (.invokevirtual 143, 3) := by decide +kernel
theorem dX11_count_46 : decode cX11_count 46 = .ok (.pop, 1) := by decide +kernel
theorem dX11_count_47 : decode cX11_count 47 = .ok (.iconst 0, 1) := by decide +kernel
theorem dX11_count_48 : decode cX11_count 48 = .ok (.istore_n 2, 1) := by decide +kernel
theorem dX11_count_49 : decode cX11_count 49 = .ok (.iconst 0, 1) := by decide +kernel
theorem dX11_count_50 : decode cX11_count 50 = .ok (.istore_n 3, 1) := by decide +kernel
theorem dX11_count_51 : decode cX11_count 51 = .ok (.iload_n 3, 1) := by decide +kernel
theorem dX11_count_52 : decode cX11_count 52 = .ok (.aload_n 0, 1) := by decide +kernel
theorem dX11_count_53 : decode cX11_count 53 = .ok (.getfield 7, 3) := by decide +kernel
theorem dX11_count_56 : decode cX11_count 56 = .ok (.iconst 0, 1) := by decide +kernel
theorem dX11_count_57 : decode cX11_count 57 = .ok (.iaload, 1) := by decide +kernel
theorem dX11_count_58 : decode cX11_count 58 = .ok (.if_icmp .ge 22, 3) := by decide +kernel
theorem dX11_count_61 : decode cX11_count 61 = .ok (.aload_n 0, 1) := by decide +kernel
theorem dX11_count_62 : decode cX11_count 62 = .ok (.getfield 46, 3) := by decide +kernel
theorem dX11_count_65 : decode cX11_count 65 = .ok (.iload_n 3, 1) := by decide +kernel
theorem dX11_count_66 : decode cX11_count 66 = .ok (.iaload, 1) := by decide +kernel
theorem dX11_count_67 : decode cX11_count 67 = .ok (.iconst 2, 1) := by decide +kernel
theorem dX11_count_68 : decode cX11_count 68 = .ok (.if_icmp .ne 6, 3) := by decide +kernel
theorem dX11_count_71 : decode cX11_count 71 = .ok (.iinc 2 1, 3) := by decide +kernel
theorem dX11_count_74 : decode cX11_count 74 = .ok (.iinc 3 1, 3) := by decide +kernel
theorem dX11_count_77 : decode cX11_count 77 = .ok (.goto (-26), 3) := by decide +kernel
theorem dX11_count_80 : decode cX11_count 80 = .ok (.iload_n 2, 1) := by decide +kernel
theorem dX11_count_81 : decode cX11_count 81 = .ok (.ireturn, 1) := by decide +kernel
theorem dX11_count_82 : decode cX11_count 82 = .ok (.iconst (-1), 1) := by decide +kernel
theorem dX11_count_83 : decode cX11_count 83 = .ok (.ireturn, 1) := by decide +kernel
theorem dX11_isBell_0 : decode cX11_isBell 0 = .ok (.iload_n 0, 1) := by decide +kernel
theorem dX11_isBell_1 : decode cX11_isBell 1 = .ok (.ifCond .lt 13, 3) := by decide +kernel
theorem dX11_isBell_4 : decode cX11_isBell 4 = .ok (.iload_n 0, 1) := by decide +kernel
theorem dX11_isBell_5 : decode cX11_isBell 5 = .ok (.bipush 24, 2) := by decide +kernel
theorem dX11_isBell_7 : decode cX11_isBell 7 = .ok (.if_icmp .ge 7, 3) := by decide +kernel
theorem dX11_isBell_10 : decode cX11_isBell 10 = .ok (.iconst 1, 1) := by decide +kernel
theorem dX11_isBell_11 : decode cX11_isBell 11 = .ok (.goto 4, 3) := by decide +kernel
theorem dX11_isBell_14 : decode cX11_isBell 14 = .ok (.iconst 0, 1) := by decide +kernel
theorem dX11_isBell_15 : decode cX11_isBell 15 = .ok (.ireturn, 1) := by decide +kernel
theorem dX11_tail_0 : decode cX11_tail 0 = .ok (.iload_n 1, 1) := by decide +kernel
theorem dX11_tail_1 : decode cX11_tail 1 = .ok (.invokestatic 146, 3) := by decide +kernel
theorem dX11_tail_4 : decode cX11_tail 4 = .ok (.ifCond .eq 14, 3) := by decide +kernel
theorem dX11_tail_7 : decode cX11_tail 7 = .ok (.iload_n 2, 1) := by decide +kernel
theorem dX11_tail_8 : decode cX11_tail 8 = .ok (.iconst 1, 1) := by decide +kernel
theorem dX11_tail_9 : decode cX11_tail 9 = .ok (.if_icmp .lt 9, 3) := by decide +kernel
theorem dX11_tail_12 : decode cX11_tail 12 = .ok (.iload_n 2, 1) := by decide +kernel
theorem dX11_tail_13 : decode cX11_tail 13 = .ok (.bipush 60, 2) := by decide +kernel
theorem dX11_tail_15 : decode cX11_tail 15 = .ok (.if_icmp .le 5, 3) := by decide +kernel
theorem dX11_tail_18 : decode cX11_tail 18 = .ok (.iconst (-1), 1) := by decide +kernel
theorem dX11_tail_19 : decode cX11_tail 19 = .ok (.ireturn, 1) := by decide +kernel
theorem dX11_tail_20 : decode cX11_tail 20 = .ok (.aload_n 0, 1) := by decide +kernel
theorem dX11_tail_21 : decode cX11_tail 21 = .ok (.getfield 7, 3) := by decide +kernel
theorem dX11_tail_24 : decode cX11_tail 24 = .ok (.sipush 204, 3) := by decide +kernel
theorem dX11_tail_27 : decode cX11_tail 27 = .ok (.iload_n 1, 1) := by decide +kernel
theorem dX11_tail_28 : decode cX11_tail 28 = .ok (.iadd, 1) := by decide +kernel
theorem dX11_tail_29 : decode cX11_tail 29 = .ok (.iaload, 1) := by decide +kernel
theorem dX11_tail_30 : decode cX11_tail 30 = .ok (.istore_n 3, 1) := by decide +kernel
theorem dX11_tail_31 : decode cX11_tail 31 = .ok (.aload_n 0, 1) := by decide +kernel
theorem dX11_tail_32 : decode cX11_tail 32 = .ok (.getfield 7, 3) := by decide +kernel
theorem dX11_tail_35 : decode cX11_tail 35 = .ok (.sipush 204, 3) := by decide +kernel
theorem dX11_tail_38 : decode cX11_tail 38 = .ok (.iload_n 1, 1) := by decide +kernel
theorem dX11_tail_39 : decode cX11_tail 39 = .ok (.iadd, 1) := by decide +kernel
theorem dX11_tail_40 : decode cX11_tail 40 = .ok (.iload_n 2, 1) := by decide +kernel
theorem dX11_tail_41 : decode cX11_tail 41 = .ok (.iastore, 1) := by decide +kernel
theorem dX11_tail_42 : decode cX11_tail 42 = .ok (.iload_n 3, 1) := by decide +kernel
theorem dX11_tail_43 : decode cX11_tail 43 = .ok (.ireturn, 1) := by decide +kernel
theorem dX11_quarrel_0 : decode cX11_quarrel 0 = .ok (.iload_n 1, 1) := by decide +kernel
theorem dX11_quarrel_1 : decode cX11_quarrel 1 = .ok (.ifCond .lt 10, 3) := by decide +kernel
theorem dX11_quarrel_4 : decode cX11_quarrel 4 = .ok (.iload_n 1, 1) := by decide +kernel
theorem dX11_quarrel_5 : decode cX11_quarrel 5 = .ok (.sipush 4095, 3) := by decide +kernel
theorem dX11_quarrel_8 : decode cX11_quarrel 8 = .ok (.if_icmp .le 5, 3) := by decide +kernel
theorem dX11_quarrel_11 : decode cX11_quarrel 11 = .ok (.iconst (-1), 1) := by decide +kernel
theorem dX11_quarrel_12 : decode cX11_quarrel 12 = .ok (.ireturn, 1) := by decide +kernel
theorem dX11_quarrel_13 : decode cX11_quarrel 13 = .ok (.aload_n 0, 1) := by decide +kernel
theorem dX11_quarrel_14 : decode cX11_quarrel 14 = .ok (.getfield 7, 3) := by decide +kernel
theorem dX11_quarrel_17 : decode cX11_quarrel 17 = .ok (.sipush 228, 3) := by decide +kernel
theorem dX11_quarrel_20 : decode cX11_quarrel 20 = .ok (.iaload, 1) := by decide +kernel
theorem dX11_quarrel_21 : decode cX11_quarrel 21 = .ok (.istore_n 2, 1) := by decide +kernel
theorem dX11_quarrel_22 : decode cX11_quarrel 22 = .ok (.aload_n 0, 1) := by decide +kernel
theorem dX11_quarrel_23 : decode cX11_quarrel 23 = .ok (.getfield 7, 3) := by decide +kernel
theorem dX11_quarrel_26 : decode cX11_quarrel 26 = .ok (.sipush 228, 3) := by decide +kernel
theorem dX11_quarrel_29 : decode cX11_quarrel 29 = .ok (.iload_n 1, 1) := by decide +kernel
theorem dX11_quarrel_30 : decode cX11_quarrel 30 = .ok (.iastore, 1) := by decide +kernel
theorem dX11_quarrel_31 : decode cX11_quarrel 31 = .ok (.iload_n 2, 1) := by decide +kernel
theorem dX11_quarrel_32 : decode cX11_quarrel 32 = .ok (.ireturn, 1) := by decide +kernel
theorem dX11_sounds_0 : decode cX11_sounds 0 = .ok (.iload_n 1, 1) := by decide +kernel
theorem dX11_sounds_1 : decode cX11_sounds 1 = .ok (.ifCond .lt 13, 3) := by decide +kernel
theorem dX11_sounds_4 : decode cX11_sounds 4 = .ok (.iload_n 1, 1) := by decide +kernel
theorem dX11_sounds_5 : decode cX11_sounds 5 = .ok (.aload_n 0, 1) := by decide +kernel
theorem dX11_sounds_6 : decode cX11_sounds 6 = .ok (.getfield 7, 3) := by decide +kernel
theorem dX11_sounds_9 : decode cX11_sounds 9 = .ok (.iconst 0, 1) := by decide +kernel
theorem dX11_sounds_10 : decode cX11_sounds 10 = .ok (.iaload, 1) := by decide +kernel
theorem dX11_sounds_11 : decode cX11_sounds 11 = .ok (.if_icmp .lt 5, 3) := by decide +kernel
theorem dX11_sounds_14 : decode cX11_sounds 14 = .ok (.iconst (-1), 1) := by decide +kernel
theorem dX11_sounds_15 : decode cX11_sounds 15 = .ok (.ireturn, 1) := by decide +kernel
theorem dX11_sounds_16 : decode cX11_sounds 16 = .ok (.aload_n 0, 1) := by decide +kernel
theorem dX11_sounds_17 : decode cX11_sounds 17 = .ok (.getfield 7, 3) := by decide +kernel
theorem dX11_sounds_20 : decode cX11_sounds 20 = .ok (.sipush 204, 3) := by decide +kernel
theorem dX11_sounds_23 : decode cX11_sounds 23 = .ok (.aload_n 0, 1) := by decide +kernel
theorem dX11_sounds_24 : decode cX11_sounds 24 = .ok (.getfield 7, 3) := by decide +kernel
theorem dX11_sounds_27 : decode cX11_sounds 27 = .ok (.bipush 102, 2) := by decide +kernel
theorem dX11_sounds_29 : decode cX11_sounds 29 = .ok (.iload_n 1, 1) := by decide +kernel
theorem dX11_sounds_30 : decode cX11_sounds 30 = .ok (.iadd, 1) := by decide +kernel
theorem dX11_sounds_31 : decode cX11_sounds 31 = .ok (.iaload, 1) := by decide +kernel
theorem dX11_sounds_32 : decode cX11_sounds 32 = .ok (.iadd, 1) := by decide +kernel
theorem dX11_sounds_33 : decode cX11_sounds 33 = .ok (.iaload, 1) := by decide +kernel
theorem dX11_sounds_34 : decode cX11_sounds 34 = .ok (.istore_n 2, 1) := by decide +kernel
theorem dX11_sounds_35 : decode cX11_sounds 35 = .ok (.iload_n 1, 1) := by decide +kernel
theorem dX11_sounds_36 : decode cX11_sounds 36 = .ok (.iconst 1, 1) := by decide +kernel
theorem dX11_sounds_37 : decode cX11_sounds 37 = .ok (.iadd, 1) := by decide +kernel
theorem dX11_sounds_38 : decode cX11_sounds 38 = .ok (.istore_n 3, 1) := by decide +kernel
theorem dX11_sounds_39 : decode cX11_sounds 39 = .ok (.iload_n 3, 1) := by decide +kernel
theorem dX11_sounds_40 : decode cX11_sounds 40 = .ok (.aload_n 0, 1) := by decide +kernel
theorem dX11_sounds_41 : decode cX11_sounds 41 = .ok (.getfield 7, 3) := by decide +kernel
theorem dX11_sounds_44 : decode cX11_sounds 44 = .ok (.iconst 0, 1) := by decide +kernel
theorem dX11_sounds_45 : decode cX11_sounds 45 = .ok (.iaload, 1) := by decide +kernel
theorem dX11_sounds_46 : decode cX11_sounds 46 = .ok (.if_icmp .ge 69, 3) := by decide +kernel
theorem dX11_sounds_49 : decode cX11_sounds 49 = .ok (.aload_n 0, 1) := by decide +kernel
theorem dX11_sounds_50 : decode cX11_sounds 50 = .ok (.getfield 7, 3) := by decide +kernel
theorem dX11_sounds_53 : decode cX11_sounds 53 = .ok (.bipush 102, 2) := by decide +kernel
theorem dX11_sounds_55 : decode cX11_sounds 55 = .ok (.iload_n 3, 1) := by decide +kernel
theorem dX11_sounds_56 : decode cX11_sounds 56 = .ok (.iadd, 1) := by decide +kernel
theorem dX11_sounds_57 : decode cX11_sounds 57 = .ok (.iaload, 1) := by decide +kernel
theorem dX11_sounds_58 : decode cX11_sounds 58 = .ok (.aload_n 0, 1) := by decide +kernel
theorem dX11_sounds_59 : decode cX11_sounds 59 = .ok (.getfield 7, 3) := by decide +kernel
theorem dX11_sounds_62 : decode cX11_sounds 62 = .ok (.bipush 102, 2) := by decide +kernel
theorem dX11_sounds_64 : decode cX11_sounds 64 = .ok (.iload_n 1, 1) := by decide +kernel
theorem dX11_sounds_65 : decode cX11_sounds 65 = .ok (.iadd, 1) := by decide +kernel
theorem dX11_sounds_66 : decode cX11_sounds 66 = .ok (.iaload, 1) := by decide +kernel
theorem dX11_sounds_67 : decode cX11_sounds 67 = .ok (.if_icmp .ne 42, 3) := by decide +kernel
theorem dX11_sounds_70 : decode cX11_sounds 70 = .ok (.aload_n 0, 1) := by decide +kernel
theorem dX11_sounds_71 : decode cX11_sounds 71 = .ok (.getfield 7, 3) := by decide +kernel
theorem dX11_sounds_74 : decode cX11_sounds 74 = .ok (.iconst 2, 1) := by decide +kernel
theorem dX11_sounds_75 : decode cX11_sounds 75 = .ok (.iload_n 3, 1) := by decide +kernel
theorem dX11_sounds_76 : decode cX11_sounds 76 = .ok (.iadd, 1) := by decide +kernel
theorem dX11_sounds_77 : decode cX11_sounds 77 = .ok (.iaload, 1) := by decide +kernel
theorem dX11_sounds_78 : decode cX11_sounds 78 = .ok (.aload_n 0, 1) := by decide +kernel
theorem dX11_sounds_79 : decode cX11_sounds 79 = .ok (.getfield 7, 3) := by decide +kernel
theorem dX11_sounds_82 : decode cX11_sounds 82 = .ok (.iconst 2, 1) := by decide +kernel
theorem dX11_sounds_83 : decode cX11_sounds 83 = .ok (.iload_n 1, 1) := by decide +kernel
theorem dX11_sounds_84 : decode cX11_sounds 84 = .ok (.iadd, 1) := by decide +kernel
theorem dX11_sounds_85 : decode cX11_sounds 85 = .ok (.iaload, 1) := by decide +kernel
theorem dX11_sounds_86 : decode cX11_sounds 86 = .ok (.isub, 1) := by decide +kernel
theorem dX11_sounds_87 : decode cX11_sounds 87 = .ok (.iload_n 2, 1) := by decide +kernel
theorem dX11_sounds_88 : decode cX11_sounds 88 = .ok (.if_icmp .ge 21, 3) := by decide +kernel
theorem dX11_sounds_91 : decode cX11_sounds 91 = .ok (.aload_n 0, 1) := by decide +kernel
theorem dX11_sounds_92 : decode cX11_sounds 92 = .ok (.getfield 7, 3) := by decide +kernel
theorem dX11_sounds_95 : decode cX11_sounds 95 = .ok (.iconst 2, 1) := by decide +kernel
theorem dX11_sounds_96 : decode cX11_sounds 96 = .ok (.iload_n 3, 1) := by decide +kernel
theorem dX11_sounds_97 : decode cX11_sounds 97 = .ok (.iadd, 1) := by decide +kernel
theorem dX11_sounds_98 : decode cX11_sounds 98 = .ok (.iaload, 1) := by decide +kernel
theorem dX11_sounds_99 : decode cX11_sounds 99 = .ok (.aload_n 0, 1) := by decide +kernel
theorem dX11_sounds_100 : decode cX11_sounds 100 = .ok (.getfield 7, 3) := by decide +kernel
theorem dX11_sounds_103 : decode cX11_sounds 103 = .ok (.iconst 2, 1) := by decide +kernel
theorem dX11_sounds_104 : decode cX11_sounds 104 = .ok (.iload_n 1, 1) := by decide +kernel
theorem dX11_sounds_105 : decode cX11_sounds 105 = .ok (.iadd, 1) := by decide +kernel
theorem dX11_sounds_106 : decode cX11_sounds 106 = .ok (.iaload, 1) := by decide +kernel
theorem dX11_sounds_107 : decode cX11_sounds 107 = .ok (.isub, 1) := by decide +kernel
theorem dX11_sounds_108 : decode cX11_sounds 108 = .ok (.istore_n 2, 1) := by decide +kernel
theorem dX11_sounds_109 : decode cX11_sounds 109 = .ok (.iinc 3 1, 3) := by decide +kernel
theorem dX11_sounds_112 : decode cX11_sounds 112 = .ok (.goto (-73), 3) := by decide +kernel
theorem dX11_sounds_115 : decode cX11_sounds 115 = .ok (.iload_n 2, 1) := by decide +kernel
theorem dX11_sounds_116 : decode cX11_sounds 116 = .ok (.ireturn, 1) := by decide +kernel
theorem dX11_quarrels_0 : decode cX11_quarrels 0 = .ok (.iconst 0, 1) := by decide +kernel
theorem dX11_quarrels_1 : decode cX11_quarrels 1 = .ok (.istore_n 1, 1) := by decide +kernel
theorem dX11_quarrels_2 : decode cX11_quarrels 2 = .ok (.iconst 0, 1) := by decide +kernel
theorem dX11_quarrels_3 : decode cX11_quarrels 3 = .ok (.istore_n 2, 1) := by decide +kernel
theorem dX11_quarrels_4 : decode cX11_quarrels 4 = .ok (.iload_n 2, 1) := by decide +kernel
theorem dX11_quarrels_5 : decode cX11_quarrels 5 = .ok (.aload_n 0, 1) := by decide +kernel
theorem dX11_quarrels_6 : decode cX11_quarrels 6 = .ok (.getfield 7, 3) := by decide +kernel
theorem dX11_quarrels_9 : decode cX11_quarrels 9 = .ok (.iconst 0, 1) := by decide +kernel
theorem dX11_quarrels_10 : decode cX11_quarrels 10 = .ok (.iaload, 1) := by decide +kernel
theorem dX11_quarrels_11 : decode cX11_quarrels 11 = .ok (.if_icmp .ge 163, 3) := by decide +kernel
theorem dX11_quarrels_14 : decode cX11_quarrels 14 = .ok (.iload_n 2, 1) := by decide +kernel
theorem dX11_quarrels_15 : decode cX11_quarrels 15 = .ok (.iconst 1, 1) := by decide +kernel
theorem dX11_quarrels_16 : decode cX11_quarrels 16 = .ok (.iadd, 1) := by decide +kernel
theorem dX11_quarrels_17 : decode cX11_quarrels 17 = .ok (.istore_n 3, 1) := by decide +kernel
theorem dX11_quarrels_18 : decode cX11_quarrels 18 = .ok (.iload_n 3, 1) := by decide +kernel
theorem dX11_quarrels_19 : decode cX11_quarrels 19 = .ok (.aload_n 0, 1) := by decide +kernel
theorem dX11_quarrels_20 : decode cX11_quarrels 20 = .ok (.getfield 7, 3) := by decide +kernel
theorem dX11_quarrels_23 : decode cX11_quarrels 23 = .ok (.iconst 0, 1) := by decide +kernel
theorem dX11_quarrels_24 : decode cX11_quarrels 24 = .ok (.iaload, 1) := by decide +kernel
theorem dX11_quarrels_25 : decode cX11_quarrels 25 = .ok (.if_icmp .ge 143, 3) := by decide +kernel
theorem dX11_quarrels_28 : decode cX11_quarrels 28 = .ok (.aload_n 0, 1) := by decide +kernel
theorem dX11_quarrels_29 : decode cX11_quarrels 29 = .ok (.getfield 7, 3) := by decide +kernel
theorem dX11_quarrels_32 : decode cX11_quarrels 32 = .ok (.bipush 102, 2) := by decide +kernel
theorem dX11_quarrels_34 : decode cX11_quarrels 34 = .ok (.iload_n 2, 1) := by decide +kernel
theorem dX11_quarrels_35 : decode cX11_quarrels 35 = .ok (.iadd, 1) := by decide +kernel
theorem dX11_quarrels_36 : decode cX11_quarrels 36 = .ok (.iaload, 1) := by decide +kernel
theorem dX11_quarrels_37 : decode cX11_quarrels 37 = .ok (.aload_n 0, 1) := by decide +kernel
theorem dX11_quarrels_38 : decode cX11_quarrels 38 = .ok (.getfield 7, 3) := by decide +kernel
theorem dX11_quarrels_41 : decode cX11_quarrels 41 = .ok (.bipush 102, 2) := by decide +kernel
theorem dX11_quarrels_43 : decode cX11_quarrels 43 = .ok (.iload_n 3, 1) := by decide +kernel
theorem dX11_quarrels_44 : decode cX11_quarrels 44 = .ok (.iadd, 1) := by decide +kernel
theorem dX11_quarrels_45 : decode cX11_quarrels 45 = .ok (.iaload, 1) := by decide +kernel
theorem dX11_quarrels_46 : decode cX11_quarrels 46 = .ok (.isub, 1) := by decide +kernel
theorem dX11_quarrels_47 : decode cX11_quarrels 47 = .ok (.istore 4, 2) := by decide +kernel
theorem dX11_quarrels_49 : decode cX11_quarrels 49 = .ok (.iload 4, 2) := by decide +kernel
theorem dX11_quarrels_51 : decode cX11_quarrels 51 = .ok (.ifCond .ge 8, 3) := by decide +kernel
theorem dX11_quarrels_54 : decode cX11_quarrels 54 = .ok (.iload 4, 2) := by decide +kernel
theorem dX11_quarrels_56 : decode cX11_quarrels 56 = .ok (.ineg, 1) := by decide +kernel
theorem dX11_quarrels_57 : decode cX11_quarrels 57 = .ok (.istore 4, 2) := by decide +kernel
theorem dX11_quarrels_59 : decode cX11_quarrels 59 = .ok (.iload 4, 2) := by decide +kernel
theorem dX11_quarrels_61 : decode cX11_quarrels 61 = .ok (.ifCond .eq 101, 3) := by decide +kernel
theorem dX11_quarrels_64 : decode cX11_quarrels 64 = .ok (.aload_n 0, 1) := by decide +kernel
theorem dX11_quarrels_65 : decode cX11_quarrels 65 = .ok (.getfield 7, 3) := by decide +kernel
theorem dX11_quarrels_68 : decode cX11_quarrels 68 = .ok (.sipush 228, 3) := by decide +kernel
theorem dX11_quarrels_71 : decode cX11_quarrels 71 = .ok (.iaload, 1) := by decide +kernel
theorem dX11_quarrels_72 : decode cX11_quarrels 72 = .ok (.iload 4, 2) := by decide +kernel
theorem dX11_quarrels_74 : decode cX11_quarrels 74 = .ok (.bipush 12, 2) := by decide +kernel
theorem dX11_quarrels_76 : decode cX11_quarrels 76 = .ok (.irem, 1) := by decide +kernel
theorem dX11_quarrels_77 : decode cX11_quarrels 77 = .ok (.ishr, 1) := by decide +kernel
theorem dX11_quarrels_78 : decode cX11_quarrels 78 = .ok (.iconst 1, 1) := by decide +kernel
theorem dX11_quarrels_79 : decode cX11_quarrels 79 = .ok (.iand, 1) := by decide +kernel
theorem dX11_quarrels_80 : decode cX11_quarrels 80 = .ok (.ifCond .ne 6, 3) := by decide +kernel
theorem dX11_quarrels_83 : decode cX11_quarrels 83 = .ok (.goto 79, 3) := by decide +kernel
theorem dX11_quarrels_86 : decode cX11_quarrels 86 = .ok (.aload_n 0, 1) := by decide +kernel
theorem dX11_quarrels_87 : decode cX11_quarrels 87 = .ok (.getfield 7, 3) := by decide +kernel
theorem dX11_quarrels_90 : decode cX11_quarrels 90 = .ok (.iconst 2, 1) := by decide +kernel
theorem dX11_quarrels_91 : decode cX11_quarrels 91 = .ok (.iload_n 3, 1) := by decide +kernel
theorem dX11_quarrels_92 : decode cX11_quarrels 92 = .ok (.iadd, 1) := by decide +kernel
theorem dX11_quarrels_93 : decode cX11_quarrels 93 = .ok (.iaload, 1) := by decide +kernel
theorem dX11_quarrels_94 : decode cX11_quarrels 94 = .ok (.istore 5, 2) := by decide +kernel
theorem dX11_quarrels_96 : decode cX11_quarrels 96 = .ok (.aload_n 0, 1) := by decide +kernel
theorem dX11_quarrels_97 : decode cX11_quarrels 97 = .ok (.getfield 7, 3) := by decide +kernel
theorem dX11_quarrels_100 : decode cX11_quarrels 100 = .ok (.iconst 2, 1) := by decide +kernel
theorem dX11_quarrels_101 : decode cX11_quarrels 101 = .ok (.iload_n 2, 1) := by decide +kernel
theorem dX11_quarrels_102 : decode cX11_quarrels 102 = .ok (.iadd, 1) := by decide +kernel
theorem dX11_quarrels_103 : decode cX11_quarrels 103 = .ok (.iaload, 1) := by decide +kernel
theorem dX11_quarrels_104 : decode cX11_quarrels 104 = .ok (.aload_n 0, 1) := by decide +kernel
theorem dX11_quarrels_105 : decode cX11_quarrels 105 = .ok (.iload_n 2, 1) := by decide +kernel
theorem dX11_quarrels_106 : decode cX11_quarrels 106 = .ok (.invokevirtual 149, 3) := by decide +kernel
theorem dX11_quarrels_109 : decode cX11_quarrels 109 = .ok (.iadd, 1) := by decide +kernel
theorem dX11_quarrels_110 : decode cX11_quarrels 110 = .ok (.istore 6, 2) := by decide +kernel
theorem dX11_quarrels_112 : decode cX11_quarrels 112 = .ok (.aload_n 0, 1) := by decide +kernel
theorem dX11_quarrels_113 : decode cX11_quarrels 113 = .ok (.getfield 7, 3) := by decide +kernel
theorem dX11_quarrels_116 : decode cX11_quarrels 116 = .ok (.iconst 2, 1) := by decide +kernel
theorem dX11_quarrels_117 : decode cX11_quarrels 117 = .ok (.iload_n 3, 1) := by decide +kernel
theorem dX11_quarrels_118 : decode cX11_quarrels 118 = .ok (.iadd, 1) := by decide +kernel
theorem dX11_quarrels_119 : decode cX11_quarrels 119 = .ok (.iaload, 1) := by decide +kernel
theorem dX11_quarrels_120 : decode cX11_quarrels 120 = .ok (.aload_n 0, 1) := by decide +kernel
theorem dX11_quarrels_121 : decode cX11_quarrels 121 = .ok (.iload_n 3, 1) := by decide +kernel
theorem dX11_quarrels_122 : decode cX11_quarrels 122 = .ok (.invokevirtual 149, 3) := by decide +kernel
theorem dX11_quarrels_125 : decode cX11_quarrels 125 = .ok (.iadd, 1) := by decide +kernel
theorem dX11_quarrels_126 : decode cX11_quarrels 126 = .ok (.iload 6, 2) := by decide +kernel
theorem dX11_quarrels_128 : decode cX11_quarrels 128 = .ok (.if_icmp .ge 19, 3) := by decide +kernel
theorem dX11_quarrels_131 : decode cX11_quarrels 131 = .ok (.aload_n 0, 1) := by decide +kernel
theorem dX11_quarrels_132 : decode cX11_quarrels 132 = .ok (.getfield 7, 3) := by decide +kernel
theorem dX11_quarrels_135 : decode cX11_quarrels 135 = .ok (.iconst 2, 1) := by decide +kernel
theorem dX11_quarrels_136 : decode cX11_quarrels 136 = .ok (.iload_n 3, 1) := by decide +kernel
theorem dX11_quarrels_137 : decode cX11_quarrels 137 = .ok (.iadd, 1) := by decide +kernel
theorem dX11_quarrels_138 : decode cX11_quarrels 138 = .ok (.iaload, 1) := by decide +kernel
theorem dX11_quarrels_139 : decode cX11_quarrels 139 = .ok (.aload_n 0, 1) := by decide +kernel
theorem dX11_quarrels_140 : decode cX11_quarrels 140 = .ok (.iload_n 3, 1) := by decide +kernel
theorem dX11_quarrels_141 : decode cX11_quarrels 141 = .ok (.invokevirtual 149, 3) := by decide +kernel
theorem dX11_quarrels_144 : decode cX11_quarrels 144 = .ok (.iadd, 1) := by decide +kernel
theorem dX11_quarrels_145 : decode cX11_quarrels 145 = .ok (.istore 6, 2) := by decide +kernel
theorem dX11_quarrels_147 : decode cX11_quarrels 147 = .ok (.iload 6, 2) := by decide +kernel
theorem dX11_quarrels_149 : decode cX11_quarrels 149 = .ok (.iload 5, 2) := by decide +kernel
theorem dX11_quarrels_151 : decode cX11_quarrels 151 = .ok (.if_icmp .le 11, 3) := by decide +kernel
theorem dX11_quarrels_154 : decode cX11_quarrels 154 = .ok (.iload_n 1, 1) := by decide +kernel
theorem dX11_quarrels_155 : decode cX11_quarrels 155 = .ok (.iload 6, 2) := by decide +kernel
theorem dX11_quarrels_157 : decode cX11_quarrels 157 = .ok (.iload 5, 2) := by decide +kernel
theorem dX11_quarrels_159 : decode cX11_quarrels 159 = .ok (.isub, 1) := by decide +kernel
theorem dX11_quarrels_160 : decode cX11_quarrels 160 = .ok (.iadd, 1) := by decide +kernel
theorem dX11_quarrels_161 : decode cX11_quarrels 161 = .ok (.istore_n 1, 1) := by decide +kernel
theorem dX11_quarrels_162 : decode cX11_quarrels 162 = .ok (.iinc 3 1, 3) := by decide +kernel
theorem dX11_quarrels_165 : decode cX11_quarrels 165 = .ok (.goto (-147), 3) := by decide +kernel
theorem dX11_quarrels_168 : decode cX11_quarrels 168 = .ok (.iinc 2 1, 3) := by decide +kernel
theorem dX11_quarrels_171 : decode cX11_quarrels 171 = .ok (.goto (-167), 3) := by decide +kernel
theorem dX11_quarrels_174 : decode cX11_quarrels 174 = .ok (.iload_n 1, 1) := by decide +kernel
theorem dX11_quarrels_175 : decode cX11_quarrels 175 = .ok (.ireturn, 1) := by decide +kernel
theorem dX11_drum_0 : decode cX11_drum 0 = .ok (.iload_n 1, 1) := by decide +kernel
theorem dX11_drum_1 : decode cX11_drum 1 = .ok (.iconst 1, 1) := by decide +kernel
theorem dX11_drum_2 : decode cX11_drum 2 = .ok (.if_icmp .lt 10, 3) := by decide +kernel
theorem dX11_drum_5 : decode cX11_drum 5 = .ok (.iload_n 1, 1) := by decide +kernel
theorem dX11_drum_6 : decode cX11_drum 6 = .ok (.sipush 2063, 3) := by decide +kernel
theorem dX11_drum_9 : decode cX11_drum 9 = .ok (.if_icmp .le 5, 3) := by decide +kernel
theorem dX11_drum_12 : decode cX11_drum 12 = .ok (.iconst 0, 1) := by decide +kernel
theorem dX11_drum_13 : decode cX11_drum 13 = .ok (.ireturn, 1) := by decide +kernel
theorem dX11_drum_14 : decode cX11_drum 14 = .ok (.aload_n 0, 1) := by decide +kernel
theorem dX11_drum_15 : decode cX11_drum 15 = .ok (.getfield 7, 3) := by decide +kernel
theorem dX11_drum_18 : decode cX11_drum 18 = .ok (.sipush 229, 3) := by decide +kernel
theorem dX11_drum_21 : decode cX11_drum 21 = .ok (.iload_n 1, 1) := by decide +kernel
theorem dX11_drum_22 : decode cX11_drum 22 = .ok (.iastore, 1) := by decide +kernel
theorem dX11_drum_23 : decode cX11_drum 23 = .ok (.aload_n 0, 1) := by decide +kernel
theorem dX11_drum_24 : decode cX11_drum 24 = .ok (.getfield 7, 3) := by decide +kernel
theorem dX11_drum_27 : decode cX11_drum 27 = .ok (.sipush 230, 3) := by decide +kernel
theorem dX11_drum_30 : decode cX11_drum 30 = .ok (.iconst (-1), 1) := by decide +kernel
theorem dX11_drum_31 : decode cX11_drum 31 = .ok (.iastore, 1) := by decide +kernel
theorem dX11_drum_32 : decode cX11_drum 32 = .ok (.iconst 0, 1) := by decide +kernel
theorem dX11_drum_33 : decode cX11_drum 33 = .ok (.istore_n 2, 1) := by decide +kernel
theorem dX11_drum_34 : decode cX11_drum 34 = .ok (.iload_n 2, 1) := by decide +kernel
theorem dX11_drum_35 : decode cX11_drum 35 = .ok (.sipush 2063, 3) := by decide +kernel
theorem dX11_drum_38 : decode cX11_drum 38 = .ok (.if_icmp .ge 20, 3) := by decide +kernel
theorem dX11_drum_41 : decode cX11_drum 41 = .ok (.aload_n 0, 1) := by decide +kernel
theorem dX11_drum_42 : decode cX11_drum 42 = .ok (.getfield 7, 3) := by decide +kernel
theorem dX11_drum_45 : decode cX11_drum 45 = .ok (.sipush 233, 3) := by decide +kernel
theorem dX11_drum_48 : decode cX11_drum 48 = .ok (.iload_n 2, 1) := by decide +kernel
theorem dX11_drum_49 : decode cX11_drum 49 = .ok (.iadd, 1) := by decide +kernel
theorem dX11_drum_50 : decode cX11_drum 50 = .ok (.iconst 0, 1) := by decide +kernel
theorem dX11_drum_51 : decode cX11_drum 51 = .ok (.iastore, 1) := by decide +kernel
theorem dX11_drum_52 : decode cX11_drum 52 = .ok (.iinc 2 1, 3) := by decide +kernel
theorem dX11_drum_55 : decode cX11_drum 55 = .ok (.goto (-21), 3) := by decide +kernel
theorem dX11_drum_58 : decode cX11_drum 58 = .ok (.iconst 1, 1) := by decide +kernel
theorem dX11_drum_59 : decode cX11_drum 59 = .ok (.ireturn, 1) := by decide +kernel
theorem dX11_stepOf_0 : decode cX11_stepOf 0 = .ok (.aload_n 0, 1) := by decide +kernel
theorem dX11_stepOf_1 : decode cX11_stepOf 1 = .ok (.getfield 7, 3) := by decide +kernel
theorem dX11_stepOf_4 : decode cX11_stepOf 4 = .ok (.iconst 2, 1) := by decide +kernel
theorem dX11_stepOf_5 : decode cX11_stepOf 5 = .ok (.iload_n 1, 1) := by decide +kernel
theorem dX11_stepOf_6 : decode cX11_stepOf 6 = .ok (.iadd, 1) := by decide +kernel
theorem dX11_stepOf_7 : decode cX11_stepOf 7 = .ok (.iaload, 1) := by decide +kernel
theorem dX11_stepOf_8 : decode cX11_stepOf 8 = .ok (.iload_n 2, 1) := by decide +kernel
theorem dX11_stepOf_9 : decode cX11_stepOf 9 = .ok (.iadd, 1) := by decide +kernel
theorem dX11_stepOf_10 : decode cX11_stepOf 10 = .ok (.aload_n 0, 1) := by decide +kernel
theorem dX11_stepOf_11 : decode cX11_stepOf 11 = .ok (.getfield 7, 3) := by decide +kernel
theorem dX11_stepOf_14 : decode cX11_stepOf 14 = .ok (.sipush 229, 3) := by decide +kernel
theorem dX11_stepOf_17 : decode cX11_stepOf 17 = .ok (.iaload, 1) := by decide +kernel
theorem dX11_stepOf_18 : decode cX11_stepOf 18 = .ok (.irem, 1) := by decide +kernel
theorem dX11_stepOf_19 : decode cX11_stepOf 19 = .ok (.ireturn, 1) := by decide +kernel
theorem dX11_change_0 : decode cX11_change 0 = .ok (.iconst 0, 1) := by decide +kernel
theorem dX11_change_1 : decode cX11_change 1 = .ok (.istore_n 1, 1) := by decide +kernel
theorem dX11_change_2 : decode cX11_change 2 = .ok (.iload_n 1, 1) := by decide +kernel
theorem dX11_change_3 : decode cX11_change 3 = .ok (.aload_n 0, 1) := by decide +kernel
theorem dX11_change_4 : decode cX11_change 4 = .ok (.getfield 7, 3) := by decide +kernel
theorem dX11_change_7 : decode cX11_change 7 = .ok (.iconst 0, 1) := by decide +kernel
theorem dX11_change_8 : decode cX11_change 8 = .ok (.iaload, 1) := by decide +kernel
theorem dX11_change_9 : decode cX11_change 9 = .ok (.if_icmp .ge 30, 3) := by decide +kernel
theorem dX11_change_12 : decode cX11_change 12 = .ok (.aload_n 0, 1) := by decide +kernel
theorem dX11_change_13 : decode cX11_change 13 = .ok (.getfield 7, 3) := by decide +kernel
theorem dX11_change_16 : decode cX11_change 16 = .ok (.iconst 2, 1) := by decide +kernel
theorem dX11_change_17 : decode cX11_change 17 = .ok (.iload_n 1, 1) := by decide +kernel
theorem dX11_change_18 : decode cX11_change 18 = .ok (.iadd, 1) := by decide +kernel
theorem dX11_change_19 : decode cX11_change 19 = .ok (.iaload, 1) := by decide +kernel
theorem dX11_change_20 : decode cX11_change 20 = .ok (.aload_n 0, 1) := by decide +kernel
theorem dX11_change_21 : decode cX11_change 21 = .ok (.getfield 7, 3) := by decide +kernel
theorem dX11_change_24 : decode cX11_change 24 = .ok (.sipush 229, 3) := by decide +kernel
theorem dX11_change_27 : decode cX11_change 27 = .ok (.iaload, 1) := by decide +kernel
theorem dX11_change_28 : decode cX11_change 28 = .ok (.if_icmp .lt 5, 3) := by decide +kernel
theorem dX11_change_31 : decode cX11_change 31 = .ok (.iconst (-1), 1) := by decide +kernel
theorem dX11_change_32 : decode cX11_change 32 = .ok (.ireturn, 1) := by decide +kernel
theorem dX11_change_33 : decode cX11_change 33 = .ok (.iinc 1 1, 3) := by decide +kernel
theorem dX11_change_36 : decode cX11_change 36 = .ok (.goto (-34), 3) := by decide +kernel
theorem dX11_change_39 : decode cX11_change 39 = .ok (.iconst 0, 1) := by decide +kernel
theorem dX11_change_40 : decode cX11_change 40 = .ok (.istore_n 1, 1) := by decide +kernel
theorem dX11_change_41 : decode cX11_change 41 = .ok (.iconst (-1), 1) := by decide +kernel
theorem dX11_change_42 : decode cX11_change 42 = .ok (.istore_n 2, 1) := by decide +kernel
theorem dX11_change_43 : decode cX11_change 43 = .ok (.iconst 0, 1) := by decide +kernel
theorem dX11_change_44 : decode cX11_change 44 = .ok (.istore_n 3, 1) := by decide +kernel
theorem dX11_change_45 : decode cX11_change 45 = .ok (.iload_n 3, 1) := by decide +kernel
theorem dX11_change_46 : decode cX11_change 46 = .ok (.aload_n 0, 1) := by decide +kernel
theorem dX11_change_47 : decode cX11_change 47 = .ok (.getfield 7, 3) := by decide +kernel
theorem dX11_change_50 : decode cX11_change 50 = .ok (.sipush 229, 3) := by decide +kernel
theorem dX11_change_53 : decode cX11_change 53 = .ok (.iaload, 1) := by decide +kernel
theorem dX11_change_54 : decode cX11_change 54 = .ok (.if_icmp .ge 82, 3) := by decide +kernel
theorem dX11_change_57 : decode cX11_change 57 = .ok (.iconst 0, 1) := by decide +kernel
theorem dX11_change_58 : decode cX11_change 58 = .ok (.istore 4, 2) := by decide +kernel
theorem dX11_change_60 : decode cX11_change 60 = .ok (.iconst 0, 1) := by decide +kernel
theorem dX11_change_61 : decode cX11_change 61 = .ok (.istore 5, 2) := by decide +kernel
theorem dX11_change_63 : decode cX11_change 63 = .ok (.iload 5, 2) := by decide +kernel
theorem dX11_change_65 : decode cX11_change 65 = .ok (.aload_n 0, 1) := by decide +kernel
theorem dX11_change_66 : decode cX11_change 66 = .ok (.getfield 7, 3) := by decide +kernel
theorem dX11_change_69 : decode cX11_change 69 = .ok (.iconst 0, 1) := by decide +kernel
theorem dX11_change_70 : decode cX11_change 70 = .ok (.iaload, 1) := by decide +kernel
theorem dX11_change_71 : decode cX11_change 71 = .ok (.if_icmp .ge 45, 3) := by decide +kernel
theorem dX11_change_74 : decode cX11_change 74 = .ok (.aload_n 0, 1) := by decide +kernel
theorem dX11_change_75 : decode cX11_change 75 = .ok (.getfield 7, 3) := by decide +kernel
theorem dX11_change_78 : decode cX11_change 78 = .ok (.sipush 233, 3) := by decide +kernel
theorem dX11_change_81 : decode cX11_change 81 = .ok (.aload_n 0, 1) := by decide +kernel
theorem dX11_change_82 : decode cX11_change 82 = .ok (.iload 5, 2) := by decide +kernel
theorem dX11_change_84 : decode cX11_change 84 = .ok (.iload_n 3, 1) := by decide +kernel
theorem dX11_change_85 : decode cX11_change 85 = .ok (.invokevirtual 152, 3) := by decide +kernel
theorem dX11_change_88 : decode cX11_change 88 = .ok (.iadd, 1) := by decide +kernel
theorem dX11_change_89 : decode cX11_change 89 = .ok (.iaload, 1) := by decide +kernel
theorem dX11_change_90 : decode cX11_change 90 = .ok (.aload_n 0, 1) := by decide +kernel
theorem dX11_change_91 : decode cX11_change 91 = .ok (.getfield 7, 3) := by decide +kernel
theorem dX11_change_94 : decode cX11_change 94 = .ok (.bipush 102, 2) := by decide +kernel
theorem dX11_change_96 : decode cX11_change 96 = .ok (.iload 5, 2) := by decide +kernel
theorem dX11_change_98 : decode cX11_change 98 = .ok (.iadd, 1) := by decide +kernel
theorem dX11_change_99 : decode cX11_change 99 = .ok (.iaload, 1) := by decide +kernel
theorem dX11_change_100 : decode cX11_change 100 = .ok (.ishr, 1) := by decide +kernel
theorem dX11_change_101 : decode cX11_change 101 = .ok (.iconst 1, 1) := by decide +kernel
theorem dX11_change_102 : decode cX11_change 102 = .ok (.iand, 1) := by decide +kernel
theorem dX11_change_103 : decode cX11_change 103 = .ok (.iconst 1, 1) := by decide +kernel
theorem dX11_change_104 : decode cX11_change 104 = .ok (.if_icmp .ne 6, 3) := by decide +kernel
theorem dX11_change_107 : decode cX11_change 107 = .ok (.iinc 4 1, 3) := by decide +kernel
theorem dX11_change_110 : decode cX11_change 110 = .ok (.iinc 5 1, 3) := by decide +kernel
theorem dX11_change_113 : decode cX11_change 113 = .ok (.goto (-50), 3) := by decide +kernel
theorem dX11_change_116 : decode cX11_change 116 = .ok (.iload 4, 2) := by decide +kernel
theorem dX11_change_118 : decode cX11_change 118 = .ok (.iload_n 2, 1) := by decide +kernel
theorem dX11_change_119 : decode cX11_change 119 = .ok (.if_icmp .gt 6, 3) := by decide +kernel
theorem dX11_change_122 : decode cX11_change 122 = .ok (.goto 8, 3) := by decide +kernel
theorem dX11_change_125 : decode cX11_change 125 = .ok (.iload 4, 2) := by decide +kernel
theorem dX11_change_127 : decode cX11_change 127 = .ok (.istore_n 2, 1) := by decide +kernel
theorem dX11_change_128 : decode cX11_change 128 = .ok (.iload_n 3, 1) := by decide +kernel
theorem dX11_change_129 : decode cX11_change 129 = .ok (.istore_n 1, 1) := by decide +kernel
theorem dX11_change_130 : decode cX11_change 130 = .ok (.iinc 3 1, 3) := by decide +kernel
theorem dX11_change_133 : decode cX11_change 133 = .ok (.goto (-88), 3) := by decide +kernel
theorem dX11_change_136 : decode cX11_change 136 = .ok (.iconst 0, 1) := by decide +kernel
theorem dX11_change_137 : decode cX11_change 137 = .ok (.istore_n 3, 1) := by decide +kernel
theorem dX11_change_138 : decode cX11_change 138 = .ok (.iload_n 3, 1) := by decide +kernel
theorem dX11_change_139 : decode cX11_change 139 = .ok (.aload_n 0, 1) := by decide +kernel
theorem dX11_change_140 : decode cX11_change 140 = .ok (.getfield 7, 3) := by decide +kernel
theorem dX11_change_143 : decode cX11_change 143 = .ok (.sipush 229, 3) := by decide +kernel
theorem dX11_change_146 : decode cX11_change 146 = .ok (.iaload, 1) := by decide +kernel
theorem dX11_change_147 : decode cX11_change 147 = .ok (.if_icmp .ge 20, 3) := by decide +kernel
theorem dX11_change_150 : decode cX11_change 150 = .ok (.aload_n 0, 1) := by decide +kernel
theorem dX11_change_151 : decode cX11_change 151 = .ok (.getfield 7, 3) := by decide +kernel
theorem dX11_change_154 : decode cX11_change 154 = .ok (.sipush 233, 3) := by decide +kernel
theorem dX11_change_157 : decode cX11_change 157 = .ok (.iload_n 3, 1) := by decide +kernel
theorem dX11_change_158 : decode cX11_change 158 = .ok (.iadd, 1) := by decide +kernel
theorem dX11_change_159 : decode cX11_change 159 = .ok (.iconst 0, 1) := by decide +kernel
theorem dX11_change_160 : decode cX11_change 160 = .ok (.iastore, 1) := by decide +kernel
theorem dX11_change_161 : decode cX11_change 161 = .ok (.iinc 3 1, 3) := by decide +kernel
theorem dX11_change_164 : decode cX11_change 164 = .ok (.goto (-26), 3) := by decide +kernel
theorem dX11_change_167 : decode cX11_change 167 = .ok (.iconst 0, 1) := by decide +kernel
theorem dX11_change_168 : decode cX11_change 168 = .ok (.istore_n 3, 1) := by decide +kernel
theorem dX11_change_169 : decode cX11_change 169 = .ok (.iload_n 3, 1) := by decide +kernel
theorem dX11_change_170 : decode cX11_change 170 = .ok (.aload_n 0, 1) := by decide +kernel
theorem dX11_change_171 : decode cX11_change 171 = .ok (.getfield 7, 3) := by decide +kernel
theorem dX11_change_174 : decode cX11_change 174 = .ok (.iconst 0, 1) := by decide +kernel
theorem dX11_change_175 : decode cX11_change 175 = .ok (.iaload, 1) := by decide +kernel
theorem dX11_change_176 : decode cX11_change 176 = .ok (.if_icmp .ge 38, 3) := by decide +kernel
theorem dX11_change_179 : decode cX11_change 179 = .ok (.aload_n 0, 1) := by decide +kernel
theorem dX11_change_180 : decode cX11_change 180 = .ok (.getfield 7, 3) := by decide +kernel
theorem dX11_change_183 : decode cX11_change 183 = .ok (.sipush 233, 3) := by decide +kernel
theorem dX11_change_186 : decode cX11_change 186 = .ok (.aload_n 0, 1) := by decide +kernel
theorem dX11_change_187 : decode cX11_change 187 = .ok (.iload_n 3, 1) := by decide +kernel
theorem dX11_change_188 : decode cX11_change 188 = .ok (.iload_n 1, 1) := by decide +kernel
theorem dX11_change_189 : decode cX11_change 189 = .ok (.invokevirtual 152, 3) := by decide +kernel
theorem dX11_change_192 : decode cX11_change 192 = .ok (.iadd, 1) := by decide +kernel
theorem dX11_change_193 : decode cX11_change 193 = .ok (.dup2, 1) := by decide +kernel
theorem dX11_change_194 : decode cX11_change 194 = .ok (.iaload, 1) := by decide +kernel
theorem dX11_change_195 : decode cX11_change 195 = .ok (.iconst 1, 1) := by decide +kernel
theorem dX11_change_196 : decode cX11_change 196 = .ok (.aload_n 0, 1) := by decide +kernel
theorem dX11_change_197 : decode cX11_change 197 = .ok (.getfield 7, 3) := by decide +kernel
theorem dX11_change_200 : decode cX11_change 200 = .ok (.bipush 102, 2) := by decide +kernel
theorem dX11_change_202 : decode cX11_change 202 = .ok (.iload_n 3, 1) := by decide +kernel
theorem dX11_change_203 : decode cX11_change 203 = .ok (.iadd, 1) := by decide +kernel
theorem dX11_change_204 : decode cX11_change 204 = .ok (.iaload, 1) := by decide +kernel
theorem dX11_change_205 : decode cX11_change 205 = .ok (.ishl, 1) := by decide +kernel
theorem dX11_change_206 : decode cX11_change 206 = .ok (.ior, 1) := by decide +kernel
theorem dX11_change_207 : decode cX11_change 207 = .ok (.iastore, 1) := by decide +kernel
theorem dX11_change_208 : decode cX11_change 208 = .ok (.iinc 3 1, 3) := by decide +kernel
theorem dX11_change_211 : decode cX11_change 211 = .ok (.goto (-42), 3) := by decide +kernel
theorem dX11_change_214 : decode cX11_change 214 = .ok (.aload_n 0, 1) := by decide +kernel
theorem dX11_change_215 : decode cX11_change 215 = .ok (.getfield 7, 3) := by decide +kernel
theorem dX11_change_218 : decode cX11_change 218 = .ok (.sipush 230, 3) := by decide +kernel
theorem dX11_change_221 : decode cX11_change 221 = .ok (.iload_n 1, 1) := by decide +kernel
theorem dX11_change_222 : decode cX11_change 222 = .ok (.iastore, 1) := by decide +kernel
theorem dX11_change_223 : decode cX11_change 223 = .ok (.aload_n 0, 1) := by decide +kernel
theorem dX11_change_224 : decode cX11_change 224 = .ok (.getfield 7, 3) := by decide +kernel
theorem dX11_change_227 : decode cX11_change 227 = .ok (.iconst 0, 1) := by decide +kernel
theorem dX11_change_228 : decode cX11_change 228 = .ok (.iaload, 1) := by decide +kernel
theorem dX11_change_229 : decode cX11_change 229 = .ok (.iload_n 2, 1) := by decide +kernel
theorem dX11_change_230 : decode cX11_change 230 = .ok (.isub, 1) := by decide +kernel
theorem dX11_change_231 : decode cX11_change 231 = .ok (.ireturn, 1) := by decide +kernel
theorem dX11_turn_0 : decode cX11_turn 0 = .ok (.aload_n 0, 1) := by decide +kernel
theorem dX11_turn_1 : decode cX11_turn 1 = .ok (.getfield 7, 3) := by decide +kernel
theorem dX11_turn_4 : decode cX11_turn 4 = .ok (.sipush 230, 3) := by decide +kernel
theorem dX11_turn_7 : decode cX11_turn 7 = .ok (.iaload, 1) := by decide +kernel
theorem dX11_turn_8 : decode cX11_turn 8 = .ok (.ireturn, 1) := by decide +kernel
theorem dX11_pin_0 : decode cX11_pin 0 = .ok (.iload_n 1, 1) := by decide +kernel
theorem dX11_pin_1 : decode cX11_pin 1 = .ok (.ifCond .lt 39, 3) := by decide +kernel
theorem dX11_pin_4 : decode cX11_pin 4 = .ok (.iload_n 1, 1) := by decide +kernel
theorem dX11_pin_5 : decode cX11_pin 5 = .ok (.aload_n 0, 1) := by decide +kernel
theorem dX11_pin_6 : decode cX11_pin 6 = .ok (.getfield 7, 3) := by decide +kernel
theorem dX11_pin_9 : decode cX11_pin 9 = .ok (.sipush 229, 3) := by decide +kernel
theorem dX11_pin_12 : decode cX11_pin 12 = .ok (.iaload, 1) := by decide +kernel
theorem dX11_pin_13 : decode cX11_pin 13 = .ok (.if_icmp .ge 27, 3) := by decide +kernel
theorem dX11_pin_16 : decode cX11_pin 16 = .ok (.iload_n 2, 1) := by decide +kernel
theorem dX11_pin_17 : decode cX11_pin 17 = .ok (.invokestatic 146, 3) := by decide +kernel
theorem dX11_pin_20 : decode cX11_pin 20 = .ok (.ifCond .eq 20, 3) := by decide +kernel
theorem dX11_pin_23 : decode cX11_pin 23 = .ok (.aload_n 0, 1) := by decide +kernel
theorem dX11_pin_24 : decode cX11_pin 24 = .ok (.getfield 7, 3) := by decide +kernel
theorem dX11_pin_27 : decode cX11_pin 27 = .ok (.sipush 233, 3) := by decide +kernel
theorem dX11_pin_30 : decode cX11_pin 30 = .ok (.iload_n 1, 1) := by decide +kernel
theorem dX11_pin_31 : decode cX11_pin 31 = .ok (.iadd, 1) := by decide +kernel
theorem dX11_pin_32 : decode cX11_pin 32 = .ok (.iaload, 1) := by decide +kernel
theorem dX11_pin_33 : decode cX11_pin 33 = .ok (.iload_n 2, 1) := by decide +kernel
theorem dX11_pin_34 : decode cX11_pin 34 = .ok (.ishr, 1) := by decide +kernel
theorem dX11_pin_35 : decode cX11_pin 35 = .ok (.iconst 1, 1) := by decide +kernel
theorem dX11_pin_36 : decode cX11_pin 36 = .ok (.iand, 1) := by decide +kernel
theorem dX11_pin_37 : decode cX11_pin 37 = .ok (.goto 4, 3) := by decide +kernel
theorem dX11_pin_40 : decode cX11_pin 40 = .ok (.iconst (-1), 1) := by decide +kernel
theorem dX11_pin_41 : decode cX11_pin 41 = .ok (.ireturn, 1) := by decide +kernel
theorem dX11_pins_0 : decode cX11_pins 0 = .ok (.iconst 0, 1) := by decide +kernel
theorem dX11_pins_1 : decode cX11_pins 1 = .ok (.istore_n 1, 1) := by decide +kernel
theorem dX11_pins_2 : decode cX11_pins 2 = .ok (.iconst 0, 1) := by decide +kernel
theorem dX11_pins_3 : decode cX11_pins 3 = .ok (.istore_n 2, 1) := by decide +kernel
theorem dX11_pins_4 : decode cX11_pins 4 = .ok (.iload_n 2, 1) := by decide +kernel
theorem dX11_pins_5 : decode cX11_pins 5 = .ok (.aload_n 0, 1) := by decide +kernel
theorem dX11_pins_6 : decode cX11_pins 6 = .ok (.getfield 7, 3) := by decide +kernel
theorem dX11_pins_9 : decode cX11_pins 9 = .ok (.sipush 229, 3) := by decide +kernel
theorem dX11_pins_12 : decode cX11_pins 12 = .ok (.iaload, 1) := by decide +kernel
theorem dX11_pins_13 : decode cX11_pins 13 = .ok (.if_icmp .ge 40, 3) := by decide +kernel
theorem dX11_pins_16 : decode cX11_pins 16 = .ok (.iconst 0, 1) := by decide +kernel
theorem dX11_pins_17 : decode cX11_pins 17 = .ok (.istore_n 3, 1) := by decide +kernel
theorem dX11_pins_18 : decode cX11_pins 18 = .ok (.iload_n 3, 1) := by decide +kernel
theorem dX11_pins_19 : decode cX11_pins 19 = .ok (.bipush 24, 2) := by decide +kernel
theorem dX11_pins_21 : decode cX11_pins 21 = .ok (.if_icmp .ge 26, 3) := by decide +kernel
theorem dX11_pins_24 : decode cX11_pins 24 = .ok (.iload_n 1, 1) := by decide +kernel
theorem dX11_pins_25 : decode cX11_pins 25 = .ok (.aload_n 0, 1) := by decide +kernel
theorem dX11_pins_26 : decode cX11_pins 26 = .ok (.getfield 7, 3) := by decide +kernel
theorem dX11_pins_29 : decode cX11_pins 29 = .ok (.sipush 233, 3) := by decide +kernel
theorem dX11_pins_32 : decode cX11_pins 32 = .ok (.iload_n 2, 1) := by decide +kernel
theorem dX11_pins_33 : decode cX11_pins 33 = .ok (.iadd, 1) := by decide +kernel
theorem dX11_pins_34 : decode cX11_pins 34 = .ok (.iaload, 1) := by decide +kernel
theorem dX11_pins_35 : decode cX11_pins 35 = .ok (.iload_n 3, 1) := by decide +kernel
theorem dX11_pins_36 : decode cX11_pins 36 = .ok (.ishr, 1) := by decide +kernel
theorem dX11_pins_37 : decode cX11_pins 37 = .ok (.iconst 1, 1) := by decide +kernel
theorem dX11_pins_38 : decode cX11_pins 38 = .ok (.iand, 1) := by decide +kernel
theorem dX11_pins_39 : decode cX11_pins 39 = .ok (.iadd, 1) := by decide +kernel
theorem dX11_pins_40 : decode cX11_pins 40 = .ok (.istore_n 1, 1) := by decide +kernel
theorem dX11_pins_41 : decode cX11_pins 41 = .ok (.iinc 3 1, 3) := by decide +kernel
theorem dX11_pins_44 : decode cX11_pins 44 = .ok (.goto (-26), 3) := by decide +kernel
theorem dX11_pins_47 : decode cX11_pins 47 = .ok (.iinc 2 1, 3) := by decide +kernel
theorem dX11_pins_50 : decode cX11_pins 50 = .ok (.goto (-46), 3) := by decide +kernel
theorem dX11_pins_53 : decode cX11_pins 53 = .ok (.iload_n 1, 1) := by decide +kernel
theorem dX11_pins_54 : decode cX11_pins 54 = .ok (.ireturn, 1) := by decide +kernel
theorem dX11_play_0 : decode cX11_play 0 = .ok (.iload_n 1, 1) := by decide +kernel
theorem dX11_play_1 : decode cX11_play 1 = .ok (.ifCond .eq 10, 3) := by decide +kernel
theorem dX11_play_4 : decode cX11_play 4 = .ok (.iload_n 1, 1) := by decide +kernel
theorem dX11_play_5 : decode cX11_play 5 = .ok (.iconst 1, 1) := by decide +kernel
theorem dX11_play_6 : decode cX11_play 6 = .ok (.if_icmp .eq 5, 3) := by decide +kernel
theorem dX11_play_9 : decode cX11_play 9 = .ok (.iconst (-1), 1) := by decide +kernel
theorem dX11_play_10 : decode cX11_play 10 = .ok (.ireturn, 1) := by decide +kernel
theorem dX11_play_11 : decode cX11_play 11 = .ok (.iconst 0, 1) := by decide +kernel
theorem dX11_play_12 : decode cX11_play 12 = .ok (.istore_n 2, 1) := by decide +kernel
theorem dX11_play_13 : decode cX11_play 13 = .ok (.iload_n 1, 1) := by decide +kernel
theorem dX11_play_14 : decode cX11_play 14 = .ok (.ifCond .ne 62, 3) := by decide +kernel
theorem dX11_play_17 : decode cX11_play 17 = .ok (.aload_n 0, 1) := by decide +kernel
theorem dX11_play_18 : decode cX11_play 18 = .ok (.invokevirtual 143, 3) := by decide +kernel
theorem dX11_play_21 : decode cX11_play 21 = .ok (.pop, 1) := by decide +kernel
theorem dX11_play_22 : decode cX11_play 22 = .ok (.iconst 0, 1) := by decide +kernel
theorem dX11_play_23 : decode cX11_play 23 = .ok (.istore_n 3, 1) := by decide +kernel
theorem dX11_play_24 : decode cX11_play 24 = .ok (.iload_n 3, 1) := by decide +kernel
theorem dX11_play_25 : decode cX11_play 25 = .ok (.aload_n 0, 1) := by decide +kernel
theorem dX11_play_26 : decode cX11_play 26 = .ok (.getfield 7, 3) := by decide +kernel
theorem dX11_play_29 : decode cX11_play 29 = .ok (.iconst 0, 1) := by decide +kernel
theorem dX11_play_30 : decode cX11_play 30 = .ok (.iaload, 1) := by decide +kernel
theorem dX11_play_31 : decode cX11_play 31 = .ok (.if_icmp .ge 43, 3) := by decide +kernel
theorem dX11_play_34 : decode cX11_play 34 = .ok (.aload_n 0, 1) := by decide +kernel
theorem dX11_play_35 : decode cX11_play 35 = .ok (.getfield 46, 3) := by decide +kernel
theorem dX11_play_38 : decode cX11_play 38 = .ok (.iload_n 3, 1) := by decide +kernel
theorem dX11_play_39 : decode cX11_play 39 = .ok (.iaload, 1) := by decide +kernel
theorem dX11_play_40 : decode cX11_play 40 = .ok (.iconst 2, 1) := by decide +kernel
theorem dX11_play_41 : decode cX11_play 41 = .ok (.if_icmp .ne 6, 3) := by decide +kernel
theorem dX11_play_44 : decode cX11_play 44 = .ok (.goto 24, 3) := by decide +kernel
theorem dX11_play_47 : decode cX11_play 47 = .ok (.aload_n 0, 1) := by decide +kernel
theorem dX11_play_48 : decode cX11_play 48 = .ok (.getfield 13, 3) := by decide +kernel
theorem dX11_play_51 : decode cX11_play 51 = .ok (.aload_n 0, 1) := by decide +kernel
theorem dX11_play_52 : decode cX11_play 52 = .ok (.getfield 7, 3) := by decide +kernel
theorem dX11_play_55 : decode cX11_play 55 = .ok (.bipush 102, 2) := by decide +kernel
theorem dX11_play_57 : decode cX11_play 57 = .ok (.iload_n 3, 1) := by decide +kernel
theorem dX11_play_58 : decode cX11_play 58 = .ok (.iadd, 1) := by decide +kernel
theorem dX11_play_59 : decode cX11_play 59 = .ok (.iaload, 1) := by decide +kernel
theorem dX11_play_60 : decode cX11_play 60 = .ok (.dup2, 1) := by decide +kernel
theorem dX11_play_61 : decode cX11_play 61 = .ok (.laload, 1) := by decide +kernel
theorem dX11_play_62 : decode cX11_play 62 = .ok (.lconst 1, 1) := by decide +kernel
theorem dX11_play_63 : decode cX11_play 63 = .ok (.ladd, 1) := by decide +kernel
theorem dX11_play_64 : decode cX11_play 64 = .ok (.lastore, 1) := by decide +kernel
theorem dX11_play_65 : decode cX11_play 65 = .ok (.iinc 2 1, 3) := by decide +kernel
theorem dX11_play_68 : decode cX11_play 68 = .ok (.iinc 3 1, 3) := by decide +kernel
theorem dX11_play_71 : decode cX11_play 71 = .ok (.goto (-47), 3) := by decide +kernel
theorem dX11_play_74 : decode cX11_play 74 = .ok (.iload_n 2, 1) := by decide +kernel
theorem dX11_play_75 : decode cX11_play 75 = .ok (.ireturn, 1) := by decide +kernel
theorem dX11_play_76 : decode cX11_play 76 = .ok (.iconst 0, 1) := by decide +kernel
theorem dX11_play_77 : decode cX11_play 77 = .ok (.istore_n 3, 1) := by decide +kernel
theorem dX11_play_78 : decode cX11_play 78 = .ok (.iload_n 3, 1) := by decide +kernel
theorem dX11_play_79 : decode cX11_play 79 = .ok (.aload_n 0, 1) := by decide +kernel
theorem dX11_play_80 : decode cX11_play 80 = .ok (.getfield 7, 3) := by decide +kernel
theorem dX11_play_83 : decode cX11_play 83 = .ok (.sipush 229, 3) := by decide +kernel
theorem dX11_play_86 : decode cX11_play 86 = .ok (.iaload, 1) := by decide +kernel
theorem dX11_play_87 : decode cX11_play 87 = .ok (.if_icmp .ge 60, 3) := by decide +kernel
theorem dX11_play_90 : decode cX11_play 90 = .ok (.iconst 0, 1) := by decide +kernel
theorem dX11_play_91 : decode cX11_play 91 = .ok (.istore 4, 2) := by decide +kernel
theorem dX11_play_93 : decode cX11_play 93 = .ok (.iload 4, 2) := by decide +kernel
theorem dX11_play_95 : decode cX11_play 95 = .ok (.bipush 24, 2) := by decide +kernel
theorem dX11_play_97 : decode cX11_play 97 = .ok (.if_icmp .ge 44, 3) := by decide +kernel
theorem dX11_play_100 : decode cX11_play 100 = .ok (.aload_n 0, 1) := by decide +kernel
theorem dX11_play_101 : decode cX11_play 101 = .ok (.getfield 7, 3) := by decide +kernel
theorem dX11_play_104 : decode cX11_play 104 = .ok (.sipush 233, 3) := by decide +kernel
theorem dX11_play_107 : decode cX11_play 107 = .ok (.iload_n 3, 1) := by decide +kernel
theorem dX11_play_108 : decode cX11_play 108 = .ok (.iadd, 1) := by decide +kernel
theorem dX11_play_109 : decode cX11_play 109 = .ok (.iaload, 1) := by decide +kernel
theorem dX11_play_110 : decode cX11_play 110 = .ok (.iload 4, 2) := by decide +kernel
theorem dX11_play_112 : decode cX11_play 112 = .ok (.ishr, 1) := by decide +kernel
theorem dX11_play_113 : decode cX11_play 113 = .ok (.iconst 1, 1) := by decide +kernel
theorem dX11_play_114 : decode cX11_play 114 = .ok (.iand, 1) := by decide +kernel
theorem dX11_play_115 : decode cX11_play 115 = .ok (.ifCond .ne 6, 3) := by decide +kernel
theorem dX11_play_118 : decode cX11_play 118 = .ok (.goto 17, 3) := by decide +kernel
theorem dX11_play_121 : decode cX11_play 121 = .ok (.aload_n 0, 1) := by decide +kernel
theorem dX11_play_122 : decode cX11_play 122 = .ok (.getfield 13, 3) := by decide +kernel
theorem dX11_play_125 : decode cX11_play 125 = .ok (.iload 4, 2) := by decide +kernel
theorem dX11_play_127 : decode cX11_play 127 = .ok (.dup2, 1) := by decide +kernel
theorem dX11_play_128 : decode cX11_play 128 = .ok (.laload, 1) := by decide +kernel
theorem dX11_play_129 : decode cX11_play 129 = .ok (.lconst 1, 1) := by decide +kernel
theorem dX11_play_130 : decode cX11_play 130 = .ok (.ladd, 1) := by decide +kernel
theorem dX11_play_131 : decode cX11_play 131 = .ok (.lastore, 1) := by decide +kernel
theorem dX11_play_132 : decode cX11_play 132 = .ok (.iinc 2 1, 3) := by decide +kernel
theorem dX11_play_135 : decode cX11_play 135 = .ok (.iinc 4 1, 3) := by decide +kernel
theorem dX11_play_138 : decode cX11_play 138 = .ok (.goto (-45), 3) := by decide +kernel
theorem dX11_play_141 : decode cX11_play 141 = .ok (.iinc 3 1, 3) := by decide +kernel
theorem dX11_play_144 : decode cX11_play 144 = .ok (.goto (-66), 3) := by decide +kernel
theorem dX11_play_147 : decode cX11_play 147 = .ok (.iload_n 2, 1) := by decide +kernel
theorem dX11_play_148 : decode cX11_play 148 = .ok (.ireturn, 1) := by decide +kernel
theorem dX11_strikes_0 : decode cX11_strikes 0 = .ok (.iload_n 1, 1) := by decide +kernel
theorem dX11_strikes_1 : decode cX11_strikes 1 = .ok (.invokestatic 146, 3) := by decide +kernel
theorem dX11_strikes_4 : decode cX11_strikes 4 = .ok (.ifCond .eq 12, 3) := by decide +kernel
theorem dX11_strikes_7 : decode cX11_strikes 7 = .ok (.aload_n 0, 1) := by decide +kernel
theorem dX11_strikes_8 : decode cX11_strikes 8 = .ok (.getfield 13, 3) := by decide +kernel
theorem dX11_strikes_11 : decode cX11_strikes 11 = .ok (.iload_n 1, 1) := by decide +kernel
theorem dX11_strikes_12 : decode cX11_strikes 12 = .ok (.laload, 1) := by decide +kernel
theorem dX11_strikes_13 : decode cX11_strikes 13 = .ok (.goto 6, 3) := by decide +kernel
theorem dX11_strikes_16 : decode cX11_strikes 16 = .ok (.ldc2_w 155, 3) := by decide +kernel
theorem dX11_strikes_19 : decode cX11_strikes 19 = .ok (.lreturn, 1) := by decide +kernel
theorem dX11_mend_0 : decode cX11_mend 0 = .ok (.iload_n 1, 1) := by decide +kernel
theorem dX11_mend_1 : decode cX11_mend 1 = .ok (.invokestatic 146, 3) := by decide +kernel
theorem dX11_mend_4 : decode cX11_mend 4 = .ok (.ifCond .ne 7, 3) := by decide +kernel
theorem dX11_mend_7 : decode cX11_mend 7 = .ok (.ldc2_w 155, 3) := by decide +kernel
theorem dX11_mend_10 : decode cX11_mend 10 = .ok (.lreturn, 1) := by decide +kernel
theorem dX11_mend_11 : decode cX11_mend 11 = .ok (.aload_n 0, 1) := by decide +kernel
theorem dX11_mend_12 : decode cX11_mend 12 = .ok (.getfield 13, 3) := by decide +kernel
theorem dX11_mend_15 : decode cX11_mend 15 = .ok (.iload_n 1, 1) := by decide +kernel
theorem dX11_mend_16 : decode cX11_mend 16 = .ok (.laload, 1) := by decide +kernel
theorem dX11_mend_17 : decode cX11_mend 17 = .ok (.lstore_n 2, 1) := by decide +kernel
theorem dX11_mend_18 : decode cX11_mend 18 = .ok (.aload_n 0, 1) := by decide +kernel
theorem dX11_mend_19 : decode cX11_mend 19 = .ok (.getfield 13, 3) := by decide +kernel
theorem dX11_mend_22 : decode cX11_mend 22 = .ok (.iload_n 1, 1) := by decide +kernel
theorem dX11_mend_23 : decode cX11_mend 23 = .ok (.lconst 0, 1) := by decide +kernel
theorem dX11_mend_24 : decode cX11_mend 24 = .ok (.lastore, 1) := by decide +kernel
theorem dX11_mend_25 : decode cX11_mend 25 = .ok (.lload_n 2, 1) := by decide +kernel
theorem dX11_mend_26 : decode cX11_mend 26 = .ok (.lreturn, 1) := by decide +kernel
theorem dX11_worn_0 : decode cX11_worn 0 = .ok (.iload_n 1, 1) := by decide +kernel
theorem dX11_worn_1 : decode cX11_worn 1 = .ok (.iconst 1, 1) := by decide +kernel
theorem dX11_worn_2 : decode cX11_worn 2 = .ok (.if_icmp .ge 5, 3) := by decide +kernel
theorem dX11_worn_5 : decode cX11_worn 5 = .ok (.iconst (-1), 1) := by decide +kernel
theorem dX11_worn_6 : decode cX11_worn 6 = .ok (.ireturn, 1) := by decide +kernel
theorem dX11_worn_7 : decode cX11_worn 7 = .ok (.iconst 0, 1) := by decide +kernel
theorem dX11_worn_8 : decode cX11_worn 8 = .ok (.istore_n 2, 1) := by decide +kernel
theorem dX11_worn_9 : decode cX11_worn 9 = .ok (.iconst 0, 1) := by decide +kernel
theorem dX11_worn_10 : decode cX11_worn 10 = .ok (.istore_n 3, 1) := by decide +kernel
theorem dX11_worn_11 : decode cX11_worn 11 = .ok (.iload_n 3, 1) := by decide +kernel
theorem dX11_worn_12 : decode cX11_worn 12 = .ok (.bipush 24, 2) := by decide +kernel
theorem dX11_worn_14 : decode cX11_worn 14 = .ok (.if_icmp .ge 24, 3) := by decide +kernel
theorem dX11_worn_17 : decode cX11_worn 17 = .ok (.aload_n 0, 1) := by decide +kernel
theorem dX11_worn_18 : decode cX11_worn 18 = .ok (.getfield 13, 3) := by decide +kernel
theorem dX11_worn_21 : decode cX11_worn 21 = .ok (.iload_n 3, 1) := by decide +kernel
theorem dX11_worn_22 : decode cX11_worn 22 = .ok (.laload, 1) := by decide +kernel
theorem dX11_worn_23 : decode cX11_worn 23 = .ok (.iload_n 1, 1) := by decide +kernel
theorem dX11_worn_24 : decode cX11_worn 24 = .ok (.i2l, 1) := by decide +kernel
theorem dX11_worn_25 : decode cX11_worn 25 = .ok (.lcmp, 1) := by decide +kernel
theorem dX11_worn_26 : decode cX11_worn 26 = .ok (.ifCond .lt 6, 3) := by decide +kernel
theorem dX11_worn_29 : decode cX11_worn 29 = .ok (.iinc 2 1, 3) := by decide +kernel
theorem dX11_worn_32 : decode cX11_worn 32 = .ok (.iinc 3 1, 3) := by decide +kernel
theorem dX11_worn_35 : decode cX11_worn 35 = .ok (.goto (-24), 3) := by decide +kernel
theorem dX11_worn_38 : decode cX11_worn 38 = .ok (.iload_n 2, 1) := by decide +kernel
theorem dX11_worn_39 : decode cX11_worn 39 = .ok (.ireturn, 1) := by decide +kernel
theorem dJ6_bitCount_0f7a4_0 : decode cJ6_bitCount_0f7a4 0 = .ok (.iload_n 0, 1) := by decide +kernel
theorem dJ6_bitCount_0f7a4_1 : decode cJ6_bitCount_0f7a4 1 = .ok (.iload_n 0, 1) := by decide +kernel
theorem dJ6_bitCount_0f7a4_2 : decode cJ6_bitCount_0f7a4 2 = .ok (.iconst 1, 1) := by decide +kernel
theorem dJ6_bitCount_0f7a4_3 : decode cJ6_bitCount_0f7a4 3 = .ok (.iushr, 1) := by decide +kernel
theorem dJ6_bitCount_0f7a4_4 : decode cJ6_bitCount_0f7a4 4 = .ok (.ldc_w 265, 3) := by decide +kernel
theorem dJ6_bitCount_0f7a4_7 : decode cJ6_bitCount_0f7a4 7 = .ok (.iand, 1) := by decide +kernel
theorem dJ6_bitCount_0f7a4_8 : decode cJ6_bitCount_0f7a4 8 = .ok (.isub, 1) := by decide +kernel
theorem dJ6_bitCount_0f7a4_9 : decode cJ6_bitCount_0f7a4 9 = .ok (.istore_n 0, 1) := by decide +kernel
theorem dJ6_bitCount_0f7a4_10 : decode cJ6_bitCount_0f7a4 10 = .ok (.iload_n 0, 1) := by decide +kernel
theorem dJ6_bitCount_0f7a4_11 : decode cJ6_bitCount_0f7a4 11 = .ok (.ldc_w 266, 3) := by decide +kernel
theorem dJ6_bitCount_0f7a4_14 : decode cJ6_bitCount_0f7a4 14 = .ok (.iand, 1) := by decide +kernel
theorem dJ6_bitCount_0f7a4_15 : decode cJ6_bitCount_0f7a4 15 = .ok (.iload_n 0, 1) := by decide +kernel
theorem dJ6_bitCount_0f7a4_16 : decode cJ6_bitCount_0f7a4 16 = .ok (.iconst 2, 1) := by decide +kernel
theorem dJ6_bitCount_0f7a4_17 : decode cJ6_bitCount_0f7a4 17 = .ok (.iushr, 1) := by decide +kernel
theorem dJ6_bitCount_0f7a4_18 : decode cJ6_bitCount_0f7a4 18 = .ok (.ldc_w 266, 3) := by decide +kernel
theorem dJ6_bitCount_0f7a4_21 : decode cJ6_bitCount_0f7a4 21 = .ok (.iand, 1) := by decide +kernel
theorem dJ6_bitCount_0f7a4_22 : decode cJ6_bitCount_0f7a4 22 = .ok (.iadd, 1) := by decide +kernel
theorem dJ6_bitCount_0f7a4_23 : decode cJ6_bitCount_0f7a4 23 = .ok (.istore_n 0, 1) := by decide +kernel
theorem dJ6_bitCount_0f7a4_24 : decode cJ6_bitCount_0f7a4 24 = .ok (.iload_n 0, 1) := by decide +kernel
theorem dJ6_bitCount_0f7a4_25 : decode cJ6_bitCount_0f7a4 25 = .ok (.iload_n 0, 1) := by decide +kernel
theorem dJ6_bitCount_0f7a4_26 : decode cJ6_bitCount_0f7a4 26 = .ok (.iconst 4, 1) := by decide +kernel
theorem dJ6_bitCount_0f7a4_27 : decode cJ6_bitCount_0f7a4 27 = .ok (.iushr, 1) := by decide +kernel
theorem dJ6_bitCount_0f7a4_28 : decode cJ6_bitCount_0f7a4 28 = .ok (.iadd, 1) := by decide +kernel
theorem dJ6_bitCount_0f7a4_29 : decode cJ6_bitCount_0f7a4 29 = .ok (.ldc_w 267, 3) := by decide +kernel
theorem dJ6_bitCount_0f7a4_32 : decode cJ6_bitCount_0f7a4 32 = .ok (.iand, 1) := by decide +kernel
theorem dJ6_bitCount_0f7a4_33 : decode cJ6_bitCount_0f7a4 33 = .ok (.istore_n 0, 1) := by decide +kernel
theorem dJ6_bitCount_0f7a4_34 : decode cJ6_bitCount_0f7a4 34 = .ok (.iload_n 0, 1) := by decide +kernel
theorem dJ6_bitCount_0f7a4_35 : decode cJ6_bitCount_0f7a4 35 = .ok (.iload_n 0, 1) := by decide +kernel
theorem dJ6_bitCount_0f7a4_36 : decode cJ6_bitCount_0f7a4 36 = .ok (.bipush 8, 2) := by decide +kernel
theorem dJ6_bitCount_0f7a4_38 : decode cJ6_bitCount_0f7a4 38 = .ok (.iushr, 1) := by decide +kernel
theorem dJ6_bitCount_0f7a4_39 : decode cJ6_bitCount_0f7a4 39 = .ok (.iadd, 1) := by decide +kernel
theorem dJ6_bitCount_0f7a4_40 : decode cJ6_bitCount_0f7a4 40 = .ok (.istore_n 0, 1) := by decide +kernel
theorem dJ6_bitCount_0f7a4_41 : decode cJ6_bitCount_0f7a4 41 = .ok (.iload_n 0, 1) := by decide +kernel
theorem dJ6_bitCount_0f7a4_42 : decode cJ6_bitCount_0f7a4 42 = .ok (.iload_n 0, 1) := by decide +kernel
theorem dJ6_bitCount_0f7a4_43 : decode cJ6_bitCount_0f7a4 43 = .ok (.bipush 16, 2) := by decide +kernel
theorem dJ6_bitCount_0f7a4_45 : decode cJ6_bitCount_0f7a4 45 = .ok (.iushr, 1) := by decide +kernel
theorem dJ6_bitCount_0f7a4_46 : decode cJ6_bitCount_0f7a4 46 = .ok (.iadd, 1) := by decide +kernel
theorem dJ6_bitCount_0f7a4_47 : decode cJ6_bitCount_0f7a4 47 = .ok (.istore_n 0, 1) := by decide +kernel
theorem dJ6_bitCount_0f7a4_48 : decode cJ6_bitCount_0f7a4 48 = .ok (.iload_n 0, 1) := by decide +kernel
theorem dJ6_bitCount_0f7a4_49 : decode cJ6_bitCount_0f7a4 49 = .ok (.bipush 63, 2) := by decide +kernel
theorem dJ6_bitCount_0f7a4_51 : decode cJ6_bitCount_0f7a4 51 = .ok (.iand, 1) := by decide +kernel
theorem dJ6_bitCount_0f7a4_52 : decode cJ6_bitCount_0f7a4 52 = .ok (.ireturn, 1) := by decide +kernel
theorem dJ9_abs_0f7a4_0 : decode cJ9_abs_0f7a4 0 = .ok (.iload_n 0, 1) := by decide +kernel
theorem dJ9_abs_0f7a4_1 : decode cJ9_abs_0f7a4 1 = .ok (.ifCond .ge 8, 3) := by decide +kernel
theorem dJ9_abs_0f7a4_4 : decode cJ9_abs_0f7a4 4 = .ok (.iload_n 0, 1) := by decide +kernel
theorem dJ9_abs_0f7a4_5 : decode cJ9_abs_0f7a4 5 = .ok (.ineg, 1) := by decide +kernel
theorem dJ9_abs_0f7a4_6 : decode cJ9_abs_0f7a4 6 = .ok (.goto 4, 3) := by decide +kernel
theorem dJ9_abs_0f7a4_9 : decode cJ9_abs_0f7a4 9 = .ok (.iload_n 0, 1) := by decide +kernel
theorem dJ9_abs_0f7a4_10 : decode cJ9_abs_0f7a4 10 = .ok (.ireturn, 1) := by decide +kernel
theorem dJ9_max_7cf53_0 : decode cJ9_max_7cf53 0 = .ok (.iload_n 0, 1) := by decide +kernel
theorem dJ9_max_7cf53_1 : decode cJ9_max_7cf53 1 = .ok (.iload_n 1, 1) := by decide +kernel
theorem dJ9_max_7cf53_2 : decode cJ9_max_7cf53 2 = .ok (.if_icmp .lt 7, 3) := by decide +kernel
theorem dJ9_max_7cf53_5 : decode cJ9_max_7cf53 5 = .ok (.iload_n 0, 1) := by decide +kernel
theorem dJ9_max_7cf53_6 : decode cJ9_max_7cf53 6 = .ok (.goto 4, 3) := by decide +kernel
theorem dJ9_max_7cf53_9 : decode cJ9_max_7cf53 9 = .ok (.iload_n 1, 1) := by decide +kernel
theorem dJ9_max_7cf53_10 : decode cJ9_max_7cf53 10 = .ok (.ireturn, 1) := by decide +kernel
theorem dJ9_min_7cf53_0 : decode cJ9_min_7cf53 0 = .ok (.iload_n 0, 1) := by decide +kernel
theorem dJ9_min_7cf53_1 : decode cJ9_min_7cf53 1 = .ok (.iload_n 1, 1) := by decide +kernel
theorem dJ9_min_7cf53_2 : decode cJ9_min_7cf53 2 = .ok (.if_icmp .gt 7, 3) := by decide +kernel
theorem dJ9_min_7cf53_5 : decode cJ9_min_7cf53 5 = .ok (.iload_n 0, 1) := by decide +kernel
theorem dJ9_min_7cf53_6 : decode cJ9_min_7cf53 6 = .ok (.goto 4, 3) := by decide +kernel
theorem dJ9_min_7cf53_9 : decode cJ9_min_7cf53 9 = .ok (.iload_n 1, 1) := by decide +kernel
theorem dJ9_min_7cf53_10 : decode cJ9_min_7cf53 10 = .ok (.ireturn, 1) := by decide +kernel
theorem dL_law_0 : decode cL_law 0 = .ok (.new 7, 3) := by decide +kernel
theorem dL_law_3 : decode cL_law 3 = .ok (.dup, 1) := by decide +kernel
theorem dL_law_4 : decode cL_law 4 = .ok (.invokespecial 9, 3) := by decide +kernel
theorem dL_law_7 : decode cL_law 7 = .ok (.astore_n 1, 1) := by decide +kernel
theorem dL_law_8 : decode cL_law 8 = .ok (.new 10, 3) := by decide +kernel
theorem dL_law_11 : decode cL_law 11 = .ok (.dup, 1) := by decide +kernel
theorem dL_law_12 : decode cL_law 12 = .ok (.invokespecial 12, 3) := by decide +kernel
theorem dL_law_15 : decode cL_law 15 = .ok (.astore_n 2, 1) := by decide +kernel
theorem dL_law_16 : decode cL_law 16 = .ok (.iconst 0, 1) := by decide +kernel
theorem dL_law_17 : decode cL_law 17 = .ok (.istore_n 3, 1) := by decide +kernel
theorem dL_law_18 : decode cL_law 18 = .ok (.iload_n 3, 1) := by decide +kernel
theorem dL_law_19 : decode cL_law 19 = .ok (.aload_n 0, 1) := by decide +kernel
theorem dL_law_20 : decode cL_law 20 = .ok (.arraylength, 1) := by decide +kernel
theorem dL_law_21 : decode cL_law 21 = .ok (.bipush 6, 2) := by decide +kernel
theorem dL_law_23 : decode cL_law 23 = .ok (.isub, 1) := by decide +kernel
theorem dL_law_24 : decode cL_law 24 = .ok (.if_icmp .gt 744, 3) := by decide +kernel
theorem dL_law_27 : decode cL_law 27 = .ok (.aload_n 0, 1) := by decide +kernel
theorem dL_law_28 : decode cL_law 28 = .ok (.iload_n 3, 1) := by decide +kernel
theorem dL_law_29 : decode cL_law 29 = .ok (.iaload, 1) := by decide +kernel
theorem dL_law_30 : decode cL_law 30 = .ok (.bipush 31, 2) := by decide +kernel
theorem dL_law_32 : decode cL_law 32 = .ok (.iand, 1) := by decide +kernel
theorem dL_law_33 : decode cL_law 33 = .ok (.tableswitch 729 0 25 #[119, 182, 205, 218, 241, 274, 297, 330, 343, 356, 379, 402, 435, 458, 471, 494, 517, 530, 543, 576, 589, 612, 636, 660, 683, 706], 119) := by decide +kernel
theorem dL_law_152 : decode cL_law 152 = .ok (.aload_n 1, 1) := by decide +kernel
theorem dL_law_153 : decode cL_law 153 = .ok (.aload_n 0, 1) := by decide +kernel
theorem dL_law_154 : decode cL_law 154 = .ok (.iload_n 3, 1) := by decide +kernel
theorem dL_law_155 : decode cL_law 155 = .ok (.iconst 1, 1) := by decide +kernel
theorem dL_law_156 : decode cL_law 156 = .ok (.iadd, 1) := by decide +kernel
theorem dL_law_157 : decode cL_law 157 = .ok (.iaload, 1) := by decide +kernel
theorem dL_law_158 : decode cL_law 158 = .ok (.aload_n 0, 1) := by decide +kernel
theorem dL_law_159 : decode cL_law 159 = .ok (.iload_n 3, 1) := by decide +kernel
theorem dL_law_160 : decode cL_law 160 = .ok (.iconst 2, 1) := by decide +kernel
theorem dL_law_161 : decode cL_law 161 = .ok (.iadd, 1) := by decide +kernel
theorem dL_law_162 : decode cL_law 162 = .ok (.iaload, 1) := by decide +kernel
theorem dL_law_163 : decode cL_law 163 = .ok (.aload_n 0, 1) := by decide +kernel
theorem dL_law_164 : decode cL_law 164 = .ok (.iload_n 3, 1) := by decide +kernel
theorem dL_law_165 : decode cL_law 165 = .ok (.iconst 3, 1) := by decide +kernel
theorem dL_law_166 : decode cL_law 166 = .ok (.iadd, 1) := by decide +kernel
theorem dL_law_167 : decode cL_law 167 = .ok (.iaload, 1) := by decide +kernel
theorem dL_law_168 : decode cL_law 168 = .ok (.aload_n 0, 1) := by decide +kernel
theorem dL_law_169 : decode cL_law 169 = .ok (.iload_n 3, 1) := by decide +kernel
theorem dL_law_170 : decode cL_law 170 = .ok (.iconst 4, 1) := by decide +kernel
theorem dL_law_171 : decode cL_law 171 = .ok (.iadd, 1) := by decide +kernel
theorem dL_law_172 : decode cL_law 172 = .ok (.iaload, 1) := by decide +kernel
theorem dL_law_173 : decode cL_law 173 = .ok (.aload_n 0, 1) := by decide +kernel
theorem dL_law_174 : decode cL_law 174 = .ok (.iload_n 3, 1) := by decide +kernel
theorem dL_law_175 : decode cL_law 175 = .ok (.iconst 5, 1) := by decide +kernel
theorem dL_law_176 : decode cL_law 176 = .ok (.iadd, 1) := by decide +kernel
theorem dL_law_177 : decode cL_law 177 = .ok (.iaload, 1) := by decide +kernel
theorem dL_law_178 : decode cL_law 178 = .ok (.invokevirtual 13, 3) := by decide +kernel
theorem dL_law_181 : decode cL_law 181 = .ok (.aload_n 2, 1) := by decide +kernel
theorem dL_law_182 : decode cL_law 182 = .ok (.aload_n 0, 1) := by decide +kernel
theorem dL_law_183 : decode cL_law 183 = .ok (.iload_n 3, 1) := by decide +kernel
theorem dL_law_184 : decode cL_law 184 = .ok (.iconst 1, 1) := by decide +kernel
theorem dL_law_185 : decode cL_law 185 = .ok (.iadd, 1) := by decide +kernel
theorem dL_law_186 : decode cL_law 186 = .ok (.iaload, 1) := by decide +kernel
theorem dL_law_187 : decode cL_law 187 = .ok (.aload_n 0, 1) := by decide +kernel
theorem dL_law_188 : decode cL_law 188 = .ok (.iload_n 3, 1) := by decide +kernel
theorem dL_law_189 : decode cL_law 189 = .ok (.iconst 2, 1) := by decide +kernel
theorem dL_law_190 : decode cL_law 190 = .ok (.iadd, 1) := by decide +kernel
theorem dL_law_191 : decode cL_law 191 = .ok (.iaload, 1) := by decide +kernel
theorem dL_law_192 : decode cL_law 192 = .ok (.aload_n 0, 1) := by decide +kernel
theorem dL_law_193 : decode cL_law 193 = .ok (.iload_n 3, 1) := by decide +kernel
theorem dL_law_194 : decode cL_law 194 = .ok (.iconst 3, 1) := by decide +kernel
theorem dL_law_195 : decode cL_law 195 = .ok (.iadd, 1) := by decide +kernel
theorem dL_law_196 : decode cL_law 196 = .ok (.iaload, 1) := by decide +kernel
theorem dL_law_197 : decode cL_law 197 = .ok (.aload_n 0, 1) := by decide +kernel
theorem dL_law_198 : decode cL_law 198 = .ok (.iload_n 3, 1) := by decide +kernel
theorem dL_law_199 : decode cL_law 199 = .ok (.iconst 4, 1) := by decide +kernel
theorem dL_law_200 : decode cL_law 200 = .ok (.iadd, 1) := by decide +kernel
theorem dL_law_201 : decode cL_law 201 = .ok (.iaload, 1) := by decide +kernel
theorem dL_law_202 : decode cL_law 202 = .ok (.aload_n 0, 1) := by decide +kernel
theorem dL_law_203 : decode cL_law 203 = .ok (.iload_n 3, 1) := by decide +kernel
theorem dL_law_204 : decode cL_law 204 = .ok (.iconst 5, 1) := by decide +kernel
theorem dL_law_205 : decode cL_law 205 = .ok (.iadd, 1) := by decide +kernel
theorem dL_law_206 : decode cL_law 206 = .ok (.iaload, 1) := by decide +kernel
theorem dL_law_207 : decode cL_law 207 = .ok (.invokevirtual 17, 3) := by decide +kernel
theorem dL_law_210 : decode cL_law 210 = .ok (.if_icmp .eq 552, 3) := by decide +kernel
theorem dL_law_213 : decode cL_law 213 = .ok (.iconst 0, 1) := by decide +kernel
theorem dL_law_214 : decode cL_law 214 = .ok (.ireturn, 1) := by decide +kernel
theorem dL_law_215 : decode cL_law 215 = .ok (.aload_n 1, 1) := by decide +kernel
theorem dL_law_216 : decode cL_law 216 = .ok (.aload_n 0, 1) := by decide +kernel
theorem dL_law_217 : decode cL_law 217 = .ok (.iload_n 3, 1) := by decide +kernel
theorem dL_law_218 : decode cL_law 218 = .ok (.iconst 1, 1) := by decide +kernel
theorem dL_law_219 : decode cL_law 219 = .ok (.iadd, 1) := by decide +kernel
theorem dL_law_220 : decode cL_law 220 = .ok (.iaload, 1) := by decide +kernel
theorem dL_law_221 : decode cL_law 221 = .ok (.invokevirtual 18, 3) := by decide +kernel
theorem dL_law_224 : decode cL_law 224 = .ok (.aload_n 2, 1) := by decide +kernel
theorem dL_law_225 : decode cL_law 225 = .ok (.aload_n 0, 1) := by decide +kernel
theorem dL_law_226 : decode cL_law 226 = .ok (.iload_n 3, 1) := by decide +kernel
theorem dL_law_227 : decode cL_law 227 = .ok (.iconst 1, 1) := by decide +kernel
theorem dL_law_228 : decode cL_law 228 = .ok (.iadd, 1) := by decide +kernel
theorem dL_law_229 : decode cL_law 229 = .ok (.iaload, 1) := by decide +kernel
theorem dL_law_230 : decode cL_law 230 = .ok (.invokevirtual 22, 3) := by decide +kernel
theorem dL_law_233 : decode cL_law 233 = .ok (.if_icmp .eq 529, 3) := by decide +kernel
theorem dL_law_236 : decode cL_law 236 = .ok (.iconst 0, 1) := by decide +kernel
theorem dL_law_237 : decode cL_law 237 = .ok (.ireturn, 1) := by decide +kernel
theorem dL_law_238 : decode cL_law 238 = .ok (.aload_n 1, 1) := by decide +kernel
theorem dL_law_239 : decode cL_law 239 = .ok (.invokevirtual 23, 3) := by decide +kernel
theorem dL_law_242 : decode cL_law 242 = .ok (.aload_n 2, 1) := by decide +kernel
theorem dL_law_243 : decode cL_law 243 = .ok (.invokevirtual 27, 3) := by decide +kernel
theorem dL_law_246 : decode cL_law 246 = .ok (.if_icmp .eq 516, 3) := by decide +kernel
theorem dL_law_249 : decode cL_law 249 = .ok (.iconst 0, 1) := by decide +kernel
theorem dL_law_250 : decode cL_law 250 = .ok (.ireturn, 1) := by decide +kernel
theorem dL_law_251 : decode cL_law 251 = .ok (.aload_n 1, 1) := by decide +kernel
theorem dL_law_252 : decode cL_law 252 = .ok (.aload_n 0, 1) := by decide +kernel
theorem dL_law_253 : decode cL_law 253 = .ok (.iload_n 3, 1) := by decide +kernel
theorem dL_law_254 : decode cL_law 254 = .ok (.iconst 1, 1) := by decide +kernel
theorem dL_law_255 : decode cL_law 255 = .ok (.iadd, 1) := by decide +kernel
theorem dL_law_256 : decode cL_law 256 = .ok (.iaload, 1) := by decide +kernel
theorem dL_law_257 : decode cL_law 257 = .ok (.invokevirtual 28, 3) := by decide +kernel
theorem dL_law_260 : decode cL_law 260 = .ok (.aload_n 2, 1) := by decide +kernel
theorem dL_law_261 : decode cL_law 261 = .ok (.aload_n 0, 1) := by decide +kernel
theorem dL_law_262 : decode cL_law 262 = .ok (.iload_n 3, 1) := by decide +kernel
theorem dL_law_263 : decode cL_law 263 = .ok (.iconst 1, 1) := by decide +kernel
theorem dL_law_264 : decode cL_law 264 = .ok (.iadd, 1) := by decide +kernel
theorem dL_law_265 : decode cL_law 265 = .ok (.iaload, 1) := by decide +kernel
theorem dL_law_266 : decode cL_law 266 = .ok (.invokevirtual 32, 3) := by decide +kernel
theorem dL_law_269 : decode cL_law 269 = .ok (.if_icmp .eq 493, 3) := by decide +kernel
theorem dL_law_272 : decode cL_law 272 = .ok (.iconst 0, 1) := by decide +kernel
theorem dL_law_273 : decode cL_law 273 = .ok (.ireturn, 1) := by decide +kernel
theorem dL_law_274 : decode cL_law 274 = .ok (.aload_n 1, 1) := by decide +kernel
theorem dL_law_275 : decode cL_law 275 = .ok (.aload_n 0, 1) := by decide +kernel
theorem dL_law_276 : decode cL_law 276 = .ok (.iload_n 3, 1) := by decide +kernel
theorem dL_law_277 : decode cL_law 277 = .ok (.iconst 1, 1) := by decide +kernel
theorem dL_law_278 : decode cL_law 278 = .ok (.iadd, 1) := by decide +kernel
theorem dL_law_279 : decode cL_law 279 = .ok (.iaload, 1) := by decide +kernel
theorem dL_law_280 : decode cL_law 280 = .ok (.aload_n 0, 1) := by decide +kernel
theorem dL_law_281 : decode cL_law 281 = .ok (.iload_n 3, 1) := by decide +kernel
theorem dL_law_282 : decode cL_law 282 = .ok (.iconst 2, 1) := by decide +kernel
theorem dL_law_283 : decode cL_law 283 = .ok (.iadd, 1) := by decide +kernel
theorem dL_law_284 : decode cL_law 284 = .ok (.iaload, 1) := by decide +kernel
theorem dL_law_285 : decode cL_law 285 = .ok (.invokevirtual 33, 3) := by decide +kernel
theorem dL_law_288 : decode cL_law 288 = .ok (.aload_n 2, 1) := by decide +kernel
theorem dL_law_289 : decode cL_law 289 = .ok (.aload_n 0, 1) := by decide +kernel
theorem dL_law_290 : decode cL_law 290 = .ok (.iload_n 3, 1) := by decide +kernel
theorem dL_law_291 : decode cL_law 291 = .ok (.iconst 1, 1) := by decide +kernel
theorem dL_law_292 : decode cL_law 292 = .ok (.iadd, 1) := by decide +kernel
theorem dL_law_293 : decode cL_law 293 = .ok (.iaload, 1) := by decide +kernel
theorem dL_law_294 : decode cL_law 294 = .ok (.aload_n 0, 1) := by decide +kernel
theorem dL_law_295 : decode cL_law 295 = .ok (.iload_n 3, 1) := by decide +kernel
theorem dL_law_296 : decode cL_law 296 = .ok (.iconst 2, 1) := by decide +kernel
theorem dL_law_297 : decode cL_law 297 = .ok (.iadd, 1) := by decide +kernel
theorem dL_law_298 : decode cL_law 298 = .ok (.iaload, 1) := by decide +kernel
theorem dL_law_299 : decode cL_law 299 = .ok (.invokevirtual 37, 3) := by decide +kernel
theorem dL_law_302 : decode cL_law 302 = .ok (.if_icmp .eq 460, 3) := by decide +kernel
theorem dL_law_305 : decode cL_law 305 = .ok (.iconst 0, 1) := by decide +kernel
theorem dL_law_306 : decode cL_law 306 = .ok (.ireturn, 1) := by decide +kernel
theorem dL_law_307 : decode cL_law 307 = .ok (.aload_n 1, 1) := by decide +kernel
theorem dL_law_308 : decode cL_law 308 = .ok (.aload_n 0, 1) := by decide +kernel
theorem dL_law_309 : decode cL_law 309 = .ok (.iload_n 3, 1) := by decide +kernel
theorem dL_law_310 : decode cL_law 310 = .ok (.iconst 1, 1) := by decide +kernel
theorem dL_law_311 : decode cL_law 311 = .ok (.iadd, 1) := by decide +kernel
theorem dL_law_312 : decode cL_law 312 = .ok (.iaload, 1) := by decide +kernel
theorem dL_law_313 : decode cL_law 313 = .ok (.invokevirtual 38, 3) := by decide +kernel
theorem dL_law_316 : decode cL_law 316 = .ok (.aload_n 2, 1) := by decide +kernel
theorem dL_law_317 : decode cL_law 317 = .ok (.aload_n 0, 1) := by decide +kernel
theorem dL_law_318 : decode cL_law 318 = .ok (.iload_n 3, 1) := by decide +kernel
theorem dL_law_319 : decode cL_law 319 = .ok (.iconst 1, 1) := by decide +kernel
theorem dL_law_320 : decode cL_law 320 = .ok (.iadd, 1) := by decide +kernel
theorem dL_law_321 : decode cL_law 321 = .ok (.iaload, 1) := by decide +kernel
theorem dL_law_322 : decode cL_law 322 = .ok (.invokevirtual 41, 3) := by decide +kernel
theorem dL_law_325 : decode cL_law 325 = .ok (.if_icmp .eq 437, 3) := by decide +kernel
theorem dL_law_328 : decode cL_law 328 = .ok (.iconst 0, 1) := by decide +kernel
theorem dL_law_329 : decode cL_law 329 = .ok (.ireturn, 1) := by decide +kernel
theorem dL_law_330 : decode cL_law 330 = .ok (.aload_n 1, 1) := by decide +kernel
theorem dL_law_331 : decode cL_law 331 = .ok (.aload_n 0, 1) := by decide +kernel
theorem dL_law_332 : decode cL_law 332 = .ok (.iload_n 3, 1) := by decide +kernel
theorem dL_law_333 : decode cL_law 333 = .ok (.iconst 1, 1) := by decide +kernel
theorem dL_law_334 : decode cL_law 334 = .ok (.iadd, 1) := by decide +kernel
theorem dL_law_335 : decode cL_law 335 = .ok (.iaload, 1) := by decide +kernel
theorem dL_law_336 : decode cL_law 336 = .ok (.aload_n 0, 1) := by decide +kernel
theorem dL_law_337 : decode cL_law 337 = .ok (.iload_n 3, 1) := by decide +kernel
theorem dL_law_338 : decode cL_law 338 = .ok (.iconst 2, 1) := by decide +kernel
theorem dL_law_339 : decode cL_law 339 = .ok (.iadd, 1) := by decide +kernel
theorem dL_law_340 : decode cL_law 340 = .ok (.iaload, 1) := by decide +kernel
theorem dL_law_341 : decode cL_law 341 = .ok (.invokevirtual 42, 3) := by decide +kernel
theorem dL_law_344 : decode cL_law 344 = .ok (.aload_n 2, 1) := by decide +kernel
theorem dL_law_345 : decode cL_law 345 = .ok (.aload_n 0, 1) := by decide +kernel
theorem dL_law_346 : decode cL_law 346 = .ok (.iload_n 3, 1) := by decide +kernel
theorem dL_law_347 : decode cL_law 347 = .ok (.iconst 1, 1) := by decide +kernel
theorem dL_law_348 : decode cL_law 348 = .ok (.iadd, 1) := by decide +kernel
theorem dL_law_349 : decode cL_law 349 = .ok (.iaload, 1) := by decide +kernel
theorem dL_law_350 : decode cL_law 350 = .ok (.aload_n 0, 1) := by decide +kernel
theorem dL_law_351 : decode cL_law 351 = .ok (.iload_n 3, 1) := by decide +kernel
theorem dL_law_352 : decode cL_law 352 = .ok (.iconst 2, 1) := by decide +kernel
theorem dL_law_353 : decode cL_law 353 = .ok (.iadd, 1) := by decide +kernel
theorem dL_law_354 : decode cL_law 354 = .ok (.iaload, 1) := by decide +kernel
theorem dL_law_355 : decode cL_law 355 = .ok (.invokevirtual 46, 3) := by decide +kernel
theorem dL_law_358 : decode cL_law 358 = .ok (.if_icmp .eq 404, 3) := by decide +kernel
theorem dL_law_361 : decode cL_law 361 = .ok (.iconst 0, 1) := by decide +kernel
theorem dL_law_362 : decode cL_law 362 = .ok (.ireturn, 1) := by decide +kernel
theorem dL_law_363 : decode cL_law 363 = .ok (.aload_n 1, 1) := by decide +kernel
theorem dL_law_364 : decode cL_law 364 = .ok (.invokevirtual 47, 3) := by decide +kernel
theorem dL_law_367 : decode cL_law 367 = .ok (.aload_n 2, 1) := by decide +kernel
theorem dL_law_368 : decode cL_law 368 = .ok (.invokevirtual 50, 3) := by decide +kernel
theorem dL_law_371 : decode cL_law 371 = .ok (.if_icmp .eq 391, 3) := by decide +kernel
theorem dL_law_374 : decode cL_law 374 = .ok (.iconst 0, 1) := by decide +kernel
theorem dL_law_375 : decode cL_law 375 = .ok (.ireturn, 1) := by decide +kernel
theorem dL_law_376 : decode cL_law 376 = .ok (.aload_n 1, 1) := by decide +kernel
theorem dL_law_377 : decode cL_law 377 = .ok (.invokevirtual 51, 3) := by decide +kernel
theorem dL_law_380 : decode cL_law 380 = .ok (.aload_n 2, 1) := by decide +kernel
theorem dL_law_381 : decode cL_law 381 = .ok (.invokevirtual 54, 3) := by decide +kernel
theorem dL_law_384 : decode cL_law 384 = .ok (.if_icmp .eq 378, 3) := by decide +kernel
theorem dL_law_387 : decode cL_law 387 = .ok (.iconst 0, 1) := by decide +kernel
theorem dL_law_388 : decode cL_law 388 = .ok (.ireturn, 1) := by decide +kernel
theorem dL_law_389 : decode cL_law 389 = .ok (.aload_n 1, 1) := by decide +kernel
theorem dL_law_390 : decode cL_law 390 = .ok (.aload_n 0, 1) := by decide +kernel
theorem dL_law_391 : decode cL_law 391 = .ok (.iload_n 3, 1) := by decide +kernel
theorem dL_law_392 : decode cL_law 392 = .ok (.iconst 1, 1) := by decide +kernel
theorem dL_law_393 : decode cL_law 393 = .ok (.iadd, 1) := by decide +kernel
theorem dL_law_394 : decode cL_law 394 = .ok (.iaload, 1) := by decide +kernel
theorem dL_law_395 : decode cL_law 395 = .ok (.invokevirtual 55, 3) := by decide +kernel
theorem dL_law_398 : decode cL_law 398 = .ok (.aload_n 2, 1) := by decide +kernel
theorem dL_law_399 : decode cL_law 399 = .ok (.aload_n 0, 1) := by decide +kernel
theorem dL_law_400 : decode cL_law 400 = .ok (.iload_n 3, 1) := by decide +kernel
theorem dL_law_401 : decode cL_law 401 = .ok (.iconst 1, 1) := by decide +kernel
theorem dL_law_402 : decode cL_law 402 = .ok (.iadd, 1) := by decide +kernel
theorem dL_law_403 : decode cL_law 403 = .ok (.iaload, 1) := by decide +kernel
theorem dL_law_404 : decode cL_law 404 = .ok (.invokevirtual 58, 3) := by decide +kernel
theorem dL_law_407 : decode cL_law 407 = .ok (.if_icmp .eq 355, 3) := by decide +kernel
theorem dL_law_410 : decode cL_law 410 = .ok (.iconst 0, 1) := by decide +kernel
theorem dL_law_411 : decode cL_law 411 = .ok (.ireturn, 1) := by decide +kernel
theorem dL_law_412 : decode cL_law 412 = .ok (.aload_n 1, 1) := by decide +kernel
theorem dL_law_413 : decode cL_law 413 = .ok (.aload_n 0, 1) := by decide +kernel
theorem dL_law_414 : decode cL_law 414 = .ok (.iload_n 3, 1) := by decide +kernel
theorem dL_law_415 : decode cL_law 415 = .ok (.iconst 1, 1) := by decide +kernel
theorem dL_law_416 : decode cL_law 416 = .ok (.iadd, 1) := by decide +kernel
theorem dL_law_417 : decode cL_law 417 = .ok (.iaload, 1) := by decide +kernel
theorem dL_law_418 : decode cL_law 418 = .ok (.invokevirtual 59, 3) := by decide +kernel
theorem dL_law_421 : decode cL_law 421 = .ok (.aload_n 2, 1) := by decide +kernel
theorem dL_law_422 : decode cL_law 422 = .ok (.aload_n 0, 1) := by decide +kernel
theorem dL_law_423 : decode cL_law 423 = .ok (.iload_n 3, 1) := by decide +kernel
theorem dL_law_424 : decode cL_law 424 = .ok (.iconst 1, 1) := by decide +kernel
theorem dL_law_425 : decode cL_law 425 = .ok (.iadd, 1) := by decide +kernel
theorem dL_law_426 : decode cL_law 426 = .ok (.iaload, 1) := by decide +kernel
theorem dL_law_427 : decode cL_law 427 = .ok (.invokevirtual 62, 3) := by decide +kernel
theorem dL_law_430 : decode cL_law 430 = .ok (.if_icmp .eq 332, 3) := by decide +kernel
theorem dL_law_433 : decode cL_law 433 = .ok (.iconst 0, 1) := by decide +kernel
theorem dL_law_434 : decode cL_law 434 = .ok (.ireturn, 1) := by decide +kernel
theorem dL_law_435 : decode cL_law 435 = .ok (.aload_n 1, 1) := by decide +kernel
theorem dL_law_436 : decode cL_law 436 = .ok (.aload_n 0, 1) := by decide +kernel
theorem dL_law_437 : decode cL_law 437 = .ok (.iload_n 3, 1) := by decide +kernel
theorem dL_law_438 : decode cL_law 438 = .ok (.iconst 1, 1) := by decide +kernel
theorem dL_law_439 : decode cL_law 439 = .ok (.iadd, 1) := by decide +kernel
theorem dL_law_440 : decode cL_law 440 = .ok (.iaload, 1) := by decide +kernel
theorem dL_law_441 : decode cL_law 441 = .ok (.aload_n 0, 1) := by decide +kernel
theorem dL_law_442 : decode cL_law 442 = .ok (.iload_n 3, 1) := by decide +kernel
theorem dL_law_443 : decode cL_law 443 = .ok (.iconst 2, 1) := by decide +kernel
theorem dL_law_444 : decode cL_law 444 = .ok (.iadd, 1) := by decide +kernel
theorem dL_law_445 : decode cL_law 445 = .ok (.iaload, 1) := by decide +kernel
theorem dL_law_446 : decode cL_law 446 = .ok (.invokevirtual 63, 3) := by decide +kernel
theorem dL_law_449 : decode cL_law 449 = .ok (.aload_n 2, 1) := by decide +kernel
theorem dL_law_450 : decode cL_law 450 = .ok (.aload_n 0, 1) := by decide +kernel
theorem dL_law_451 : decode cL_law 451 = .ok (.iload_n 3, 1) := by decide +kernel
theorem dL_law_452 : decode cL_law 452 = .ok (.iconst 1, 1) := by decide +kernel
theorem dL_law_453 : decode cL_law 453 = .ok (.iadd, 1) := by decide +kernel
theorem dL_law_454 : decode cL_law 454 = .ok (.iaload, 1) := by decide +kernel
theorem dL_law_455 : decode cL_law 455 = .ok (.aload_n 0, 1) := by decide +kernel
theorem dL_law_456 : decode cL_law 456 = .ok (.iload_n 3, 1) := by decide +kernel
theorem dL_law_457 : decode cL_law 457 = .ok (.iconst 2, 1) := by decide +kernel
theorem dL_law_458 : decode cL_law 458 = .ok (.iadd, 1) := by decide +kernel
theorem dL_law_459 : decode cL_law 459 = .ok (.iaload, 1) := by decide +kernel
theorem dL_law_460 : decode cL_law 460 = .ok (.invokevirtual 66, 3) := by decide +kernel
theorem dL_law_463 : decode cL_law 463 = .ok (.if_icmp .eq 299, 3) := by decide +kernel
theorem dL_law_466 : decode cL_law 466 = .ok (.iconst 0, 1) := by decide +kernel
theorem dL_law_467 : decode cL_law 467 = .ok (.ireturn, 1) := by decide +kernel
theorem dL_law_468 : decode cL_law 468 = .ok (.aload_n 1, 1) := by decide +kernel
theorem dL_law_469 : decode cL_law 469 = .ok (.aload_n 0, 1) := by decide +kernel
theorem dL_law_470 : decode cL_law 470 = .ok (.iload_n 3, 1) := by decide +kernel
theorem dL_law_471 : decode cL_law 471 = .ok (.iconst 1, 1) := by decide +kernel
theorem dL_law_472 : decode cL_law 472 = .ok (.iadd, 1) := by decide +kernel
theorem dL_law_473 : decode cL_law 473 = .ok (.iaload, 1) := by decide +kernel
theorem dL_law_474 : decode cL_law 474 = .ok (.invokevirtual 67, 3) := by decide +kernel
theorem dL_law_477 : decode cL_law 477 = .ok (.aload_n 2, 1) := by decide +kernel
theorem dL_law_478 : decode cL_law 478 = .ok (.aload_n 0, 1) := by decide +kernel
theorem dL_law_479 : decode cL_law 479 = .ok (.iload_n 3, 1) := by decide +kernel
theorem dL_law_480 : decode cL_law 480 = .ok (.iconst 1, 1) := by decide +kernel
theorem dL_law_481 : decode cL_law 481 = .ok (.iadd, 1) := by decide +kernel
theorem dL_law_482 : decode cL_law 482 = .ok (.iaload, 1) := by decide +kernel
theorem dL_law_483 : decode cL_law 483 = .ok (.invokevirtual 70, 3) := by decide +kernel
theorem dL_law_486 : decode cL_law 486 = .ok (.if_icmp .eq 276, 3) := by decide +kernel
theorem dL_law_489 : decode cL_law 489 = .ok (.iconst 0, 1) := by decide +kernel
theorem dL_law_490 : decode cL_law 490 = .ok (.ireturn, 1) := by decide +kernel
theorem dL_law_491 : decode cL_law 491 = .ok (.aload_n 1, 1) := by decide +kernel
theorem dL_law_492 : decode cL_law 492 = .ok (.invokevirtual 71, 3) := by decide +kernel
theorem dL_law_495 : decode cL_law 495 = .ok (.aload_n 2, 1) := by decide +kernel
theorem dL_law_496 : decode cL_law 496 = .ok (.invokevirtual 74, 3) := by decide +kernel
theorem dL_law_499 : decode cL_law 499 = .ok (.if_icmp .eq 263, 3) := by decide +kernel
theorem dL_law_502 : decode cL_law 502 = .ok (.iconst 0, 1) := by decide +kernel
theorem dL_law_503 : decode cL_law 503 = .ok (.ireturn, 1) := by decide +kernel
theorem dL_law_504 : decode cL_law 504 = .ok (.aload_n 1, 1) := by decide +kernel
theorem dL_law_505 : decode cL_law 505 = .ok (.aload_n 0, 1) := by decide +kernel
theorem dL_law_506 : decode cL_law 506 = .ok (.iload_n 3, 1) := by decide +kernel
theorem dL_law_507 : decode cL_law 507 = .ok (.iconst 1, 1) := by decide +kernel
theorem dL_law_508 : decode cL_law 508 = .ok (.iadd, 1) := by decide +kernel
theorem dL_law_509 : decode cL_law 509 = .ok (.iaload, 1) := by decide +kernel
theorem dL_law_510 : decode cL_law 510 = .ok (.invokevirtual 75, 3) := by decide +kernel
theorem dL_law_513 : decode cL_law 513 = .ok (.aload_n 2, 1) := by decide +kernel
theorem dL_law_514 : decode cL_law 514 = .ok (.aload_n 0, 1) := by decide +kernel
theorem dL_law_515 : decode cL_law 515 = .ok (.iload_n 3, 1) := by decide +kernel
theorem dL_law_516 : decode cL_law 516 = .ok (.iconst 1, 1) := by decide +kernel
theorem dL_law_517 : decode cL_law 517 = .ok (.iadd, 1) := by decide +kernel
theorem dL_law_518 : decode cL_law 518 = .ok (.iaload, 1) := by decide +kernel
theorem dL_law_519 : decode cL_law 519 = .ok (.invokevirtual 78, 3) := by decide +kernel
theorem dL_law_522 : decode cL_law 522 = .ok (.if_icmp .eq 240, 3) := by decide +kernel
theorem dL_law_525 : decode cL_law 525 = .ok (.iconst 0, 1) := by decide +kernel
theorem dL_law_526 : decode cL_law 526 = .ok (.ireturn, 1) := by decide +kernel
theorem dL_law_527 : decode cL_law 527 = .ok (.aload_n 1, 1) := by decide +kernel
theorem dL_law_528 : decode cL_law 528 = .ok (.aload_n 0, 1) := by decide +kernel
theorem dL_law_529 : decode cL_law 529 = .ok (.iload_n 3, 1) := by decide +kernel
theorem dL_law_530 : decode cL_law 530 = .ok (.iconst 1, 1) := by decide +kernel
theorem dL_law_531 : decode cL_law 531 = .ok (.iadd, 1) := by decide +kernel
theorem dL_law_532 : decode cL_law 532 = .ok (.iaload, 1) := by decide +kernel
theorem dL_law_533 : decode cL_law 533 = .ok (.invokevirtual 79, 3) := by decide +kernel
theorem dL_law_536 : decode cL_law 536 = .ok (.aload_n 2, 1) := by decide +kernel
theorem dL_law_537 : decode cL_law 537 = .ok (.aload_n 0, 1) := by decide +kernel
theorem dL_law_538 : decode cL_law 538 = .ok (.iload_n 3, 1) := by decide +kernel
theorem dL_law_539 : decode cL_law 539 = .ok (.iconst 1, 1) := by decide +kernel
theorem dL_law_540 : decode cL_law 540 = .ok (.iadd, 1) := by decide +kernel
theorem dL_law_541 : decode cL_law 541 = .ok (.iaload, 1) := by decide +kernel
theorem dL_law_542 : decode cL_law 542 = .ok (.invokevirtual 82, 3) := by decide +kernel
theorem dL_law_545 : decode cL_law 545 = .ok (.if_icmp .eq 217, 3) := by decide +kernel
theorem dL_law_548 : decode cL_law 548 = .ok (.iconst 0, 1) := by decide +kernel
theorem dL_law_549 : decode cL_law 549 = .ok (.ireturn, 1) := by decide +kernel
theorem dL_law_550 : decode cL_law 550 = .ok (.aload_n 1, 1) := by decide +kernel
theorem dL_law_551 : decode cL_law 551 = .ok (.invokevirtual 83, 3) := by decide +kernel
theorem dL_law_554 : decode cL_law 554 = .ok (.aload_n 2, 1) := by decide +kernel
theorem dL_law_555 : decode cL_law 555 = .ok (.invokevirtual 86, 3) := by decide +kernel
theorem dL_law_558 : decode cL_law 558 = .ok (.if_icmp .eq 204, 3) := by decide +kernel
theorem dL_law_561 : decode cL_law 561 = .ok (.iconst 0, 1) := by decide +kernel
theorem dL_law_562 : decode cL_law 562 = .ok (.ireturn, 1) := by decide +kernel
theorem dL_law_563 : decode cL_law 563 = .ok (.aload_n 1, 1) := by decide +kernel
theorem dL_law_564 : decode cL_law 564 = .ok (.invokevirtual 87, 3) := by decide +kernel
theorem dL_law_567 : decode cL_law 567 = .ok (.aload_n 2, 1) := by decide +kernel
theorem dL_law_568 : decode cL_law 568 = .ok (.invokevirtual 90, 3) := by decide +kernel
theorem dL_law_571 : decode cL_law 571 = .ok (.if_icmp .eq 191, 3) := by decide +kernel
theorem dL_law_574 : decode cL_law 574 = .ok (.iconst 0, 1) := by decide +kernel
theorem dL_law_575 : decode cL_law 575 = .ok (.ireturn, 1) := by decide +kernel
theorem dL_law_576 : decode cL_law 576 = .ok (.aload_n 1, 1) := by decide +kernel
theorem dL_law_577 : decode cL_law 577 = .ok (.aload_n 0, 1) := by decide +kernel
theorem dL_law_578 : decode cL_law 578 = .ok (.iload_n 3, 1) := by decide +kernel
theorem dL_law_579 : decode cL_law 579 = .ok (.iconst 1, 1) := by decide +kernel
theorem dL_law_580 : decode cL_law 580 = .ok (.iadd, 1) := by decide +kernel
theorem dL_law_581 : decode cL_law 581 = .ok (.iaload, 1) := by decide +kernel
theorem dL_law_582 : decode cL_law 582 = .ok (.aload_n 0, 1) := by decide +kernel
theorem dL_law_583 : decode cL_law 583 = .ok (.iload_n 3, 1) := by decide +kernel
theorem dL_law_584 : decode cL_law 584 = .ok (.iconst 2, 1) := by decide +kernel
theorem dL_law_585 : decode cL_law 585 = .ok (.iadd, 1) := by decide +kernel
theorem dL_law_586 : decode cL_law 586 = .ok (.iaload, 1) := by decide +kernel
theorem dL_law_587 : decode cL_law 587 = .ok (.invokevirtual 91, 3) := by decide +kernel
theorem dL_law_590 : decode cL_law 590 = .ok (.aload_n 2, 1) := by decide +kernel
theorem dL_law_591 : decode cL_law 591 = .ok (.aload_n 0, 1) := by decide +kernel
theorem dL_law_592 : decode cL_law 592 = .ok (.iload_n 3, 1) := by decide +kernel
theorem dL_law_593 : decode cL_law 593 = .ok (.iconst 1, 1) := by decide +kernel
theorem dL_law_594 : decode cL_law 594 = .ok (.iadd, 1) := by decide +kernel
theorem dL_law_595 : decode cL_law 595 = .ok (.iaload, 1) := by decide +kernel
theorem dL_law_596 : decode cL_law 596 = .ok (.aload_n 0, 1) := by decide +kernel
theorem dL_law_597 : decode cL_law 597 = .ok (.iload_n 3, 1) := by decide +kernel
theorem dL_law_598 : decode cL_law 598 = .ok (.iconst 2, 1) := by decide +kernel
theorem dL_law_599 : decode cL_law 599 = .ok (.iadd, 1) := by decide +kernel
theorem dL_law_600 : decode cL_law 600 = .ok (.iaload, 1) := by decide +kernel
theorem dL_law_601 : decode cL_law 601 = .ok (.invokevirtual 94, 3) := by decide +kernel
theorem dL_law_604 : decode cL_law 604 = .ok (.if_icmp .eq 158, 3) := by decide +kernel
theorem dL_law_607 : decode cL_law 607 = .ok (.iconst 0, 1) := by decide +kernel
theorem dL_law_608 : decode cL_law 608 = .ok (.ireturn, 1) := by decide +kernel
theorem dL_law_609 : decode cL_law 609 = .ok (.aload_n 1, 1) := by decide +kernel
theorem dL_law_610 : decode cL_law 610 = .ok (.invokevirtual 95, 3) := by decide +kernel
theorem dL_law_613 : decode cL_law 613 = .ok (.aload_n 2, 1) := by decide +kernel
theorem dL_law_614 : decode cL_law 614 = .ok (.invokevirtual 98, 3) := by decide +kernel
theorem dL_law_617 : decode cL_law 617 = .ok (.if_icmp .eq 145, 3) := by decide +kernel
theorem dL_law_620 : decode cL_law 620 = .ok (.iconst 0, 1) := by decide +kernel
theorem dL_law_621 : decode cL_law 621 = .ok (.ireturn, 1) := by decide +kernel
theorem dL_law_622 : decode cL_law 622 = .ok (.aload_n 1, 1) := by decide +kernel
theorem dL_law_623 : decode cL_law 623 = .ok (.aload_n 0, 1) := by decide +kernel
theorem dL_law_624 : decode cL_law 624 = .ok (.iload_n 3, 1) := by decide +kernel
theorem dL_law_625 : decode cL_law 625 = .ok (.iconst 1, 1) := by decide +kernel
theorem dL_law_626 : decode cL_law 626 = .ok (.iadd, 1) := by decide +kernel
theorem dL_law_627 : decode cL_law 627 = .ok (.iaload, 1) := by decide +kernel
theorem dL_law_628 : decode cL_law 628 = .ok (.invokevirtual 99, 3) := by decide +kernel
theorem dL_law_631 : decode cL_law 631 = .ok (.aload_n 2, 1) := by decide +kernel
theorem dL_law_632 : decode cL_law 632 = .ok (.aload_n 0, 1) := by decide +kernel
theorem dL_law_633 : decode cL_law 633 = .ok (.iload_n 3, 1) := by decide +kernel
theorem dL_law_634 : decode cL_law 634 = .ok (.iconst 1, 1) := by decide +kernel
theorem dL_law_635 : decode cL_law 635 = .ok (.iadd, 1) := by decide +kernel
theorem dL_law_636 : decode cL_law 636 = .ok (.iaload, 1) := by decide +kernel
theorem dL_law_637 : decode cL_law 637 = .ok (.invokevirtual 102, 3) := by decide +kernel
theorem dL_law_640 : decode cL_law 640 = .ok (.if_icmp .eq 122, 3) := by decide +kernel
theorem dL_law_643 : decode cL_law 643 = .ok (.iconst 0, 1) := by decide +kernel
theorem dL_law_644 : decode cL_law 644 = .ok (.ireturn, 1) := by decide +kernel
theorem dL_law_645 : decode cL_law 645 = .ok (.aload_n 1, 1) := by decide +kernel
theorem dL_law_646 : decode cL_law 646 = .ok (.aload_n 0, 1) := by decide +kernel
theorem dL_law_647 : decode cL_law 647 = .ok (.iload_n 3, 1) := by decide +kernel
theorem dL_law_648 : decode cL_law 648 = .ok (.iconst 1, 1) := by decide +kernel
theorem dL_law_649 : decode cL_law 649 = .ok (.iadd, 1) := by decide +kernel
theorem dL_law_650 : decode cL_law 650 = .ok (.iaload, 1) := by decide +kernel
theorem dL_law_651 : decode cL_law 651 = .ok (.invokevirtual 103, 3) := by decide +kernel
theorem dL_law_654 : decode cL_law 654 = .ok (.aload_n 2, 1) := by decide +kernel
theorem dL_law_655 : decode cL_law 655 = .ok (.aload_n 0, 1) := by decide +kernel
theorem dL_law_656 : decode cL_law 656 = .ok (.iload_n 3, 1) := by decide +kernel
theorem dL_law_657 : decode cL_law 657 = .ok (.iconst 1, 1) := by decide +kernel
theorem dL_law_658 : decode cL_law 658 = .ok (.iadd, 1) := by decide +kernel
theorem dL_law_659 : decode cL_law 659 = .ok (.iaload, 1) := by decide +kernel
theorem dL_law_660 : decode cL_law 660 = .ok (.invokevirtual 107, 3) := by decide +kernel
theorem dL_law_663 : decode cL_law 663 = .ok (.lcmp, 1) := by decide +kernel
theorem dL_law_664 : decode cL_law 664 = .ok (.ifCond .eq 98, 3) := by decide +kernel
theorem dL_law_667 : decode cL_law 667 = .ok (.iconst 0, 1) := by decide +kernel
theorem dL_law_668 : decode cL_law 668 = .ok (.ireturn, 1) := by decide +kernel
theorem dL_law_669 : decode cL_law 669 = .ok (.aload_n 1, 1) := by decide +kernel
theorem dL_law_670 : decode cL_law 670 = .ok (.aload_n 0, 1) := by decide +kernel
theorem dL_law_671 : decode cL_law 671 = .ok (.iload_n 3, 1) := by decide +kernel
theorem dL_law_672 : decode cL_law 672 = .ok (.iconst 1, 1) := by decide +kernel
theorem dL_law_673 : decode cL_law 673 = .ok (.iadd, 1) := by decide +kernel
theorem dL_law_674 : decode cL_law 674 = .ok (.iaload, 1) := by decide +kernel
theorem dL_law_675 : decode cL_law 675 = .ok (.invokevirtual 108, 3) := by decide +kernel
theorem dL_law_678 : decode cL_law 678 = .ok (.aload_n 2, 1) := by decide +kernel
theorem dL_law_679 : decode cL_law 679 = .ok (.aload_n 0, 1) := by decide +kernel
theorem dL_law_680 : decode cL_law 680 = .ok (.iload_n 3, 1) := by decide +kernel
theorem dL_law_681 : decode cL_law 681 = .ok (.iconst 1, 1) := by decide +kernel
theorem dL_law_682 : decode cL_law 682 = .ok (.iadd, 1) := by decide +kernel
theorem dL_law_683 : decode cL_law 683 = .ok (.iaload, 1) := by decide +kernel
theorem dL_law_684 : decode cL_law 684 = .ok (.invokevirtual 111, 3) := by decide +kernel
theorem dL_law_687 : decode cL_law 687 = .ok (.lcmp, 1) := by decide +kernel
theorem dL_law_688 : decode cL_law 688 = .ok (.ifCond .eq 74, 3) := by decide +kernel
theorem dL_law_691 : decode cL_law 691 = .ok (.iconst 0, 1) := by decide +kernel
theorem dL_law_692 : decode cL_law 692 = .ok (.ireturn, 1) := by decide +kernel
theorem dL_law_693 : decode cL_law 693 = .ok (.aload_n 1, 1) := by decide +kernel
theorem dL_law_694 : decode cL_law 694 = .ok (.aload_n 0, 1) := by decide +kernel
theorem dL_law_695 : decode cL_law 695 = .ok (.iload_n 3, 1) := by decide +kernel
theorem dL_law_696 : decode cL_law 696 = .ok (.iconst 1, 1) := by decide +kernel
theorem dL_law_697 : decode cL_law 697 = .ok (.iadd, 1) := by decide +kernel
theorem dL_law_698 : decode cL_law 698 = .ok (.iaload, 1) := by decide +kernel
theorem dL_law_699 : decode cL_law 699 = .ok (.invokevirtual 112, 3) := by decide +kernel
theorem dL_law_702 : decode cL_law 702 = .ok (.aload_n 2, 1) := by decide +kernel
theorem dL_law_703 : decode cL_law 703 = .ok (.aload_n 0, 1) := by decide +kernel
theorem dL_law_704 : decode cL_law 704 = .ok (.iload_n 3, 1) := by decide +kernel
theorem dL_law_705 : decode cL_law 705 = .ok (.iconst 1, 1) := by decide +kernel
theorem dL_law_706 : decode cL_law 706 = .ok (.iadd, 1) := by decide +kernel
theorem dL_law_707 : decode cL_law 707 = .ok (.iaload, 1) := by decide +kernel
theorem dL_law_708 : decode cL_law 708 = .ok (.invokevirtual 115, 3) := by decide +kernel
theorem dL_law_711 : decode cL_law 711 = .ok (.if_icmp .eq 51, 3) := by decide +kernel
theorem dL_law_714 : decode cL_law 714 = .ok (.iconst 0, 1) := by decide +kernel
theorem dL_law_715 : decode cL_law 715 = .ok (.ireturn, 1) := by decide +kernel
theorem dL_law_716 : decode cL_law 716 = .ok (.aload_n 1, 1) := by decide +kernel
theorem dL_law_717 : decode cL_law 717 = .ok (.aload_n 0, 1) := by decide +kernel
