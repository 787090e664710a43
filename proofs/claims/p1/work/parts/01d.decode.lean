theorem dX12_clearBank_147 : decode cX12_clearBank 147 = .ok (.getfield 377, 3) := by decide +kernel
theorem dX12_clearBank_150 : decode cX12_clearBank 150 = .ok (.imul, 1) := by decide +kernel
theorem dX12_clearBank_151 : decode cX12_clearBank 151 = .ok (.istore_n 1, 1) := by decide +kernel
theorem dX12_clearBank_152 : decode cX12_clearBank 152 = .ok (.iload_n 1, 1) := by decide +kernel
theorem dX12_clearBank_153 : decode cX12_clearBank 153 = .ok (.bipush 60, 2) := by decide +kernel
theorem dX12_clearBank_155 : decode cX12_clearBank 155 = .ok (.aload_n 0, 1) := by decide +kernel
theorem dX12_clearBank_156 : decode cX12_clearBank 156 = .ok (.getfield 377, 3) := by decide +kernel
theorem dX12_clearBank_159 : decode cX12_clearBank 159 = .ok (.imul, 1) := by decide +kernel
theorem dX12_clearBank_160 : decode cX12_clearBank 160 = .ok (.bipush 60, 2) := by decide +kernel
theorem dX12_clearBank_162 : decode cX12_clearBank 162 = .ok (.iadd, 1) := by decide +kernel
theorem dX12_clearBank_163 : decode cX12_clearBank 163 = .ok (.if_icmp .ge 23, 3) := by decide +kernel
theorem dX12_clearBank_166 : decode cX12_clearBank 166 = .ok (.aload_n 0, 1) := by decide +kernel
theorem dX12_clearBank_167 : decode cX12_clearBank 167 = .ok (.getfield 74, 3) := by decide +kernel
theorem dX12_clearBank_170 : decode cX12_clearBank 170 = .ok (.iload_n 1, 1) := by decide +kernel
theorem dX12_clearBank_171 : decode cX12_clearBank 171 = .ok (.iconst 0, 1) := by decide +kernel
theorem dX12_clearBank_172 : decode cX12_clearBank 172 = .ok (.iastore, 1) := by decide +kernel
theorem dX12_clearBank_173 : decode cX12_clearBank 173 = .ok (.aload_n 0, 1) := by decide +kernel
theorem dX12_clearBank_174 : decode cX12_clearBank 174 = .ok (.getfield 77, 3) := by decide +kernel
theorem dX12_clearBank_177 : decode cX12_clearBank 177 = .ok (.iload_n 1, 1) := by decide +kernel
theorem dX12_clearBank_178 : decode cX12_clearBank 178 = .ok (.iconst (-1), 1) := by decide +kernel
theorem dX12_clearBank_179 : decode cX12_clearBank 179 = .ok (.iastore, 1) := by decide +kernel
theorem dX12_clearBank_180 : decode cX12_clearBank 180 = .ok (.iinc 1 1, 3) := by decide +kernel
theorem dX12_clearBank_183 : decode cX12_clearBank 183 = .ok (.goto (-31), 3) := by decide +kernel
theorem dX12_clearBank_186 : decode cX12_clearBank 186 = .ok (.sipush 240, 3) := by decide +kernel
theorem dX12_clearBank_189 : decode cX12_clearBank 189 = .ok (.aload_n 0, 1) := by decide +kernel
theorem dX12_clearBank_190 : decode cX12_clearBank 190 = .ok (.getfield 377, 3) := by decide +kernel
theorem dX12_clearBank_193 : decode cX12_clearBank 193 = .ok (.imul, 1) := by decide +kernel
theorem dX12_clearBank_194 : decode cX12_clearBank 194 = .ok (.istore_n 1, 1) := by decide +kernel
theorem dX12_clearBank_195 : decode cX12_clearBank 195 = .ok (.iload_n 1, 1) := by decide +kernel
theorem dX12_clearBank_196 : decode cX12_clearBank 196 = .ok (.sipush 240, 3) := by decide +kernel
theorem dX12_clearBank_199 : decode cX12_clearBank 199 = .ok (.aload_n 0, 1) := by decide +kernel
theorem dX12_clearBank_200 : decode cX12_clearBank 200 = .ok (.getfield 377, 3) := by decide +kernel
theorem dX12_clearBank_203 : decode cX12_clearBank 203 = .ok (.imul, 1) := by decide +kernel
theorem dX12_clearBank_204 : decode cX12_clearBank 204 = .ok (.sipush 240, 3) := by decide +kernel
theorem dX12_clearBank_207 : decode cX12_clearBank 207 = .ok (.iadd, 1) := by decide +kernel
theorem dX12_clearBank_208 : decode cX12_clearBank 208 = .ok (.if_icmp .ge 16, 3) := by decide +kernel
theorem dX12_clearBank_211 : decode cX12_clearBank 211 = .ok (.aload_n 0, 1) := by decide +kernel
theorem dX12_clearBank_212 : decode cX12_clearBank 212 = .ok (.getfield 49, 3) := by decide +kernel
theorem dX12_clearBank_215 : decode cX12_clearBank 215 = .ok (.iload_n 1, 1) := by decide +kernel
theorem dX12_clearBank_216 : decode cX12_clearBank 216 = .ok (.iconst 0, 1) := by decide +kernel
theorem dX12_clearBank_217 : decode cX12_clearBank 217 = .ok (.bastore, 1) := by decide +kernel
theorem dX12_clearBank_218 : decode cX12_clearBank 218 = .ok (.iinc 1 1, 3) := by decide +kernel
theorem dX12_clearBank_221 : decode cX12_clearBank 221 = .ok (.goto (-26), 3) := by decide +kernel
theorem dX12_clearBank_224 : decode cX12_clearBank 224 = .ok (.return_, 1) := by decide +kernel
theorem dX12_coast_0 : decode cX12_coast 0 = .ok (.bipush 10, 2) := by decide +kernel
theorem dX12_coast_2 : decode cX12_coast 2 = .ok (.iload_n 1, 1) := by decide +kernel
theorem dX12_coast_3 : decode cX12_coast 3 = .ok (.imul, 1) := by decide +kernel
theorem dX12_coast_4 : decode cX12_coast 4 = .ok (.istore_n 3, 1) := by decide +kernel
theorem dX12_coast_5 : decode cX12_coast 5 = .ok (.iload_n 2, 1) := by decide +kernel
theorem dX12_coast_6 : decode cX12_coast 6 = .ok (.istore 4, 2) := by decide +kernel
theorem dX12_coast_8 : decode cX12_coast 8 = .ok (.iconst 1, 1) := by decide +kernel
theorem dX12_coast_9 : decode cX12_coast 9 = .ok (.istore 5, 2) := by decide +kernel
theorem dX12_coast_11 : decode cX12_coast 11 = .ok (.aload_n 0, 1) := by decide +kernel
theorem dX12_coast_12 : decode cX12_coast 12 = .ok (.iconst 0, 1) := by decide +kernel
theorem dX12_coast_13 : decode cX12_coast 13 = .ok (.putfield 653, 3) := by decide +kernel
theorem dX12_coast_16 : decode cX12_coast 16 = .ok (.aload_n 0, 1) := by decide +kernel
theorem dX12_coast_17 : decode cX12_coast 17 = .ok (.iconst 0, 1) := by decide +kernel
theorem dX12_coast_18 : decode cX12_coast 18 = .ok (.putfield 656, 3) := by decide +kernel
theorem dX12_coast_21 : decode cX12_coast 21 = .ok (.iload 5, 2) := by decide +kernel
theorem dX12_coast_23 : decode cX12_coast 23 = .ok (.ifCond .eq 139, 3) := by decide +kernel
theorem dX12_coast_26 : decode cX12_coast 26 = .ok (.aload_n 0, 1) := by decide +kernel
theorem dX12_coast_27 : decode cX12_coast 27 = .ok (.getfield 653, 3) := by decide +kernel
theorem dX12_coast_30 : decode cX12_coast 30 = .ok (.sipush 500, 3) := by decide +kernel
theorem dX12_coast_33 : decode cX12_coast 33 = .ok (.if_icmp .ge 129, 3) := by decide +kernel
theorem dX12_coast_36 : decode cX12_coast 36 = .ok (.aload_n 0, 1) := by decide +kernel
theorem dX12_coast_37 : decode cX12_coast 37 = .ok (.iload 4, 2) := by decide +kernel
theorem dX12_coast_39 : decode cX12_coast 39 = .ok (.iload_n 3, 1) := by decide +kernel
theorem dX12_coast_40 : decode cX12_coast 40 = .ok (.bipush 10, 2) := by decide +kernel
theorem dX12_coast_42 : decode cX12_coast 42 = .ok (.idiv, 1) := by decide +kernel
theorem dX12_coast_43 : decode cX12_coast 43 = .ok (.invokevirtual 584, 3) := by decide +kernel
theorem dX12_coast_46 : decode cX12_coast 46 = .ok (.istore 4, 2) := by decide +kernel
theorem dX12_coast_48 : decode cX12_coast 48 = .ok (.iload_n 3, 1) := by decide +kernel
theorem dX12_coast_49 : decode cX12_coast 49 = .ok (.iload 4, 2) := by decide +kernel
theorem dX12_coast_51 : decode cX12_coast 51 = .ok (.iadd, 1) := by decide +kernel
theorem dX12_coast_52 : decode cX12_coast 52 = .ok (.istore_n 3, 1) := by decide +kernel
theorem dX12_coast_53 : decode cX12_coast 53 = .ok (.aload_n 0, 1) := by decide +kernel
theorem dX12_coast_54 : decode cX12_coast 54 = .ok (.dup, 1) := by decide +kernel
theorem dX12_coast_55 : decode cX12_coast 55 = .ok (.getfield 653, 3) := by decide +kernel
theorem dX12_coast_58 : decode cX12_coast 58 = .ok (.iconst 1, 1) := by decide +kernel
theorem dX12_coast_59 : decode cX12_coast 59 = .ok (.iadd, 1) := by decide +kernel
theorem dX12_coast_60 : decode cX12_coast 60 = .ok (.putfield 653, 3) := by decide +kernel
theorem dX12_coast_63 : decode cX12_coast 63 = .ok (.iload_n 3, 1) := by decide +kernel
theorem dX12_coast_64 : decode cX12_coast 64 = .ok (.ifCond .lt 10, 3) := by decide +kernel
theorem dX12_coast_67 : decode cX12_coast 67 = .ok (.iload_n 3, 1) := by decide +kernel
theorem dX12_coast_68 : decode cX12_coast 68 = .ok (.sipush 600, 3) := by decide +kernel
theorem dX12_coast_71 : decode cX12_coast 71 = .ok (.if_icmp .lt 7, 3) := by decide +kernel
theorem dX12_coast_74 : decode cX12_coast 74 = .ok (.iconst 1, 1) := by decide +kernel
theorem dX12_coast_75 : decode cX12_coast 75 = .ok (.goto 4, 3) := by decide +kernel
theorem dX12_coast_78 : decode cX12_coast 78 = .ok (.iconst 0, 1) := by decide +kernel
theorem dX12_coast_79 : decode cX12_coast 79 = .ok (.istore 6, 2) := by decide +kernel
theorem dX12_coast_81 : decode cX12_coast 81 = .ok (.aload_n 0, 1) := by decide +kernel
theorem dX12_coast_82 : decode cX12_coast 82 = .ok (.iload 6, 2) := by decide +kernel
theorem dX12_coast_84 : decode cX12_coast 84 = .ok (.ifCond .eq 7, 3) := by decide +kernel
theorem dX12_coast_87 : decode cX12_coast 87 = .ok (.iconst (-1), 1) := by decide +kernel
theorem dX12_coast_88 : decode cX12_coast 88 = .ok (.goto 7, 3) := by decide +kernel
theorem dX12_coast_91 : decode cX12_coast 91 = .ok (.iload_n 3, 1) := by decide +kernel
theorem dX12_coast_92 : decode cX12_coast 92 = .ok (.bipush 10, 2) := by decide +kernel
theorem dX12_coast_94 : decode cX12_coast 94 = .ok (.idiv, 1) := by decide +kernel
theorem dX12_coast_95 : decode cX12_coast 95 = .ok (.putfield 660, 3) := by decide +kernel
theorem dX12_coast_98 : decode cX12_coast 98 = .ok (.aload_n 0, 1) := by decide +kernel
theorem dX12_coast_99 : decode cX12_coast 99 = .ok (.iload 6, 2) := by decide +kernel
theorem dX12_coast_101 : decode cX12_coast 101 = .ok (.ifCond .ne 18, 3) := by decide +kernel
theorem dX12_coast_104 : decode cX12_coast 104 = .ok (.aload_n 0, 1) := by decide +kernel
theorem dX12_coast_105 : decode cX12_coast 105 = .ok (.aload_n 0, 1) := by decide +kernel
theorem dX12_coast_106 : decode cX12_coast 106 = .ok (.getfield 660, 3) := by decide +kernel
theorem dX12_coast_109 : decode cX12_coast 109 = .ok (.invokevirtual 556, 3) := by decide +kernel
theorem dX12_coast_112 : decode cX12_coast 112 = .ok (.ifCond .lt 7, 3) := by decide +kernel
theorem dX12_coast_119 : decode cX12_coast 119 = .ok (.iconst 0, 1) := by decide +kernel
theorem dX12_coast_120 : decode cX12_coast 120 = .ok (.putfield 656, 3) := by decide +kernel
theorem dX12_coast_123 : decode cX12_coast 123 = .ok (.iload 6, 2) := by decide +kernel
theorem dX12_coast_125 : decode cX12_coast 125 = .ok (.ifCond .ne 31, 3) := by decide +kernel
theorem dX12_coast_128 : decode cX12_coast 128 = .ok (.aload_n 0, 1) := by decide +kernel
theorem dX12_coast_129 : decode cX12_coast 129 = .ok (.getfield 656, 3) := by decide +kernel
theorem dX12_coast_132 : decode cX12_coast 132 = .ok (.ifCond .ne 24, 3) := by decide +kernel
theorem dX12_coast_135 : decode cX12_coast 135 = .ok (.iload 4, 2) := by decide +kernel
theorem dX12_coast_137 : decode cX12_coast 137 = .ok (.ifCond .eq 19, 3) := by decide +kernel
theorem dX12_coast_140 : decode cX12_coast 140 = .ok (.iload 4, 2) := by decide +kernel
theorem dX12_coast_142 : decode cX12_coast 142 = .ok (.invokestatic 663, 3) := by decide +kernel
theorem dX12_coast_145 : decode cX12_coast 145 = .ok (.iload_n 2, 1) := by decide +kernel
theorem dX12_coast_146 : decode cX12_coast 146 = .ok (.invokestatic 663, 3) := by decide +kernel
theorem dX12_coast_149 : decode cX12_coast 149 = .ok (.if_icmp .ne 7, 3) := by decide +kernel
theorem dX12_coast_152 : decode cX12_coast 152 = .ok (.iconst 1, 1) := by decide +kernel
theorem dX12_coast_153 : decode cX12_coast 153 = .ok (.goto 4, 3) := by decide +kernel
theorem dX12_coast_156 : decode cX12_coast 156 = .ok (.iconst 0, 1) := by decide +kernel
theorem dX12_coast_157 : decode cX12_coast 157 = .ok (.istore 5, 2) := by decide +kernel
theorem dX12_coast_159 : decode cX12_coast 159 = .ok (.goto (-138), 3) := by decide +kernel
theorem dX12_coast_162 : decode cX12_coast 162 = .ok (.return_, 1) := by decide +kernel
theorem dX12_coasting_0 : decode cX12_coasting 0 = .ok (.iload_n 1, 1) := by decide +kernel
theorem dX12_coasting_1 : decode cX12_coasting 1 = .ok (.aload_n 0, 1) := by decide +kernel
theorem dX12_coasting_2 : decode cX12_coasting 2 = .ok (.iload_n 2, 1) := by decide +kernel
theorem dX12_coasting_3 : decode cX12_coasting 3 = .ok (.invokevirtual 559, 3) := by decide +kernel
theorem dX12_coasting_6 : decode cX12_coasting 6 = .ok (.isub, 1) := by decide +kernel
theorem dX12_coasting_7 : decode cX12_coasting 7 = .ok (.istore_n 3, 1) := by decide +kernel
theorem dX12_coasting_8 : decode cX12_coasting 8 = .ok (.aload_n 0, 1) := by decide +kernel
theorem dX12_coasting_9 : decode cX12_coasting 9 = .ok (.getfield 36, 3) := by decide +kernel
theorem dX12_coasting_12 : decode cX12_coasting 12 = .ok (.aload_n 0, 1) := by decide +kernel
theorem dX12_coasting_13 : decode cX12_coasting 13 = .ok (.getfield 386, 3) := by decide +kernel
theorem dX12_coasting_16 : decode cX12_coasting 16 = .ok (.iaload, 1) := by decide +kernel
theorem dX12_coasting_17 : decode cX12_coasting 17 = .ok (.istore 4, 2) := by decide +kernel
theorem dX12_coasting_19 : decode cX12_coasting 19 = .ok (.iload_n 3, 1) := by decide +kernel
theorem dX12_coasting_20 : decode cX12_coasting 20 = .ok (.iload 4, 2) := by decide +kernel
theorem dX12_coasting_22 : decode cX12_coasting 22 = .ok (.if_icmp .le 10, 3) := by decide +kernel
theorem dX12_coasting_25 : decode cX12_coasting 25 = .ok (.iload_n 3, 1) := by decide +kernel
theorem dX12_coasting_26 : decode cX12_coasting 26 = .ok (.iload 4, 2) := by decide +kernel
theorem dX12_coasting_28 : decode cX12_coasting 28 = .ok (.isub, 1) := by decide +kernel
theorem dX12_coasting_29 : decode cX12_coasting 29 = .ok (.goto 18, 3) := by decide +kernel
theorem dX12_coasting_32 : decode cX12_coasting 32 = .ok (.iload_n 3, 1) := by decide +kernel
theorem dX12_coasting_33 : decode cX12_coasting 33 = .ok (.iload 4, 2) := by decide +kernel
theorem dX12_coasting_35 : decode cX12_coasting 35 = .ok (.ineg, 1) := by decide +kernel
theorem dX12_coasting_36 : decode cX12_coasting 36 = .ok (.if_icmp .ge 10, 3) := by decide +kernel
theorem dX12_coasting_39 : decode cX12_coasting 39 = .ok (.iload_n 3, 1) := by decide +kernel
theorem dX12_coasting_40 : decode cX12_coasting 40 = .ok (.iload 4, 2) := by decide +kernel
theorem dX12_coasting_42 : decode cX12_coasting 42 = .ok (.iadd, 1) := by decide +kernel
theorem dX12_coasting_43 : decode cX12_coasting 43 = .ok (.goto 4, 3) := by decide +kernel
theorem dX12_coasting_46 : decode cX12_coasting 46 = .ok (.iconst 0, 1) := by decide +kernel
theorem dX12_coasting_47 : decode cX12_coasting 47 = .ok (.ireturn, 1) := by decide +kernel
theorem dX12_coasts_0 : decode cX12_coasts 0 = .ok (.iload_n 1, 1) := by decide +kernel
theorem dX12_coasts_1 : decode cX12_coasts 1 = .ok (.invokestatic 647, 3) := by decide +kernel
theorem dX12_coasts_4 : decode cX12_coasts 4 = .ok (.ifCond .eq 23, 3) := by decide +kernel
theorem dX12_coasts_7 : decode cX12_coasts 7 = .ok (.iload_n 2, 1) := by decide +kernel
theorem dX12_coasts_8 : decode cX12_coasts 8 = .ok (.bipush (-60), 2) := by decide +kernel
theorem dX12_coasts_10 : decode cX12_coasts 10 = .ok (.bipush 60, 2) := by decide +kernel
theorem dX12_coasts_12 : decode cX12_coasts 12 = .ok (.invokestatic 503, 3) := by decide +kernel
theorem dX12_coasts_15 : decode cX12_coasts 15 = .ok (.ifCond .eq 12, 3) := by decide +kernel
theorem dX12_coasts_18 : decode cX12_coasts 18 = .ok (.iload_n 3, 1) := by decide +kernel
theorem dX12_coasts_19 : decode cX12_coasts 19 = .ok (.iconst 0, 1) := by decide +kernel
theorem dX12_coasts_20 : decode cX12_coasts 20 = .ok (.iconst 2, 1) := by decide +kernel
theorem dX12_coasts_21 : decode cX12_coasts 21 = .ok (.invokestatic 503, 3) := by decide +kernel
theorem dX12_coasts_24 : decode cX12_coasts 24 = .ok (.ifCond .ne 6, 3) := by decide +kernel
theorem dX12_coasts_27 : decode cX12_coasts 27 = .ok (.bipush (-2), 2) := by decide +kernel
theorem dX12_coasts_29 : decode cX12_coasts 29 = .ok (.ireturn, 1) := by decide +kernel
theorem dX12_coasts_30 : decode cX12_coasts 30 = .ok (.aload_n 0, 1) := by decide +kernel
theorem dX12_coasts_31 : decode cX12_coasts 31 = .ok (.iload_n 1, 1) := by decide +kernel
theorem dX12_coasts_32 : decode cX12_coasts 32 = .ok (.iload_n 2, 1) := by decide +kernel
theorem dX12_coasts_33 : decode cX12_coasts 33 = .ok (.invokevirtual 666, 3) := by decide +kernel
theorem dX12_coasts_36 : decode cX12_coasts 36 = .ok (.iload_n 3, 1) := by decide +kernel
theorem dX12_coasts_37 : decode cX12_coasts 37 = .ok (.ifCond .ne 10, 3) := by decide +kernel
theorem dX12_coasts_40 : decode cX12_coasts 40 = .ok (.aload_n 0, 1) := by decide +kernel
theorem dX12_coasts_41 : decode cX12_coasts 41 = .ok (.getfield 660, 3) := by decide +kernel
theorem dX12_coasts_44 : decode cX12_coasts 44 = .ok (.goto 27, 3) := by decide +kernel
theorem dX12_coasts_47 : decode cX12_coasts 47 = .ok (.iload_n 3, 1) := by decide +kernel
theorem dX12_coasts_48 : decode cX12_coasts 48 = .ok (.iconst 1, 1) := by decide +kernel
theorem dX12_coasts_49 : decode cX12_coasts 49 = .ok (.if_icmp .ne 18, 3) := by decide +kernel
theorem dX12_coasts_52 : decode cX12_coasts 52 = .ok (.aload_n 0, 1) := by decide +kernel
theorem dX12_coasts_53 : decode cX12_coasts 53 = .ok (.getfield 656, 3) := by decide +kernel
theorem dX12_coasts_56 : decode cX12_coasts 56 = .ok (.ifCond .eq 7, 3) := by decide +kernel
theorem dX12_coasts_63 : decode cX12_coasts 63 = .ok (.iconst 0, 1) := by decide +kernel
theorem dX12_coasts_64 : decode cX12_coasts 64 = .ok (.goto 7, 3) := by decide +kernel
theorem dX12_coasts_67 : decode cX12_coasts 67 = .ok (.aload_n 0, 1) := by decide +kernel
theorem dX12_coasts_68 : decode cX12_coasts 68 = .ok (.getfield 653, 3) := by decide +kernel
theorem dX12_coasts_71 : decode cX12_coasts 71 = .ok (.ireturn, 1) := by decide +kernel
theorem dX12_cost_0 : decode cX12_cost 0 = .ok (.iload_n 1, 1) := by decide +kernel
theorem dX12_cost_1 : decode cX12_cost 1 = .ok (.invokestatic 647, 3) := by decide +kernel
theorem dX12_cost_4 : decode cX12_cost 4 = .ok (.ifCond .eq 23, 3) := by decide +kernel
theorem dX12_cost_7 : decode cX12_cost 7 = .ok (.aload_n 0, 1) := by decide +kernel
theorem dX12_cost_8 : decode cX12_cost 8 = .ok (.iconst 2, 1) := by decide +kernel
theorem dX12_cost_9 : decode cX12_cost 9 = .ok (.iload_n 1, 1) := by decide +kernel
theorem dX12_cost_10 : decode cX12_cost 10 = .ok (.invokevirtual 596, 3) := by decide +kernel
theorem dX12_cost_13 : decode cX12_cost 13 = .ok (.ifCond .eq 14, 3) := by decide +kernel
theorem dX12_cost_27 : decode cX12_cost 27 = .ok (.ldc_w 637, 3) := by decide +kernel
theorem dX12_cost_30 : decode cX12_cost 30 = .ok (.ireturn, 1) := by decide +kernel
theorem dX12_count_0 : decode cX12_count 0 = .ok (.iload_n 1, 1) := by decide +kernel
theorem dX12_count_1 : decode cX12_count 1 = .ok (.tableswitch 87 0 7 #[47, 52, 57, 62, 67, 72, 77, 82], 47) := by decide +kernel
theorem dX12_count_48 : decode cX12_count 48 = .ok (.aload_n 0, 1) := by decide +kernel
theorem dX12_count_49 : decode cX12_count 49 = .ok (.getfield 513, 3) := by decide +kernel
theorem dX12_count_52 : decode cX12_count 52 = .ok (.ireturn, 1) := by decide +kernel
theorem dX12_count_53 : decode cX12_count 53 = .ok (.aload_n 0, 1) := by decide +kernel
theorem dX12_count_54 : decode cX12_count 54 = .ok (.getfield 516, 3) := by decide +kernel
theorem dX12_count_57 : decode cX12_count 57 = .ok (.ireturn, 1) := by decide +kernel
theorem dX12_count_58 : decode cX12_count 58 = .ok (.aload_n 0, 1) := by decide +kernel
theorem dX12_count_59 : decode cX12_count 59 = .ok (.getfield 519, 3) := by decide +kernel
theorem dX12_count_62 : decode cX12_count 62 = .ok (.ireturn, 1) := by decide +kernel
theorem dX12_count_63 : decode cX12_count 63 = .ok (.aload_n 0, 1) := by decide +kernel
theorem dX12_count_64 : decode cX12_count 64 = .ok (.getfield 522, 3) := by decide +kernel
theorem dX12_count_67 : decode cX12_count 67 = .ok (.ireturn, 1) := by decide +kernel
theorem dX12_count_68 : decode cX12_count 68 = .ok (.aload_n 0, 1) := by decide +kernel
theorem dX12_count_69 : decode cX12_count 69 = .ok (.getfield 525, 3) := by decide +kernel
theorem dX12_count_72 : decode cX12_count 72 = .ok (.ireturn, 1) := by decide +kernel
theorem dX12_count_73 : decode cX12_count 73 = .ok (.aload_n 0, 1) := by decide +kernel
theorem dX12_count_74 : decode cX12_count 74 = .ok (.getfield 531, 3) := by decide +kernel
theorem dX12_count_77 : decode cX12_count 77 = .ok (.ireturn, 1) := by decide +kernel
theorem dX12_count_78 : decode cX12_count 78 = .ok (.aload_n 0, 1) := by decide +kernel
theorem dX12_count_79 : decode cX12_count 79 = .ok (.getfield 534, 3) := by decide +kernel
theorem dX12_count_82 : decode cX12_count 82 = .ok (.ireturn, 1) := by decide +kernel
theorem dX12_count_83 : decode cX12_count 83 = .ok (.aload_n 0, 1) := by decide +kernel
theorem dX12_count_84 : decode cX12_count 84 = .ok (.getfield 537, 3) := by decide +kernel
theorem dX12_count_87 : decode cX12_count 87 = .ok (.ireturn, 1) := by decide +kernel
theorem dX12_count_88 : decode cX12_count 88 = .ok (.iconst (-1), 1) := by decide +kernel
theorem dX12_count_89 : decode cX12_count 89 = .ok (.ireturn, 1) := by decide +kernel
theorem dX12_crossAt_0 : decode cX12_crossAt 0 = .ok (.iconst 4, 1) := by decide +kernel
theorem dX12_crossAt_1 : decode cX12_crossAt 1 = .ok (.aload_n 0, 1) := by decide +kernel
theorem dX12_crossAt_2 : decode cX12_crossAt 2 = .ok (.getfield 386, 3) := by decide +kernel
theorem dX12_crossAt_5 : decode cX12_crossAt 5 = .ok (.imul, 1) := by decide +kernel
theorem dX12_crossAt_6 : decode cX12_crossAt 6 = .ok (.istore_n 2, 1) := by decide +kernel
theorem dX12_crossAt_7 : decode cX12_crossAt 7 = .ok (.iload_n 2, 1) := by decide +kernel
theorem dX12_crossAt_8 : decode cX12_crossAt 8 = .ok (.iconst 4, 1) := by decide +kernel
theorem dX12_crossAt_9 : decode cX12_crossAt 9 = .ok (.aload_n 0, 1) := by decide +kernel
theorem dX12_crossAt_10 : decode cX12_crossAt 10 = .ok (.getfield 386, 3) := by decide +kernel
theorem dX12_crossAt_13 : decode cX12_crossAt 13 = .ok (.imul, 1) := by decide +kernel
theorem dX12_crossAt_14 : decode cX12_crossAt 14 = .ok (.aload_n 0, 1) := by decide +kernel
theorem dX12_crossAt_15 : decode cX12_crossAt 15 = .ok (.getfield 95, 3) := by decide +kernel
theorem dX12_crossAt_18 : decode cX12_crossAt 18 = .ok (.aload_n 0, 1) := by decide +kernel
theorem dX12_crossAt_19 : decode cX12_crossAt 19 = .ok (.getfield 386, 3) := by decide +kernel
theorem dX12_crossAt_22 : decode cX12_crossAt 22 = .ok (.iaload, 1) := by decide +kernel
theorem dX12_crossAt_23 : decode cX12_crossAt 23 = .ok (.iadd, 1) := by decide +kernel
theorem dX12_crossAt_24 : decode cX12_crossAt 24 = .ok (.if_icmp .ge 21, 3) := by decide +kernel
theorem dX12_crossAt_45 : decode cX12_crossAt 45 = .ok (.iconst (-1), 1) := by decide +kernel
theorem dX12_crossAt_46 : decode cX12_crossAt 46 = .ok (.ireturn, 1) := by decide +kernel
theorem dX12_due_0 : decode cX12_due 0 = .ok (.iload_n 1, 1) := by decide +kernel
theorem dX12_due_1 : decode cX12_due 1 = .ok (.iconst 0, 1) := by decide +kernel
theorem dX12_due_2 : decode cX12_due 2 = .ok (.aload_n 0, 1) := by decide +kernel
theorem dX12_due_3 : decode cX12_due 3 = .ok (.getfield 89, 3) := by decide +kernel
theorem dX12_due_6 : decode cX12_due 6 = .ok (.aload_n 0, 1) := by decide +kernel
theorem dX12_due_7 : decode cX12_due 7 = .ok (.getfield 386, 3) := by decide +kernel
theorem dX12_due_10 : decode cX12_due 10 = .ok (.iaload, 1) := by decide +kernel
theorem dX12_due_11 : decode cX12_due 11 = .ok (.iconst 1, 1) := by decide +kernel
theorem dX12_due_12 : decode cX12_due 12 = .ok (.isub, 1) := by decide +kernel
theorem dX12_due_13 : decode cX12_due 13 = .ok (.invokestatic 503, 3) := by decide +kernel
theorem dX12_due_16 : decode cX12_due 16 = .ok (.ifCond .eq 25, 3) := by decide +kernel
theorem dX12_due_41 : decode cX12_due 41 = .ok (.iconst (-1), 1) := by decide +kernel
theorem dX12_due_42 : decode cX12_due 42 = .ok (.ireturn, 1) := by decide +kernel
theorem dX12_end_0 : decode cX12_end 0 = .ok (.iload_n 1, 1) := by decide +kernel
theorem dX12_end_1 : decode cX12_end 1 = .ok (.ifCond .lt 11, 3) := by decide +kernel
theorem dX12_end_4 : decode cX12_end 4 = .ok (.iload_n 1, 1) := by decide +kernel
theorem dX12_end_5 : decode cX12_end 5 = .ok (.aload_n 0, 1) := by decide +kernel
theorem dX12_end_6 : decode cX12_end 6 = .ok (.getfield 383, 3) := by decide +kernel
theorem dX12_end_9 : decode cX12_end 9 = .ok (.if_icmp .le 5, 3) := by decide +kernel
theorem dX12_end_12 : decode cX12_end 12 = .ok (.iconst (-1), 1) := by decide +kernel
theorem dX12_end_13 : decode cX12_end 13 = .ok (.ireturn, 1) := by decide +kernel
theorem dX12_end_14 : decode cX12_end 14 = .ok (.aload_n 0, 1) := by decide +kernel
theorem dX12_end_15 : decode cX12_end 15 = .ok (.iload_n 1, 1) := by decide +kernel
theorem dX12_end_16 : decode cX12_end 16 = .ok (.putfield 383, 3) := by decide +kernel
theorem dX12_end_19 : decode cX12_end 19 = .ok (.iload_n 1, 1) := by decide +kernel
theorem dX12_end_20 : decode cX12_end 20 = .ok (.ireturn, 1) := by decide +kernel
theorem dX12_event_0 : decode cX12_event 0 = .ok (.iload_n 1, 1) := by decide +kernel
theorem dX12_event_1 : decode cX12_event 1 = .ok (.iconst 0, 1) := by decide +kernel
theorem dX12_event_2 : decode cX12_event 2 = .ok (.aload_n 0, 1) := by decide +kernel
theorem dX12_event_3 : decode cX12_event 3 = .ok (.getfield 546, 3) := by decide +kernel
theorem dX12_event_6 : decode cX12_event 6 = .ok (.iconst 1, 1) := by decide +kernel
theorem dX12_event_7 : decode cX12_event 7 = .ok (.isub, 1) := by decide +kernel
theorem dX12_event_8 : decode cX12_event 8 = .ok (.invokestatic 503, 3) := by decide +kernel
theorem dX12_event_11 : decode cX12_event 11 = .ok (.ifCond .ne 5, 3) := by decide +kernel
theorem dX12_event_14 : decode cX12_event 14 = .ok (.iconst (-1), 1) := by decide +kernel
theorem dX12_event_15 : decode cX12_event 15 = .ok (.ireturn, 1) := by decide +kernel
theorem dX12_fault_0 : decode cX12_fault 0 = .ok (.iload_n 1, 1) := by decide +kernel
theorem dX12_fault_1 : decode cX12_fault 1 = .ok (.ifCond .ne 10, 3) := by decide +kernel
theorem dX12_fault_4 : decode cX12_fault 4 = .ok (.aload_n 0, 1) := by decide +kernel
theorem dX12_fault_5 : decode cX12_fault 5 = .ok (.getfield 263, 3) := by decide +kernel
theorem dX12_fault_8 : decode cX12_fault 8 = .ok (.goto 16, 3) := by decide +kernel
theorem dX12_fault_11 : decode cX12_fault 11 = .ok (.iload_n 1, 1) := by decide +kernel
theorem dX12_fault_12 : decode cX12_fault 12 = .ok (.iconst 1, 1) := by decide +kernel
theorem dX12_fault_13 : decode cX12_fault 13 = .ok (.if_icmp .ne 10, 3) := by decide +kernel
theorem dX12_fault_16 : decode cX12_fault 16 = .ok (.aload_n 0, 1) := by decide +kernel
theorem dX12_fault_17 : decode cX12_fault 17 = .ok (.getfield 16, 3) := by decide +kernel
theorem dX12_fault_20 : decode cX12_fault 20 = .ok (.goto 4, 3) := by decide +kernel
theorem dX12_fault_23 : decode cX12_fault 23 = .ok (.iconst (-1), 1) := by decide +kernel
theorem dX12_fault_24 : decode cX12_fault 24 = .ok (.ireturn, 1) := by decide +kernel
theorem dX12_feed_0 : decode cX12_feed 0 = .ok (.aload_n 0, 1) := by decide +kernel
theorem dX12_feed_1 : decode cX12_feed 1 = .ok (.getfield 383, 3) := by decide +kernel
theorem dX12_feed_4 : decode cX12_feed 4 = .ok (.bipush 20, 2) := by decide +kernel
theorem dX12_feed_6 : decode cX12_feed 6 = .ok (.iadd, 1) := by decide +kernel
theorem dX12_feed_7 : decode cX12_feed 7 = .ok (.sipush 1600, 3) := by decide +kernel
theorem dX12_feed_10 : decode cX12_feed 10 = .ok (.if_icmp .le 5, 3) := by decide +kernel
theorem dX12_feed_15 : decode cX12_feed 15 = .ok (.iconst 0, 1) := by decide +kernel
theorem dX12_feed_16 : decode cX12_feed 16 = .ok (.istore 6, 2) := by decide +kernel
theorem dX12_feed_18 : decode cX12_feed 18 = .ok (.iload 6, 2) := by decide +kernel
theorem dX12_feed_20 : decode cX12_feed 20 = .ok (.bipush 20, 2) := by decide +kernel
theorem dX12_feed_22 : decode cX12_feed 22 = .ok (.if_icmp .ge 83, 3) := by decide +kernel
theorem dX12_feed_25 : decode cX12_feed 25 = .ok (.iload 6, 2) := by decide +kernel
theorem dX12_feed_27 : decode cX12_feed 27 = .ok (.iconst 4, 1) := by decide +kernel
theorem dX12_feed_28 : decode cX12_feed 28 = .ok (.if_icmp .ge 7, 3) := by decide +kernel
theorem dX12_feed_31 : decode cX12_feed 31 = .ok (.iload_n 1, 1) := by decide +kernel
theorem dX12_feed_32 : decode cX12_feed 32 = .ok (.goto 39, 3) := by decide +kernel
theorem dX12_feed_35 : decode cX12_feed 35 = .ok (.iload 6, 2) := by decide +kernel
theorem dX12_feed_37 : decode cX12_feed 37 = .ok (.bipush 8, 2) := by decide +kernel
theorem dX12_feed_39 : decode cX12_feed 39 = .ok (.if_icmp .ge 7, 3) := by decide +kernel
theorem dX12_feed_42 : decode cX12_feed 42 = .ok (.iload_n 2, 1) := by decide +kernel
theorem dX12_feed_43 : decode cX12_feed 43 = .ok (.goto 28, 3) := by decide +kernel
theorem dX12_feed_46 : decode cX12_feed 46 = .ok (.iload 6, 2) := by decide +kernel
theorem dX12_feed_48 : decode cX12_feed 48 = .ok (.bipush 12, 2) := by decide +kernel
theorem dX12_feed_50 : decode cX12_feed 50 = .ok (.if_icmp .ge 7, 3) := by decide +kernel
theorem dX12_feed_53 : decode cX12_feed 53 = .ok (.iload_n 3, 1) := by decide +kernel
theorem dX12_feed_54 : decode cX12_feed 54 = .ok (.goto 17, 3) := by decide +kernel
theorem dX12_feed_57 : decode cX12_feed 57 = .ok (.iload 6, 2) := by decide +kernel
theorem dX12_feed_59 : decode cX12_feed 59 = .ok (.bipush 16, 2) := by decide +kernel
theorem dX12_feed_61 : decode cX12_feed 61 = .ok (.if_icmp .ge 8, 3) := by decide +kernel
theorem dX12_feed_64 : decode cX12_feed 64 = .ok (.iload 4, 2) := by decide +kernel
theorem dX12_feed_66 : decode cX12_feed 66 = .ok (.goto 5, 3) := by decide +kernel
theorem dX12_feed_69 : decode cX12_feed 69 = .ok (.iload 5, 2) := by decide +kernel
theorem dX12_feed_71 : decode cX12_feed 71 = .ok (.istore 7, 2) := by decide +kernel
theorem dX12_feed_73 : decode cX12_feed 73 = .ok (.aload_n 0, 1) := by decide +kernel
theorem dX12_feed_74 : decode cX12_feed 74 = .ok (.getfield 7, 3) := by decide +kernel
theorem dX12_feed_77 : decode cX12_feed 77 = .ok (.aload_n 0, 1) := by decide +kernel
theorem dX12_feed_78 : decode cX12_feed 78 = .ok (.getfield 383, 3) := by decide +kernel
theorem dX12_feed_81 : decode cX12_feed 81 = .ok (.iload 6, 2) := by decide +kernel
theorem dX12_feed_83 : decode cX12_feed 83 = .ok (.iadd, 1) := by decide +kernel
theorem dX12_feed_84 : decode cX12_feed 84 = .ok (.iload 7, 2) := by decide +kernel
theorem dX12_feed_86 : decode cX12_feed 86 = .ok (.bipush 24, 2) := by decide +kernel
theorem dX12_feed_88 : decode cX12_feed 88 = .ok (.bipush 8, 2) := by decide +kernel
theorem dX12_feed_90 : decode cX12_feed 90 = .ok (.iload 6, 2) := by decide +kernel
theorem dX12_feed_92 : decode cX12_feed 92 = .ok (.iconst 3, 1) := by decide +kernel
theorem dX12_feed_93 : decode cX12_feed 93 = .ok (.iand, 1) := by decide +kernel
theorem dX12_feed_94 : decode cX12_feed 94 = .ok (.imul, 1) := by decide +kernel
theorem dX12_feed_95 : decode cX12_feed 95 = .ok (.isub, 1) := by decide +kernel
theorem dX12_feed_96 : decode cX12_feed 96 = .ok (.ishr, 1) := by decide +kernel
theorem dX12_feed_97 : decode cX12_feed 97 = .ok (.i2b, 1) := by decide +kernel
theorem dX12_feed_98 : decode cX12_feed 98 = .ok (.bastore, 1) := by decide +kernel
theorem dX12_feed_99 : decode cX12_feed 99 = .ok (.iinc 6 1, 3) := by decide +kernel
theorem dX12_feed_102 : decode cX12_feed 102 = .ok (.goto (-84), 3) := by decide +kernel
theorem dX12_feed_105 : decode cX12_feed 105 = .ok (.aload_n 0, 1) := by decide +kernel
theorem dX12_feed_106 : decode cX12_feed 106 = .ok (.dup, 1) := by decide +kernel
theorem dX12_feed_107 : decode cX12_feed 107 = .ok (.getfield 383, 3) := by decide +kernel
theorem dX12_feed_110 : decode cX12_feed 110 = .ok (.bipush 20, 2) := by decide +kernel
theorem dX12_feed_112 : decode cX12_feed 112 = .ok (.iadd, 1) := by decide +kernel
theorem dX12_feed_113 : decode cX12_feed 113 = .ok (.putfield 383, 3) := by decide +kernel
theorem dX12_feed_116 : decode cX12_feed 116 = .ok (.aload_n 0, 1) := by decide +kernel
theorem dX12_feed_117 : decode cX12_feed 117 = .ok (.getfield 383, 3) := by decide +kernel
theorem dX12_feed_120 : decode cX12_feed 120 = .ok (.ireturn, 1) := by decide +kernel
theorem dX12_findFalse_0 : decode cX12_findFalse 0 = .ok (.aload_n 0, 1) := by decide +kernel
theorem dX12_findFalse_1 : decode cX12_findFalse 1 = .ok (.iconst 3, 1) := by decide +kernel
theorem dX12_findFalse_2 : decode cX12_findFalse 2 = .ok (.invokevirtual 638, 3) := by decide +kernel
theorem dX12_findFalse_5 : decode cX12_findFalse 5 = .ok (.aload_n 0, 1) := by decide +kernel
theorem dX12_findFalse_6 : decode cX12_findFalse 6 = .ok (.invokevirtual 257, 3) := by decide +kernel
theorem dX12_findFalse_9 : decode cX12_findFalse 9 = .ok (.iconst 1, 1) := by decide +kernel
theorem dX12_findFalse_10 : decode cX12_findFalse 10 = .ok (.istore_n 1, 1) := by decide +kernel
theorem dX12_findFalse_11 : decode cX12_findFalse 11 = .ok (.iload_n 1, 1) := by decide +kernel
theorem dX12_findFalse_12 : decode cX12_findFalse 12 = .ok (.sipush 200, 3) := by decide +kernel
theorem dX12_findFalse_15 : decode cX12_findFalse 15 = .ok (.if_icmp .gt 69, 3) := by decide +kernel
theorem dX12_findFalse_18 : decode cX12_findFalse 18 = .ok (.aload_n 0, 1) := by decide +kernel
theorem dX12_findFalse_19 : decode cX12_findFalse 19 = .ok (.invokevirtual 622, 3) := by decide +kernel
theorem dX12_findFalse_22 : decode cX12_findFalse 22 = .ok (.iconst 0, 1) := by decide +kernel
theorem dX12_findFalse_23 : decode cX12_findFalse 23 = .ok (.istore_n 2, 1) := by decide +kernel
theorem dX12_findFalse_24 : decode cX12_findFalse 24 = .ok (.iload_n 2, 1) := by decide +kernel
theorem dX12_findFalse_25 : decode cX12_findFalse 25 = .ok (.aload_n 0, 1) := by decide +kernel
theorem dX12_findFalse_26 : decode cX12_findFalse 26 = .ok (.getfield 392, 3) := by decide +kernel
theorem dX12_findFalse_29 : decode cX12_findFalse 29 = .ok (.if_icmp .ge 49, 3) := by decide +kernel
theorem dX12_findFalse_78 : decode cX12_findFalse 78 = .ok (.iinc 1 1, 3) := by decide +kernel
theorem dX12_findFalse_81 : decode cX12_findFalse 81 = .ok (.goto (-70), 3) := by decide +kernel
theorem dX12_findFalse_84 : decode cX12_findFalse 84 = .ok (.aload_n 0, 1) := by decide +kernel
theorem dX12_findFalse_85 : decode cX12_findFalse 85 = .ok (.iconst 3, 1) := by decide +kernel
theorem dX12_findFalse_86 : decode cX12_findFalse 86 = .ok (.invokevirtual 644, 3) := by decide +kernel
theorem dX12_findFalse_89 : decode cX12_findFalse 89 = .ok (.return_, 1) := by decide +kernel
theorem dX12_free_0 : decode cX12_free 0 = .ok (.aload_n 0, 1) := by decide +kernel
theorem dX12_free_1 : decode cX12_free 1 = .ok (.iload_n 1, 1) := by decide +kernel
theorem dX12_free_2 : decode cX12_free 2 = .ok (.invokevirtual 628, 3) := by decide +kernel
theorem dX12_free_5 : decode cX12_free 5 = .ok (.ifCond .eq 12, 3) := by decide +kernel
theorem dX12_free_17 : decode cX12_free 17 = .ok (.iconst 0, 1) := by decide +kernel
theorem dX12_free_18 : decode cX12_free 18 = .ok (.ireturn, 1) := by decide +kernel
theorem dX12_goOn_0 : decode cX12_goOn 0 = .ok (.aload_n 0, 1) := by decide +kernel
theorem dX12_goOn_1 : decode cX12_goOn 1 = .ok (.aload_n 0, 1) := by decide +kernel
theorem dX12_goOn_2 : decode cX12_goOn 2 = .ok (.getfield 326, 3) := by decide +kernel
theorem dX12_goOn_5 : decode cX12_goOn 5 = .ok (.putfield 329, 3) := by decide +kernel
theorem dX12_goOn_8 : decode cX12_goOn 8 = .ok (.aload_n 0, 1) := by decide +kernel
theorem dX12_goOn_9 : decode cX12_goOn 9 = .ok (.getfield 329, 3) := by decide +kernel
theorem dX12_goOn_12 : decode cX12_goOn 12 = .ok (.aload_n 0, 1) := by decide +kernel
theorem dX12_goOn_13 : decode cX12_goOn 13 = .ok (.getfield 260, 3) := by decide +kernel
theorem dX12_goOn_16 : decode cX12_goOn 16 = .ok (.if_icmp .ge 42, 3) := by decide +kernel
theorem dX12_goOn_58 : decode cX12_goOn 58 = .ok (.aload_n 0, 1) := by decide +kernel
theorem dX12_goOn_59 : decode cX12_goOn 59 = .ok (.aload_n 0, 1) := by decide +kernel
theorem dX12_goOn_60 : decode cX12_goOn 60 = .ok (.getfield 329, 3) := by decide +kernel
theorem dX12_goOn_63 : decode cX12_goOn 63 = .ok (.invokevirtual 332, 3) := by decide +kernel
theorem dX12_goOn_66 : decode cX12_goOn 66 = .ok (.istore_n 1, 1) := by decide +kernel
theorem dX12_goOn_67 : decode cX12_goOn 67 = .ok (.aload_n 0, 1) := by decide +kernel
theorem dX12_goOn_68 : decode cX12_goOn 68 = .ok (.aload_n 0, 1) := by decide +kernel
theorem dX12_goOn_69 : decode cX12_goOn 69 = .ok (.getfield 329, 3) := by decide +kernel
theorem dX12_goOn_72 : decode cX12_goOn 72 = .ok (.iconst 1, 1) := by decide +kernel
theorem dX12_goOn_73 : decode cX12_goOn 73 = .ok (.iadd, 1) := by decide +kernel
theorem dX12_goOn_74 : decode cX12_goOn 74 = .ok (.putfield 326, 3) := by decide +kernel
theorem dX12_goOn_77 : decode cX12_goOn 77 = .ok (.aload_n 0, 1) := by decide +kernel
theorem dX12_goOn_78 : decode cX12_goOn 78 = .ok (.getfield 329, 3) := by decide +kernel
theorem dX12_goOn_81 : decode cX12_goOn 81 = .ok (.aload_n 0, 1) := by decide +kernel
theorem dX12_goOn_82 : decode cX12_goOn 82 = .ok (.getfield 260, 3) := by decide +kernel
theorem dX12_goOn_85 : decode cX12_goOn 85 = .ok (.if_icmp .lt 27, 3) := by decide +kernel
theorem dX12_goOn_88 : decode cX12_goOn 88 = .ok (.aload_n 0, 1) := by decide +kernel
theorem dX12_goOn_89 : decode cX12_goOn 89 = .ok (.iconst 0, 1) := by decide +kernel
theorem dX12_goOn_90 : decode cX12_goOn 90 = .ok (.putfield 336, 3) := by decide +kernel
theorem dX12_goOn_93 : decode cX12_goOn 93 = .ok (.aload_n 0, 1) := by decide +kernel
theorem dX12_goOn_94 : decode cX12_goOn 94 = .ok (.aload_n 0, 1) := by decide +kernel
theorem dX12_goOn_95 : decode cX12_goOn 95 = .ok (.getfield 260, 3) := by decide +kernel
theorem dX12_goOn_98 : decode cX12_goOn 98 = .ok (.putfield 329, 3) := by decide +kernel
theorem dX12_goOn_101 : decode cX12_goOn 101 = .ok (.aload_n 0, 1) := by decide +kernel
theorem dX12_goOn_102 : decode cX12_goOn 102 = .ok (.aload_n 0, 1) := by decide +kernel
theorem dX12_goOn_103 : decode cX12_goOn 103 = .ok (.getfield 260, 3) := by decide +kernel
theorem dX12_goOn_106 : decode cX12_goOn 106 = .ok (.putfield 326, 3) := by decide +kernel
theorem dX12_goOn_109 : decode cX12_goOn 109 = .ok (.goto 268, 3) := by decide +kernel
theorem dX12_goOn_377 : decode cX12_goOn 377 = .ok (.return_, 1) := by decide +kernel
theorem dX12_going_0 : decode cX12_going 0 = .ok (.iconst 0, 1) := by decide +kernel
theorem dX12_going_1 : decode cX12_going 1 = .ok (.istore_n 1, 1) := by decide +kernel
theorem dX12_going_2 : decode cX12_going 2 = .ok (.iconst 0, 1) := by decide +kernel
theorem dX12_going_3 : decode cX12_going 3 = .ok (.istore_n 2, 1) := by decide +kernel
theorem dX12_going_4 : decode cX12_going 4 = .ok (.iload_n 2, 1) := by decide +kernel
theorem dX12_going_5 : decode cX12_going 5 = .ok (.aload_n 0, 1) := by decide +kernel
theorem dX12_going_6 : decode cX12_going 6 = .ok (.invokevirtual 477, 3) := by decide +kernel
theorem dX12_going_9 : decode cX12_going 9 = .ok (.if_icmp .ge 27, 3) := by decide +kernel
theorem dX12_going_36 : decode cX12_going 36 = .ok (.iload_n 1, 1) := by decide +kernel
theorem dX12_going_37 : decode cX12_going 37 = .ok (.ireturn, 1) := by decide +kernel
theorem dX12_gradeAt_0 : decode cX12_gradeAt 0 = .ok (.aload_n 0, 1) := by decide +kernel
theorem dX12_gradeAt_1 : decode cX12_gradeAt 1 = .ok (.getfield 74, 3) := by decide +kernel
theorem dX12_gradeAt_4 : decode cX12_gradeAt 4 = .ok (.bipush 60, 2) := by decide +kernel
theorem dX12_gradeAt_6 : decode cX12_gradeAt 6 = .ok (.aload_n 0, 1) := by decide +kernel
theorem dX12_gradeAt_7 : decode cX12_gradeAt 7 = .ok (.getfield 386, 3) := by decide +kernel
theorem dX12_gradeAt_10 : decode cX12_gradeAt 10 = .ok (.imul, 1) := by decide +kernel
theorem dX12_gradeAt_11 : decode cX12_gradeAt 11 = .ok (.iload_n 1, 1) := by decide +kernel
theorem dX12_gradeAt_12 : decode cX12_gradeAt 12 = .ok (.iadd, 1) := by decide +kernel
theorem dX12_gradeAt_13 : decode cX12_gradeAt 13 = .ok (.iaload, 1) := by decide +kernel
theorem dX12_gradeAt_14 : decode cX12_gradeAt 14 = .ok (.ireturn, 1) := by decide +kernel
theorem dX12_halt_0 : decode cX12_halt 0 = .ok (.iload_n 1, 1) := by decide +kernel
theorem dX12_halt_1 : decode cX12_halt 1 = .ok (.iconst 1, 1) := by decide +kernel
theorem dX12_halt_2 : decode cX12_halt 2 = .ok (.bipush 99, 2) := by decide +kernel
theorem dX12_halt_4 : decode cX12_halt 4 = .ok (.invokestatic 503, 3) := by decide +kernel
theorem dX12_halt_7 : decode cX12_halt 7 = .ok (.ifCond .ne 5, 3) := by decide +kernel
theorem dX12_halt_10 : decode cX12_halt 10 = .ok (.iconst (-1), 1) := by decide +kernel
theorem dX12_halt_11 : decode cX12_halt 11 = .ok (.ireturn, 1) := by decide +kernel
theorem dX12_halt_12 : decode cX12_halt 12 = .ok (.iconst 0, 1) := by decide +kernel
theorem dX12_halt_13 : decode cX12_halt 13 = .ok (.istore_n 2, 1) := by decide +kernel
theorem dX12_halt_14 : decode cX12_halt 14 = .ok (.iconst 0, 1) := by decide +kernel
theorem dX12_halt_15 : decode cX12_halt 15 = .ok (.istore_n 3, 1) := by decide +kernel
theorem dX12_halt_16 : decode cX12_halt 16 = .ok (.iload_n 3, 1) := by decide +kernel
theorem dX12_halt_17 : decode cX12_halt 17 = .ok (.aload_n 0, 1) := by decide +kernel
theorem dX12_halt_18 : decode cX12_halt 18 = .ok (.invokevirtual 477, 3) := by decide +kernel
theorem dX12_halt_21 : decode cX12_halt 21 = .ok (.if_icmp .ge 55, 3) := by decide +kernel
theorem dX12_halt_76 : decode cX12_halt 76 = .ok (.iload_n 2, 1) := by decide +kernel
theorem dX12_halt_77 : decode cX12_halt 77 = .ok (.ireturn, 1) := by decide +kernel
theorem dX12_has_0 : decode cX12_has 0 = .ok (.aload_n 0, 1) := by decide +kernel
theorem dX12_has_1 : decode cX12_has 1 = .ok (.getfield 49, 3) := by decide +kernel
theorem dX12_has_4 : decode cX12_has 4 = .ok (.sipush 240, 3) := by decide +kernel
theorem dX12_has_7 : decode cX12_has 7 = .ok (.aload_n 0, 1) := by decide +kernel
theorem dX12_has_8 : decode cX12_has 8 = .ok (.getfield 386, 3) := by decide +kernel
theorem dX12_has_11 : decode cX12_has 11 = .ok (.imul, 1) := by decide +kernel
theorem dX12_has_12 : decode cX12_has 12 = .ok (.bipush 60, 2) := by decide +kernel
theorem dX12_has_14 : decode cX12_has 14 = .ok (.iload_n 1, 1) := by decide +kernel
theorem dX12_has_15 : decode cX12_has 15 = .ok (.imul, 1) := by decide +kernel
theorem dX12_has_16 : decode cX12_has 16 = .ok (.iadd, 1) := by decide +kernel
theorem dX12_has_17 : decode cX12_has 17 = .ok (.iload_n 2, 1) := by decide +kernel
theorem dX12_has_18 : decode cX12_has 18 = .ok (.iadd, 1) := by decide +kernel
theorem dX12_has_19 : decode cX12_has 19 = .ok (.baload, 1) := by decide +kernel
theorem dX12_has_20 : decode cX12_has 20 = .ok (.ireturn, 1) := by decide +kernel
theorem dX12_head_0 : decode cX12_head 0 = .ok (.iload_n 1, 1) := by decide +kernel
theorem dX12_head_1 : decode cX12_head 1 = .ok (.iconst 1, 1) := by decide +kernel
theorem dX12_head_2 : decode cX12_head 2 = .ok (.sipush 300, 3) := by decide +kernel
theorem dX12_head_5 : decode cX12_head 5 = .ok (.invokestatic 503, 3) := by decide +kernel
theorem dX12_head_8 : decode cX12_head 8 = .ok (.ifCond .ne 5, 3) := by decide +kernel
theorem dX12_head_11 : decode cX12_head 11 = .ok (.iconst (-1), 1) := by decide +kernel
theorem dX12_head_12 : decode cX12_head 12 = .ok (.ireturn, 1) := by decide +kernel
theorem dX12_head_13 : decode cX12_head 13 = .ok (.aload_n 0, 1) := by decide +kernel
theorem dX12_head_14 : decode cX12_head 14 = .ok (.iconst 3, 1) := by decide +kernel
theorem dX12_head_15 : decode cX12_head 15 = .ok (.invokevirtual 638, 3) := by decide +kernel
theorem dX12_head_18 : decode cX12_head 18 = .ok (.aload_n 0, 1) := by decide +kernel
theorem dX12_head_19 : decode cX12_head 19 = .ok (.iload_n 1, 1) := by decide +kernel
theorem dX12_head_20 : decode cX12_head 20 = .ok (.invokevirtual 669, 3) := by decide +kernel
theorem dX12_head_23 : decode cX12_head 23 = .ok (.istore_n 2, 1) := by decide +kernel
theorem dX12_head_24 : decode cX12_head 24 = .ok (.aload_n 0, 1) := by decide +kernel
theorem dX12_head_25 : decode cX12_head 25 = .ok (.iconst 3, 1) := by decide +kernel
theorem dX12_head_26 : decode cX12_head 26 = .ok (.invokevirtual 644, 3) := by decide +kernel
theorem dX12_head_29 : decode cX12_head 29 = .ok (.iload_n 2, 1) := by decide +kernel
theorem dX12_head_30 : decode cX12_head 30 = .ok (.ireturn, 1) := by decide +kernel
theorem dX12_headOf_0 : decode cX12_headOf 0 = .ok (.iconst (-1), 1) := by decide +kernel
theorem dX12_headOf_1 : decode cX12_headOf 1 = .ok (.istore_n 2, 1) := by decide +kernel
theorem dX12_headOf_2 : decode cX12_headOf 2 = .ok (.iconst 0, 1) := by decide +kernel
theorem dX12_headOf_3 : decode cX12_headOf 3 = .ok (.istore_n 3, 1) := by decide +kernel
theorem dX12_headOf_4 : decode cX12_headOf 4 = .ok (.iload_n 3, 1) := by decide +kernel
theorem dX12_headOf_5 : decode cX12_headOf 5 = .ok (.iload_n 1, 1) := by decide +kernel
theorem dX12_headOf_6 : decode cX12_headOf 6 = .ok (.if_icmp .ge 109, 3) := by decide +kernel
theorem dX12_headOf_9 : decode cX12_headOf 9 = .ok (.aload_n 0, 1) := by decide +kernel
theorem dX12_headOf_10 : decode cX12_headOf 10 = .ok (.invokevirtual 622, 3) := by decide +kernel
theorem dX12_headOf_13 : decode cX12_headOf 13 = .ok (.iconst 0, 1) := by decide +kernel
theorem dX12_headOf_14 : decode cX12_headOf 14 = .ok (.istore 4, 2) := by decide +kernel
theorem dX12_headOf_16 : decode cX12_headOf 16 = .ok (.iload 4, 2) := by decide +kernel
theorem dX12_headOf_18 : decode cX12_headOf 18 = .ok (.aload_n 0, 1) := by decide +kernel
theorem dX12_headOf_19 : decode cX12_headOf 19 = .ok (.invokevirtual 477, 3) := by decide +kernel
theorem dX12_headOf_22 : decode cX12_headOf 22 = .ok (.if_icmp .ge 87, 3) := by decide +kernel
theorem dX12_headOf_109 : decode cX12_headOf 109 = .ok (.iinc 3 1, 3) := by decide +kernel
theorem dX12_headOf_112 : decode cX12_headOf 112 = .ok (.goto (-108), 3) := by decide +kernel
theorem dX12_headOf_115 : decode cX12_headOf 115 = .ok (.iload_n 2, 1) := by decide +kernel
theorem dX12_headOf_116 : decode cX12_headOf 116 = .ok (.ireturn, 1) := by decide +kernel
theorem dX12_image_0 : decode cX12_image 0 = .ok (.iload_n 1, 1) := by decide +kernel
theorem dX12_image_1 : decode cX12_image 1 = .ok (.iconst 0, 1) := by decide +kernel
theorem dX12_image_2 : decode cX12_image 2 = .ok (.iconst 2, 1) := by decide +kernel
theorem dX12_image_3 : decode cX12_image 3 = .ok (.invokestatic 503, 3) := by decide +kernel
theorem dX12_image_6 : decode cX12_image 6 = .ok (.ifCond .ne 5, 3) := by decide +kernel
theorem dX12_image_9 : decode cX12_image 9 = .ok (.iconst (-1), 1) := by decide +kernel
theorem dX12_image_10 : decode cX12_image 10 = .ok (.ireturn, 1) := by decide +kernel
theorem dX12_image_11 : decode cX12_image 11 = .ok (.aload_n 0, 1) := by decide +kernel
theorem dX12_image_12 : decode cX12_image 12 = .ok (.iload_n 1, 1) := by decide +kernel
theorem dX12_image_13 : decode cX12_image 13 = .ok (.invokevirtual 638, 3) := by decide +kernel
theorem dX12_image_16 : decode cX12_image 16 = .ok (.aload_n 0, 1) := by decide +kernel
theorem dX12_image_17 : decode cX12_image 17 = .ok (.getfield 483, 3) := by decide +kernel
theorem dX12_image_20 : decode cX12_image 20 = .ok (.ireturn, 1) := by decide +kernel
theorem dX12_isCar_0 : decode cX12_isCar 0 = .ok (.iload_n 1, 1) := by decide +kernel
theorem dX12_isCar_1 : decode cX12_isCar 1 = .ok (.iconst 0, 1) := by decide +kernel
theorem dX12_isCar_2 : decode cX12_isCar 2 = .ok (.aload_n 0, 1) := by decide +kernel
theorem dX12_isCar_3 : decode cX12_isCar 3 = .ok (.invokevirtual 477, 3) := by decide +kernel
theorem dX12_isCar_6 : decode cX12_isCar 6 = .ok (.iconst 1, 1) := by decide +kernel
theorem dX12_isCar_7 : decode cX12_isCar 7 = .ok (.isub, 1) := by decide +kernel
theorem dX12_isCar_8 : decode cX12_isCar 8 = .ok (.invokestatic 503, 3) := by decide +kernel
theorem dX12_isCar_11 : decode cX12_isCar 11 = .ok (.ireturn, 1) := by decide +kernel
theorem dX12_isGood_0 : decode cX12_isGood 0 = .ok (.aload_n 0, 1) := by decide +kernel
theorem dX12_isGood_1 : decode cX12_isGood 1 = .ok (.getfield 263, 3) := by decide +kernel
theorem dX12_isGood_4 : decode cX12_isGood 4 = .ok (.ifCond .ne 7, 3) := by decide +kernel
theorem dX12_isGood_7 : decode cX12_isGood 7 = .ok (.iconst 1, 1) := by decide +kernel
theorem dX12_isGood_8 : decode cX12_isGood 8 = .ok (.goto 4, 3) := by decide +kernel
theorem dX12_isGood_12 : decode cX12_isGood 12 = .ok (.ireturn, 1) := by decide +kernel
theorem dX12_isIn_0 : decode cX12_isIn 0 = .ok (.iload_n 0, 1) := by decide +kernel
theorem dX12_isIn_1 : decode cX12_isIn 1 = .ok (.iload_n 1, 1) := by decide +kernel
theorem dX12_isIn_2 : decode cX12_isIn 2 = .ok (.if_icmp .lt 12, 3) := by decide +kernel
theorem dX12_isIn_5 : decode cX12_isIn 5 = .ok (.iload_n 0, 1) := by decide +kernel
theorem dX12_isIn_6 : decode cX12_isIn 6 = .ok (.iload_n 2, 1) := by decide +kernel
theorem dX12_isIn_7 : decode cX12_isIn 7 = .ok (.if_icmp .gt 7, 3) := by decide +kernel
theorem dX12_isIn_10 : decode cX12_isIn 10 = .ok (.iconst 1, 1) := by decide +kernel
theorem dX12_isIn_11 : decode cX12_isIn 11 = .ok (.goto 4, 3) := by decide +kernel
theorem dX12_isIn_14 : decode cX12_isIn 14 = .ok (.iconst 0, 1) := by decide +kernel
theorem dX12_isIn_15 : decode cX12_isIn 15 = .ok (.ireturn, 1) := by decide +kernel
theorem dX12_isPlace_0 : decode cX12_isPlace 0 = .ok (.aload_n 0, 1) := by decide +kernel
theorem dX12_isPlace_1 : decode cX12_isPlace 1 = .ok (.iload_n 1, 1) := by decide +kernel
theorem dX12_isPlace_2 : decode cX12_isPlace 2 = .ok (.invokevirtual 631, 3) := by decide +kernel
theorem dX12_isPlace_5 : decode cX12_isPlace 5 = .ok (.ifCond .eq 33, 3) := by decide +kernel
theorem dX12_isPlace_38 : decode cX12_isPlace 38 = .ok (.iconst 0, 1) := by decide +kernel
theorem dX12_isPlace_39 : decode cX12_isPlace 39 = .ok (.ireturn, 1) := by decide +kernel
theorem dX12_isRope_0 : decode cX12_isRope 0 = .ok (.iload_n 1, 1) := by decide +kernel
theorem dX12_isRope_1 : decode cX12_isRope 1 = .ok (.iconst 0, 1) := by decide +kernel
theorem dX12_isRope_2 : decode cX12_isRope 2 = .ok (.aload_n 0, 1) := by decide +kernel
theorem dX12_isRope_3 : decode cX12_isRope 3 = .ok (.getfield 20, 3) := by decide +kernel
theorem dX12_isRope_6 : decode cX12_isRope 6 = .ok (.aload_n 0, 1) := by decide +kernel
theorem dX12_isRope_7 : decode cX12_isRope 7 = .ok (.getfield 386, 3) := by decide +kernel
theorem dX12_isRope_10 : decode cX12_isRope 10 = .ok (.iaload, 1) := by decide +kernel
theorem dX12_isRope_11 : decode cX12_isRope 11 = .ok (.iconst 1, 1) := by decide +kernel
theorem dX12_isRope_12 : decode cX12_isRope 12 = .ok (.isub, 1) := by decide +kernel
theorem dX12_isRope_13 : decode cX12_isRope 13 = .ok (.invokestatic 503, 3) := by decide +kernel
theorem dX12_isRope_16 : decode cX12_isRope 16 = .ok (.ireturn, 1) := by decide +kernel
theorem dX12_isSegment_0 : decode cX12_isSegment 0 = .ok (.iload_n 0, 1) := by decide +kernel
theorem dX12_isSegment_1 : decode cX12_isSegment 1 = .ok (.iconst 0, 1) := by decide +kernel
theorem dX12_isSegment_2 : decode cX12_isSegment 2 = .ok (.bipush 59, 2) := by decide +kernel
theorem dX12_isSegment_4 : decode cX12_isSegment 4 = .ok (.invokestatic 503, 3) := by decide +kernel
theorem dX12_isSegment_7 : decode cX12_isSegment 7 = .ok (.ireturn, 1) := by decide +kernel
theorem dX12_judge_0 : decode cX12_judge 0 = .ok (.iload_n 1, 1) := by decide +kernel
theorem dX12_judge_1 : decode cX12_judge 1 = .ok (.iconst 0, 1) := by decide +kernel
theorem dX12_judge_2 : decode cX12_judge 2 = .ok (.iconst 1, 1) := by decide +kernel
theorem dX12_judge_3 : decode cX12_judge 3 = .ok (.invokestatic 503, 3) := by decide +kernel
theorem dX12_judge_6 : decode cX12_judge 6 = .ok (.ifCond .ne 5, 3) := by decide +kernel
theorem dX12_judge_9 : decode cX12_judge 9 = .ok (.iconst (-1), 1) := by decide +kernel
theorem dX12_judge_10 : decode cX12_judge 10 = .ok (.ireturn, 1) := by decide +kernel
theorem dX12_judge_11 : decode cX12_judge 11 = .ok (.aload_n 0, 1) := by decide +kernel
theorem dX12_judge_12 : decode cX12_judge 12 = .ok (.invokevirtual 675, 3) := by decide +kernel
theorem dX12_judge_15 : decode cX12_judge 15 = .ok (.iconst 0, 1) := by decide +kernel
theorem dX12_judge_16 : decode cX12_judge 16 = .ok (.istore_n 3, 1) := by decide +kernel
theorem dX12_judge_17 : decode cX12_judge 17 = .ok (.iconst (-1), 1) := by decide +kernel
theorem dX12_judge_18 : decode cX12_judge 18 = .ok (.istore 4, 2) := by decide +kernel
theorem dX12_judge_20 : decode cX12_judge 20 = .ok (.aload_n 0, 1) := by decide +kernel
theorem dX12_judge_21 : decode cX12_judge 21 = .ok (.getfield 392, 3) := by decide +kernel
theorem dX12_judge_24 : decode cX12_judge 24 = .ok (.iconst 1, 1) := by decide +kernel
theorem dX12_judge_25 : decode cX12_judge 25 = .ok (.isub, 1) := by decide +kernel
theorem dX12_judge_26 : decode cX12_judge 26 = .ok (.istore 5, 2) := by decide +kernel
theorem dX12_judge_28 : decode cX12_judge 28 = .ok (.iload 5, 2) := by decide +kernel
theorem dX12_judge_30 : decode cX12_judge 30 = .ok (.ifCond .lt 39, 3) := by decide +kernel
theorem dX12_judge_69 : decode cX12_judge 69 = .ok (.iload_n 1, 1) := by decide +kernel
theorem dX12_judge_70 : decode cX12_judge 70 = .ok (.ifCond .ne 7, 3) := by decide +kernel
theorem dX12_judge_73 : decode cX12_judge 73 = .ok (.iload_n 3, 1) := by decide +kernel
theorem dX12_judge_74 : decode cX12_judge 74 = .ok (.goto 5, 3) := by decide +kernel
theorem dX12_judge_77 : decode cX12_judge 77 = .ok (.iload 4, 2) := by decide +kernel
theorem dX12_judge_79 : decode cX12_judge 79 = .ok (.ireturn, 1) := by decide +kernel
theorem dX12_keep_0 : decode cX12_keep 0 = .ok (.aload_n 0, 1) := by decide +kernel
theorem dX12_keep_1 : decode cX12_keep 1 = .ok (.getfield 209, 3) := by decide +kernel
theorem dX12_keep_4 : decode cX12_keep 4 = .ok (.iload_n 1, 1) := by decide +kernel
theorem dX12_keep_5 : decode cX12_keep 5 = .ok (.aload_n 0, 1) := by decide +kernel
theorem dX12_keep_6 : decode cX12_keep 6 = .ok (.getfield 483, 3) := by decide +kernel
theorem dX12_keep_9 : decode cX12_keep 9 = .ok (.iastore, 1) := by decide +kernel
theorem dX12_keep_10 : decode cX12_keep 10 = .ok (.bipush 20, 2) := by decide +kernel
theorem dX12_keep_12 : decode cX12_keep 12 = .ok (.iload_n 1, 1) := by decide +kernel
theorem dX12_keep_13 : decode cX12_keep 13 = .ok (.imul, 1) := by decide +kernel
theorem dX12_keep_14 : decode cX12_keep 14 = .ok (.istore_n 2, 1) := by decide +kernel
theorem dX12_keep_15 : decode cX12_keep 15 = .ok (.aload_n 0, 1) := by decide +kernel
theorem dX12_keep_16 : decode cX12_keep 16 = .ok (.getfield 212, 3) := by decide +kernel
theorem dX12_keep_19 : decode cX12_keep 19 = .ok (.iload_n 2, 1) := by decide +kernel
theorem dX12_keep_20 : decode cX12_keep 20 = .ok (.aload_n 0, 1) := by decide +kernel
theorem dX12_keep_21 : decode cX12_keep 21 = .ok (.getfield 507, 3) := by decide +kernel
theorem dX12_keep_24 : decode cX12_keep 24 = .ok (.iastore, 1) := by decide +kernel
theorem dX12_keep_25 : decode cX12_keep 25 = .ok (.aload_n 0, 1) := by decide +kernel
theorem dX12_keep_26 : decode cX12_keep 26 = .ok (.getfield 212, 3) := by decide +kernel
theorem dX12_keep_29 : decode cX12_keep 29 = .ok (.iload_n 2, 1) := by decide +kernel
theorem dX12_keep_30 : decode cX12_keep 30 = .ok (.iconst 1, 1) := by decide +kernel
theorem dX12_keep_31 : decode cX12_keep 31 = .ok (.iadd, 1) := by decide +kernel
theorem dX12_keep_32 : decode cX12_keep 32 = .ok (.aload_n 0, 1) := by decide +kernel
theorem dX12_keep_33 : decode cX12_keep 33 = .ok (.getfield 510, 3) := by decide +kernel
theorem dX12_keep_36 : decode cX12_keep 36 = .ok (.iastore, 1) := by decide +kernel
theorem dX12_keep_37 : decode cX12_keep 37 = .ok (.aload_n 0, 1) := by decide +kernel
theorem dX12_keep_38 : decode cX12_keep 38 = .ok (.getfield 212, 3) := by decide +kernel
theorem dX12_keep_41 : decode cX12_keep 41 = .ok (.iload_n 2, 1) := by decide +kernel
theorem dX12_keep_42 : decode cX12_keep 42 = .ok (.iconst 2, 1) := by decide +kernel
theorem dX12_keep_43 : decode cX12_keep 43 = .ok (.iadd, 1) := by decide +kernel
theorem dX12_keep_44 : decode cX12_keep 44 = .ok (.aload_n 0, 1) := by decide +kernel
theorem dX12_keep_45 : decode cX12_keep 45 = .ok (.getfield 513, 3) := by decide +kernel
theorem dX12_keep_48 : decode cX12_keep 48 = .ok (.iastore, 1) := by decide +kernel
theorem dX12_keep_49 : decode cX12_keep 49 = .ok (.aload_n 0, 1) := by decide +kernel
theorem dX12_keep_50 : decode cX12_keep 50 = .ok (.getfield 212, 3) := by decide +kernel
theorem dX12_keep_53 : decode cX12_keep 53 = .ok (.iload_n 2, 1) := by decide +kernel
theorem dX12_keep_54 : decode cX12_keep 54 = .ok (.iconst 3, 1) := by decide +kernel
theorem dX12_keep_55 : decode cX12_keep 55 = .ok (.iadd, 1) := by decide +kernel
theorem dX12_keep_56 : decode cX12_keep 56 = .ok (.aload_n 0, 1) := by decide +kernel
theorem dX12_keep_57 : decode cX12_keep 57 = .ok (.getfield 516, 3) := by decide +kernel
theorem dX12_keep_60 : decode cX12_keep 60 = .ok (.iastore, 1) := by decide +kernel
theorem dX12_keep_61 : decode cX12_keep 61 = .ok (.aload_n 0, 1) := by decide +kernel
theorem dX12_keep_62 : decode cX12_keep 62 = .ok (.getfield 212, 3) := by decide +kernel
theorem dX12_keep_65 : decode cX12_keep 65 = .ok (.iload_n 2, 1) := by decide +kernel
theorem dX12_keep_66 : decode cX12_keep 66 = .ok (.iconst 4, 1) := by decide +kernel
theorem dX12_keep_67 : decode cX12_keep 67 = .ok (.iadd, 1) := by decide +kernel
theorem dX12_keep_68 : decode cX12_keep 68 = .ok (.aload_n 0, 1) := by decide +kernel
theorem dX12_keep_69 : decode cX12_keep 69 = .ok (.getfield 519, 3) := by decide +kernel
theorem dX12_keep_72 : decode cX12_keep 72 = .ok (.iastore, 1) := by decide +kernel
theorem dX12_keep_73 : decode cX12_keep 73 = .ok (.aload_n 0, 1) := by decide +kernel
theorem dX12_keep_74 : decode cX12_keep 74 = .ok (.getfield 212, 3) := by decide +kernel
theorem dX12_keep_77 : decode cX12_keep 77 = .ok (.iload_n 2, 1) := by decide +kernel
theorem dX12_keep_78 : decode cX12_keep 78 = .ok (.iconst 5, 1) := by decide +kernel
theorem dX12_keep_79 : decode cX12_keep 79 = .ok (.iadd, 1) := by decide +kernel
theorem dX12_keep_80 : decode cX12_keep 80 = .ok (.aload_n 0, 1) := by decide +kernel
theorem dX12_keep_81 : decode cX12_keep 81 = .ok (.getfield 522, 3) := by decide +kernel
theorem dX12_keep_84 : decode cX12_keep 84 = .ok (.iastore, 1) := by decide +kernel
theorem dX12_keep_85 : decode cX12_keep 85 = .ok (.aload_n 0, 1) := by decide +kernel
theorem dX12_keep_86 : decode cX12_keep 86 = .ok (.getfield 212, 3) := by decide +kernel
theorem dX12_keep_89 : decode cX12_keep 89 = .ok (.iload_n 2, 1) := by decide +kernel
theorem dX12_keep_90 : decode cX12_keep 90 = .ok (.bipush 6, 2) := by decide +kernel
theorem dX12_keep_92 : decode cX12_keep 92 = .ok (.iadd, 1) := by decide +kernel
theorem dX12_keep_93 : decode cX12_keep 93 = .ok (.aload_n 0, 1) := by decide +kernel
theorem dX12_keep_94 : decode cX12_keep 94 = .ok (.getfield 525, 3) := by decide +kernel
theorem dX12_keep_97 : decode cX12_keep 97 = .ok (.iastore, 1) := by decide +kernel
theorem dX12_keep_98 : decode cX12_keep 98 = .ok (.aload_n 0, 1) := by decide +kernel
theorem dX12_keep_99 : decode cX12_keep 99 = .ok (.getfield 212, 3) := by decide +kernel
theorem dX12_keep_102 : decode cX12_keep 102 = .ok (.iload_n 2, 1) := by decide +kernel
theorem dX12_keep_103 : decode cX12_keep 103 = .ok (.bipush 7, 2) := by decide +kernel
theorem dX12_keep_105 : decode cX12_keep 105 = .ok (.iadd, 1) := by decide +kernel
theorem dX12_keep_106 : decode cX12_keep 106 = .ok (.aload_n 0, 1) := by decide +kernel
theorem dX12_keep_107 : decode cX12_keep 107 = .ok (.getfield 531, 3) := by decide +kernel
theorem dX12_keep_110 : decode cX12_keep 110 = .ok (.iastore, 1) := by decide +kernel
theorem dX12_keep_111 : decode cX12_keep 111 = .ok (.aload_n 0, 1) := by decide +kernel
theorem dX12_keep_112 : decode cX12_keep 112 = .ok (.getfield 212, 3) := by decide +kernel
theorem dX12_keep_115 : decode cX12_keep 115 = .ok (.iload_n 2, 1) := by decide +kernel
theorem dX12_keep_116 : decode cX12_keep 116 = .ok (.bipush 8, 2) := by decide +kernel
theorem dX12_keep_118 : decode cX12_keep 118 = .ok (.iadd, 1) := by decide +kernel
theorem dX12_keep_119 : decode cX12_keep 119 = .ok (.aload_n 0, 1) := by decide +kernel
theorem dX12_keep_120 : decode cX12_keep 120 = .ok (.getfield 534, 3) := by decide +kernel
theorem dX12_keep_123 : decode cX12_keep 123 = .ok (.iastore, 1) := by decide +kernel
theorem dX12_keep_124 : decode cX12_keep 124 = .ok (.aload_n 0, 1) := by decide +kernel
theorem dX12_keep_125 : decode cX12_keep 125 = .ok (.getfield 212, 3) := by decide +kernel
theorem dX12_keep_128 : decode cX12_keep 128 = .ok (.iload_n 2, 1) := by decide +kernel
theorem dX12_keep_129 : decode cX12_keep 129 = .ok (.bipush 9, 2) := by decide +kernel
theorem dX12_keep_131 : decode cX12_keep 131 = .ok (.iadd, 1) := by decide +kernel
theorem dX12_keep_132 : decode cX12_keep 132 = .ok (.aload_n 0, 1) := by decide +kernel
theorem dX12_keep_133 : decode cX12_keep 133 = .ok (.getfield 537, 3) := by decide +kernel
theorem dX12_keep_136 : decode cX12_keep 136 = .ok (.iastore, 1) := by decide +kernel
theorem dX12_keep_137 : decode cX12_keep 137 = .ok (.aload_n 0, 1) := by decide +kernel
theorem dX12_keep_138 : decode cX12_keep 138 = .ok (.getfield 212, 3) := by decide +kernel
theorem dX12_keep_141 : decode cX12_keep 141 = .ok (.iload_n 2, 1) := by decide +kernel
theorem dX12_keep_142 : decode cX12_keep 142 = .ok (.bipush 10, 2) := by decide +kernel
theorem dX12_keep_144 : decode cX12_keep 144 = .ok (.iadd, 1) := by decide +kernel
theorem dX12_keep_145 : decode cX12_keep 145 = .ok (.aload_n 0, 1) := by decide +kernel
theorem dX12_keep_146 : decode cX12_keep 146 = .ok (.getfield 540, 3) := by decide +kernel
theorem dX12_keep_149 : decode cX12_keep 149 = .ok (.iastore, 1) := by decide +kernel
theorem dX12_keep_150 : decode cX12_keep 150 = .ok (.aload_n 0, 1) := by decide +kernel
theorem dX12_keep_151 : decode cX12_keep 151 = .ok (.getfield 212, 3) := by decide +kernel
theorem dX12_keep_154 : decode cX12_keep 154 = .ok (.iload_n 2, 1) := by decide +kernel
theorem dX12_keep_155 : decode cX12_keep 155 = .ok (.bipush 11, 2) := by decide +kernel
theorem dX12_keep_157 : decode cX12_keep 157 = .ok (.iadd, 1) := by decide +kernel
theorem dX12_keep_158 : decode cX12_keep 158 = .ok (.aload_n 0, 1) := by decide +kernel
theorem dX12_keep_159 : decode cX12_keep 159 = .ok (.getfield 543, 3) := by decide +kernel
theorem dX12_keep_162 : decode cX12_keep 162 = .ok (.iastore, 1) := by decide +kernel
theorem dX12_keep_163 : decode cX12_keep 163 = .ok (.aload_n 0, 1) := by decide +kernel
theorem dX12_keep_164 : decode cX12_keep 164 = .ok (.getfield 212, 3) := by decide +kernel
theorem dX12_keep_167 : decode cX12_keep 167 = .ok (.iload_n 2, 1) := by decide +kernel
theorem dX12_keep_168 : decode cX12_keep 168 = .ok (.bipush 12, 2) := by decide +kernel
theorem dX12_keep_170 : decode cX12_keep 170 = .ok (.iadd, 1) := by decide +kernel
theorem dX12_keep_171 : decode cX12_keep 171 = .ok (.aload_n 0, 1) := by decide +kernel
theorem dX12_keep_172 : decode cX12_keep 172 = .ok (.getfield 546, 3) := by decide +kernel
theorem dX12_keep_175 : decode cX12_keep 175 = .ok (.iastore, 1) := by decide +kernel
theorem dX12_keep_176 : decode cX12_keep 176 = .ok (.aload_n 0, 1) := by decide +kernel
theorem dX12_keep_177 : decode cX12_keep 177 = .ok (.iload_n 1, 1) := by decide +kernel
theorem dX12_keep_178 : decode cX12_keep 178 = .ok (.invokevirtual 684, 3) := by decide +kernel
theorem dX12_keep_181 : decode cX12_keep 181 = .ok (.iconst 0, 1) := by decide +kernel
theorem dX12_keep_182 : decode cX12_keep 182 = .ok (.istore_n 3, 1) := by decide +kernel
theorem dX12_keep_183 : decode cX12_keep 183 = .ok (.iload_n 3, 1) := by decide +kernel
theorem dX12_keep_184 : decode cX12_keep 184 = .ok (.bipush 6, 2) := by decide +kernel
theorem dX12_keep_186 : decode cX12_keep 186 = .ok (.if_icmp .ge 43, 3) := by decide +kernel
theorem dX12_keep_189 : decode cX12_keep 189 = .ok (.aload_n 0, 1) := by decide +kernel
theorem dX12_keep_190 : decode cX12_keep 190 = .ok (.getfield 221, 3) := by decide +kernel
theorem dX12_keep_193 : decode cX12_keep 193 = .ok (.bipush 6, 2) := by decide +kernel
theorem dX12_keep_195 : decode cX12_keep 195 = .ok (.iload_n 1, 1) := by decide +kernel
theorem dX12_keep_196 : decode cX12_keep 196 = .ok (.imul, 1) := by decide +kernel
theorem dX12_keep_197 : decode cX12_keep 197 = .ok (.iload_n 3, 1) := by decide +kernel
theorem dX12_keep_198 : decode cX12_keep 198 = .ok (.iadd, 1) := by decide +kernel
theorem dX12_keep_199 : decode cX12_keep 199 = .ok (.aload_n 0, 1) := by decide +kernel
theorem dX12_keep_200 : decode cX12_keep 200 = .ok (.getfield 170, 3) := by decide +kernel
theorem dX12_keep_203 : decode cX12_keep 203 = .ok (.iload_n 3, 1) := by decide +kernel
theorem dX12_keep_204 : decode cX12_keep 204 = .ok (.iaload, 1) := by decide +kernel
theorem dX12_keep_205 : decode cX12_keep 205 = .ok (.iastore, 1) := by decide +kernel
theorem dX12_keep_206 : decode cX12_keep 206 = .ok (.aload_n 0, 1) := by decide +kernel
theorem dX12_keep_207 : decode cX12_keep 207 = .ok (.getfield 224, 3) := by decide +kernel
theorem dX12_keep_210 : decode cX12_keep 210 = .ok (.bipush 6, 2) := by decide +kernel
theorem dX12_keep_212 : decode cX12_keep 212 = .ok (.iload_n 1, 1) := by decide +kernel
theorem dX12_keep_213 : decode cX12_keep 213 = .ok (.imul, 1) := by decide +kernel
theorem dX12_keep_214 : decode cX12_keep 214 = .ok (.iload_n 3, 1) := by decide +kernel
theorem dX12_keep_215 : decode cX12_keep 215 = .ok (.iadd, 1) := by decide +kernel
theorem dX12_keep_216 : decode cX12_keep 216 = .ok (.aload_n 0, 1) := by decide +kernel
theorem dX12_keep_217 : decode cX12_keep 217 = .ok (.getfield 173, 3) := by decide +kernel
theorem dX12_keep_220 : decode cX12_keep 220 = .ok (.iload_n 3, 1) := by decide +kernel
theorem dX12_keep_221 : decode cX12_keep 221 = .ok (.iaload, 1) := by decide +kernel
theorem dX12_keep_222 : decode cX12_keep 222 = .ok (.iastore, 1) := by decide +kernel
theorem dX12_keep_223 : decode cX12_keep 223 = .ok (.iinc 3 1, 3) := by decide +kernel
theorem dX12_keep_226 : decode cX12_keep 226 = .ok (.goto (-43), 3) := by decide +kernel
theorem dX12_keep_229 : decode cX12_keep 229 = .ok (.iconst 0, 1) := by decide +kernel
theorem dX12_keep_230 : decode cX12_keep 230 = .ok (.istore_n 3, 1) := by decide +kernel
theorem dX12_keep_231 : decode cX12_keep 231 = .ok (.iload_n 3, 1) := by decide +kernel
theorem dX12_keep_232 : decode cX12_keep 232 = .ok (.iconst 5, 1) := by decide +kernel
theorem dX12_keep_233 : decode cX12_keep 233 = .ok (.if_icmp .ge 133, 3) := by decide +kernel
theorem dX12_keep_236 : decode cX12_keep 236 = .ok (.iconst 5, 1) := by decide +kernel
theorem dX12_keep_237 : decode cX12_keep 237 = .ok (.iload_n 1, 1) := by decide +kernel
theorem dX12_keep_238 : decode cX12_keep 238 = .ok (.imul, 1) := by decide +kernel
theorem dX12_keep_239 : decode cX12_keep 239 = .ok (.iload_n 3, 1) := by decide +kernel
theorem dX12_keep_240 : decode cX12_keep 240 = .ok (.iadd, 1) := by decide +kernel
theorem dX12_keep_241 : decode cX12_keep 241 = .ok (.istore 4, 2) := by decide +kernel
theorem dX12_keep_243 : decode cX12_keep 243 = .ok (.aload_n 0, 1) := by decide +kernel
theorem dX12_keep_244 : decode cX12_keep 244 = .ok (.getfield 230, 3) := by decide +kernel
theorem dX12_keep_247 : decode cX12_keep 247 = .ok (.iload 4, 2) := by decide +kernel
theorem dX12_keep_249 : decode cX12_keep 249 = .ok (.aload_n 0, 1) := by decide +kernel
theorem dX12_keep_250 : decode cX12_keep 250 = .ok (.getfield 137, 3) := by decide +kernel
theorem dX12_keep_253 : decode cX12_keep 253 = .ok (.iload_n 3, 1) := by decide +kernel
theorem dX12_keep_254 : decode cX12_keep 254 = .ok (.iaload, 1) := by decide +kernel
theorem dX12_keep_255 : decode cX12_keep 255 = .ok (.iastore, 1) := by decide +kernel
theorem dX12_keep_256 : decode cX12_keep 256 = .ok (.aload_n 0, 1) := by decide +kernel
theorem dX12_keep_257 : decode cX12_keep 257 = .ok (.getfield 233, 3) := by decide +kernel
theorem dX12_keep_260 : decode cX12_keep 260 = .ok (.iload 4, 2) := by decide +kernel
theorem dX12_keep_262 : decode cX12_keep 262 = .ok (.aload_n 0, 1) := by decide +kernel
theorem dX12_keep_263 : decode cX12_keep 263 = .ok (.getfield 140, 3) := by decide +kernel
theorem dX12_keep_266 : decode cX12_keep 266 = .ok (.iload_n 3, 1) := by decide +kernel
theorem dX12_keep_267 : decode cX12_keep 267 = .ok (.iaload, 1) := by decide +kernel
theorem dX12_keep_268 : decode cX12_keep 268 = .ok (.iastore, 1) := by decide +kernel
theorem dX12_keep_269 : decode cX12_keep 269 = .ok (.aload_n 0, 1) := by decide +kernel
theorem dX12_keep_270 : decode cX12_keep 270 = .ok (.getfield 236, 3) := by decide +kernel
theorem dX12_keep_273 : decode cX12_keep 273 = .ok (.iload 4, 2) := by decide +kernel
theorem dX12_keep_275 : decode cX12_keep 275 = .ok (.aload_n 0, 1) := by decide +kernel
theorem dX12_keep_276 : decode cX12_keep 276 = .ok (.getfield 143, 3) := by decide +kernel
theorem dX12_keep_279 : decode cX12_keep 279 = .ok (.iload_n 3, 1) := by decide +kernel
theorem dX12_keep_280 : decode cX12_keep 280 = .ok (.iaload, 1) := by decide +kernel
theorem dX12_keep_281 : decode cX12_keep 281 = .ok (.iastore, 1) := by decide +kernel
theorem dX12_keep_282 : decode cX12_keep 282 = .ok (.aload_n 0, 1) := by decide +kernel
theorem dX12_keep_283 : decode cX12_keep 283 = .ok (.getfield 239, 3) := by decide +kernel
theorem dX12_keep_286 : decode cX12_keep 286 = .ok (.iload 4, 2) := by decide +kernel
theorem dX12_keep_288 : decode cX12_keep 288 = .ok (.aload_n 0, 1) := by decide +kernel
theorem dX12_keep_289 : decode cX12_keep 289 = .ok (.getfield 146, 3) := by decide +kernel
theorem dX12_keep_292 : decode cX12_keep 292 = .ok (.iload_n 3, 1) := by decide +kernel
theorem dX12_keep_293 : decode cX12_keep 293 = .ok (.iaload, 1) := by decide +kernel
theorem dX12_keep_294 : decode cX12_keep 294 = .ok (.iastore, 1) := by decide +kernel
theorem dX12_keep_295 : decode cX12_keep 295 = .ok (.aload_n 0, 1) := by decide +kernel
theorem dX12_keep_296 : decode cX12_keep 296 = .ok (.getfield 242, 3) := by decide +kernel
theorem dX12_keep_299 : decode cX12_keep 299 = .ok (.iload 4, 2) := by decide +kernel
theorem dX12_keep_301 : decode cX12_keep 301 = .ok (.aload_n 0, 1) := by decide +kernel
theorem dX12_keep_302 : decode cX12_keep 302 = .ok (.getfield 149, 3) := by decide +kernel
theorem dX12_keep_305 : decode cX12_keep 305 = .ok (.iload_n 3, 1) := by decide +kernel
theorem dX12_keep_306 : decode cX12_keep 306 = .ok (.iaload, 1) := by decide +kernel
theorem dX12_keep_307 : decode cX12_keep 307 = .ok (.iastore, 1) := by decide +kernel
theorem dX12_keep_308 : decode cX12_keep 308 = .ok (.aload_n 0, 1) := by decide +kernel
theorem dX12_keep_309 : decode cX12_keep 309 = .ok (.getfield 245, 3) := by decide +kernel
theorem dX12_keep_312 : decode cX12_keep 312 = .ok (.iload 4, 2) := by decide +kernel
theorem dX12_keep_314 : decode cX12_keep 314 = .ok (.aload_n 0, 1) := by decide +kernel
theorem dX12_keep_315 : decode cX12_keep 315 = .ok (.getfield 155, 3) := by decide +kernel
theorem dX12_keep_318 : decode cX12_keep 318 = .ok (.iload_n 3, 1) := by decide +kernel
theorem dX12_keep_319 : decode cX12_keep 319 = .ok (.baload, 1) := by decide +kernel
theorem dX12_keep_320 : decode cX12_keep 320 = .ok (.bastore, 1) := by decide +kernel
theorem dX12_keep_321 : decode cX12_keep 321 = .ok (.aload_n 0, 1) := by decide +kernel
theorem dX12_keep_322 : decode cX12_keep 322 = .ok (.getfield 248, 3) := by decide +kernel
theorem dX12_keep_325 : decode cX12_keep 325 = .ok (.iload 4, 2) := by decide +kernel
theorem dX12_keep_327 : decode cX12_keep 327 = .ok (.aload_n 0, 1) := by decide +kernel
theorem dX12_keep_328 : decode cX12_keep 328 = .ok (.getfield 158, 3) := by decide +kernel
theorem dX12_keep_331 : decode cX12_keep 331 = .ok (.iload_n 3, 1) := by decide +kernel
theorem dX12_keep_332 : decode cX12_keep 332 = .ok (.baload, 1) := by decide +kernel
theorem dX12_keep_333 : decode cX12_keep 333 = .ok (.bastore, 1) := by decide +kernel
theorem dX12_keep_334 : decode cX12_keep 334 = .ok (.aload_n 0, 1) := by decide +kernel
theorem dX12_keep_335 : decode cX12_keep 335 = .ok (.getfield 215, 3) := by decide +kernel
theorem dX12_keep_338 : decode cX12_keep 338 = .ok (.iload 4, 2) := by decide +kernel
theorem dX12_keep_340 : decode cX12_keep 340 = .ok (.aload_n 0, 1) := by decide +kernel
theorem dX12_keep_341 : decode cX12_keep 341 = .ok (.getfield 164, 3) := by decide +kernel
theorem dX12_keep_344 : decode cX12_keep 344 = .ok (.iload_n 3, 1) := by decide +kernel
theorem dX12_keep_345 : decode cX12_keep 345 = .ok (.iaload, 1) := by decide +kernel
theorem dX12_keep_346 : decode cX12_keep 346 = .ok (.iastore, 1) := by decide +kernel
theorem dX12_keep_347 : decode cX12_keep 347 = .ok (.aload_n 0, 1) := by decide +kernel
theorem dX12_keep_348 : decode cX12_keep 348 = .ok (.getfield 218, 3) := by decide +kernel
theorem dX12_keep_351 : decode cX12_keep 351 = .ok (.iload 4, 2) := by decide +kernel
theorem dX12_keep_353 : decode cX12_keep 353 = .ok (.aload_n 0, 1) := by decide +kernel
theorem dX12_keep_354 : decode cX12_keep 354 = .ok (.getfield 167, 3) := by decide +kernel
theorem dX12_keep_357 : decode cX12_keep 357 = .ok (.iload_n 3, 1) := by decide +kernel
theorem dX12_keep_358 : decode cX12_keep 358 = .ok (.iaload, 1) := by decide +kernel
theorem dX12_keep_359 : decode cX12_keep 359 = .ok (.iastore, 1) := by decide +kernel
theorem dX12_keep_360 : decode cX12_keep 360 = .ok (.iinc 3 1, 3) := by decide +kernel
theorem dX12_keep_363 : decode cX12_keep 363 = .ok (.goto (-132), 3) := by decide +kernel
theorem dX12_keep_366 : decode cX12_keep 366 = .ok (.iconst 0, 1) := by decide +kernel
theorem dX12_keep_367 : decode cX12_keep 367 = .ok (.istore_n 3, 1) := by decide +kernel
theorem dX12_keep_368 : decode cX12_keep 368 = .ok (.iload_n 3, 1) := by decide +kernel
theorem dX12_keep_369 : decode cX12_keep 369 = .ok (.iconst 3, 1) := by decide +kernel
theorem dX12_keep_370 : decode cX12_keep 370 = .ok (.if_icmp .ge 25, 3) := by decide +kernel
theorem dX12_keep_373 : decode cX12_keep 373 = .ok (.aload_n 0, 1) := by decide +kernel
theorem dX12_keep_374 : decode cX12_keep 374 = .ok (.getfield 251, 3) := by decide +kernel
theorem dX12_keep_377 : decode cX12_keep 377 = .ok (.iconst 3, 1) := by decide +kernel
theorem dX12_keep_378 : decode cX12_keep 378 = .ok (.iload_n 1, 1) := by decide +kernel
theorem dX12_keep_379 : decode cX12_keep 379 = .ok (.imul, 1) := by decide +kernel
theorem dX12_keep_380 : decode cX12_keep 380 = .ok (.iload_n 3, 1) := by decide +kernel
theorem dX12_keep_381 : decode cX12_keep 381 = .ok (.iadd, 1) := by decide +kernel
theorem dX12_keep_382 : decode cX12_keep 382 = .ok (.aload_n 0, 1) := by decide +kernel
theorem dX12_keep_383 : decode cX12_keep 383 = .ok (.getfield 161, 3) := by decide +kernel
theorem dX12_keep_386 : decode cX12_keep 386 = .ok (.iload_n 3, 1) := by decide +kernel
theorem dX12_keep_387 : decode cX12_keep 387 = .ok (.baload, 1) := by decide +kernel
theorem dX12_keep_388 : decode cX12_keep 388 = .ok (.bastore, 1) := by decide +kernel
theorem dX12_keep_389 : decode cX12_keep 389 = .ok (.iinc 3 1, 3) := by decide +kernel
theorem dX12_keep_392 : decode cX12_keep 392 = .ok (.goto (-24), 3) := by decide +kernel
theorem dX12_keep_395 : decode cX12_keep 395 = .ok (.return_, 1) := by decide +kernel
theorem dX12_keepEvents_0 : decode cX12_keepEvents 0 = .ok (.iconst 0, 1) := by decide +kernel
theorem dX12_keepEvents_1 : decode cX12_keepEvents 1 = .ok (.istore_n 2, 1) := by decide +kernel
theorem dX12_keepEvents_2 : decode cX12_keepEvents 2 = .ok (.iload_n 2, 1) := by decide +kernel
theorem dX12_keepEvents_3 : decode cX12_keepEvents 3 = .ok (.aload_n 0, 1) := by decide +kernel
theorem dX12_keepEvents_4 : decode cX12_keepEvents 4 = .ok (.getfield 546, 3) := by decide +kernel
theorem dX12_keepEvents_7 : decode cX12_keepEvents 7 = .ok (.if_icmp .ge 87, 3) := by decide +kernel
theorem dX12_keepEvents_94 : decode cX12_keepEvents 94 = .ok (.return_, 1) := by decide +kernel
theorem dX12_later_0 : decode cX12_later 0 = .ok (.iload_n 1, 1) := by decide +kernel
theorem dX12_later_1 : decode cX12_later 1 = .ok (.iconst 0, 1) := by decide +kernel
theorem dX12_later_2 : decode cX12_later 2 = .ok (.sipush 1000, 3) := by decide +kernel
theorem dX12_later_5 : decode cX12_later 5 = .ok (.invokestatic 503, 3) := by decide +kernel
theorem dX12_later_8 : decode cX12_later 8 = .ok (.ifCond .eq 15, 3) := by decide +kernel
theorem dX12_later_11 : decode cX12_later 11 = .ok (.aload_n 0, 1) := by decide +kernel
theorem dX12_later_12 : decode cX12_later 12 = .ok (.getfield 672, 3) := by decide +kernel
theorem dX12_later_15 : decode cX12_later 15 = .ok (.iload_n 1, 1) := by decide +kernel
theorem dX12_later_16 : decode cX12_later 16 = .ok (.iadd, 1) := by decide +kernel
theorem dX12_later_17 : decode cX12_later 17 = .ok (.ldc_w 621, 3) := by decide +kernel
theorem dX12_later_20 : decode cX12_later 20 = .ok (.if_icmp .le 5, 3) := by decide +kernel
theorem dX12_later_23 : decode cX12_later 23 = .ok (.iconst (-1), 1) := by decide +kernel
theorem dX12_later_24 : decode cX12_later 24 = .ok (.ireturn, 1) := by decide +kernel
theorem dX12_later_25 : decode cX12_later 25 = .ok (.aload_n 0, 1) := by decide +kernel
theorem dX12_later_26 : decode cX12_later 26 = .ok (.dup, 1) := by decide +kernel
theorem dX12_later_27 : decode cX12_later 27 = .ok (.getfield 672, 3) := by decide +kernel
theorem dX12_later_30 : decode cX12_later 30 = .ok (.iload_n 1, 1) := by decide +kernel
theorem dX12_later_31 : decode cX12_later 31 = .ok (.iadd, 1) := by decide +kernel
theorem dX12_later_32 : decode cX12_later 32 = .ok (.putfield 672, 3) := by decide +kernel
theorem dX12_later_35 : decode cX12_later 35 = .ok (.aload_n 0, 1) := by decide +kernel
theorem dX12_later_36 : decode cX12_later 36 = .ok (.getfield 672, 3) := by decide +kernel
theorem dX12_later_39 : decode cX12_later 39 = .ok (.ireturn, 1) := by decide +kernel
theorem dX12_log_0 : decode cX12_log 0 = .ok (.aload_n 0, 1) := by decide +kernel
theorem dX12_log_1 : decode cX12_log 1 = .ok (.iload_n 1, 1) := by decide +kernel
theorem dX12_log_2 : decode cX12_log 2 = .ok (.invokevirtual 628, 3) := by decide +kernel
theorem dX12_log_5 : decode cX12_log 5 = .ok (.ifCond .eq 30, 3) := by decide +kernel
theorem dX12_log_35 : decode cX12_log 35 = .ok (.iconst (-1), 1) := by decide +kernel
theorem dX12_log_36 : decode cX12_log 36 = .ok (.ireturn, 1) := by decide +kernel
theorem dX12_logged_0 : decode cX12_logged 0 = .ok (.aload_n 0, 1) := by decide +kernel
theorem dX12_logged_1 : decode cX12_logged 1 = .ok (.iload_n 1, 1) := by decide +kernel
theorem dX12_logged_2 : decode cX12_logged 2 = .ok (.invokevirtual 628, 3) := by decide +kernel
theorem dX12_logged_5 : decode cX12_logged 5 = .ok (.ifCond .ne 7, 3) := by decide +kernel
theorem dX12_logged_8 : decode cX12_logged 8 = .ok (.sipush (-1000), 3) := by decide +kernel
theorem dX12_logged_11 : decode cX12_logged 11 = .ok (.ireturn, 1) := by decide +kernel
theorem dX12_moveStrand_0 : decode cX12_moveStrand 0 = .ok (.aload_n 0, 1) := by decide +kernel
theorem dX12_moveStrand_1 : decode cX12_moveStrand 1 = .ok (.getfield 507, 3) := by decide +kernel
theorem dX12_moveStrand_4 : decode cX12_moveStrand 4 = .ok (.ifCond .lt 15, 3) := by decide +kernel
theorem dX12_moveStrand_19 : decode cX12_moveStrand 19 = .ok (.return_, 1) := by decide +kernel
theorem dX12_need_0 : decode cX12_need 0 = .ok (.iload_n 1, 1) := by decide +kernel
theorem dX12_need_1 : decode cX12_need 1 = .ok (.invokestatic 647, 3) := by decide +kernel
theorem dX12_need_4 : decode cX12_need 4 = .ok (.ifCond .ne 5, 3) := by decide +kernel
theorem dX12_need_7 : decode cX12_need 7 = .ok (.iconst (-1), 1) := by decide +kernel
