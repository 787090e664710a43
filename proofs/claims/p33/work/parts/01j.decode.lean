theorem dX12_gripsOn_59 : decode cX12_gripsOn 59 = .ok (.iaload, 1) := by decide +kernel
theorem dX12_gripsOn_60 : decode cX12_gripsOn 60 = .ok (.if_icmp .le 12, 3) := by decide +kernel
theorem dX12_gripsOn_63 : decode cX12_gripsOn 63 = .ok (.aload_n 0, 1) := by decide +kernel
theorem dX12_gripsOn_64 : decode cX12_gripsOn 64 = .ok (.getfield 152, 3) := by decide +kernel
theorem dX12_gripsOn_67 : decode cX12_gripsOn 67 = .ok (.iload_n 3, 1) := by decide +kernel
theorem dX12_gripsOn_68 : decode cX12_gripsOn 68 = .ok (.iaload, 1) := by decide +kernel
theorem dX12_gripsOn_69 : decode cX12_gripsOn 69 = .ok (.goto 20, 3) := by decide +kernel
theorem dX12_gripsOn_72 : decode cX12_gripsOn 72 = .ok (.aload_n 0, 1) := by decide +kernel
theorem dX12_gripsOn_73 : decode cX12_gripsOn 73 = .ok (.getfield 140, 3) := by decide +kernel
theorem dX12_gripsOn_76 : decode cX12_gripsOn 76 = .ok (.iload_n 1, 1) := by decide +kernel
theorem dX12_gripsOn_77 : decode cX12_gripsOn 77 = .ok (.iaload, 1) := by decide +kernel
theorem dX12_gripsOn_78 : decode cX12_gripsOn 78 = .ok (.iconst 2, 1) := by decide +kernel
theorem dX12_gripsOn_79 : decode cX12_gripsOn 79 = .ok (.iadd, 1) := by decide +kernel
theorem dX12_gripsOn_80 : decode cX12_gripsOn 80 = .ok (.goto 9, 3) := by decide +kernel
theorem dX12_gripsOn_83 : decode cX12_gripsOn 83 = .ok (.aload_n 0, 1) := by decide +kernel
theorem dX12_gripsOn_84 : decode cX12_gripsOn 84 = .ok (.getfield 152, 3) := by decide +kernel
theorem dX12_gripsOn_87 : decode cX12_gripsOn 87 = .ok (.iload_n 3, 1) := by decide +kernel
theorem dX12_gripsOn_88 : decode cX12_gripsOn 88 = .ok (.iaload, 1) := by decide +kernel
theorem dX12_gripsOn_89 : decode cX12_gripsOn 89 = .ok (.iastore, 1) := by decide +kernel
theorem dX12_gripsOn_90 : decode cX12_gripsOn 90 = .ok (.return_, 1) := by decide +kernel
theorem dX12_gripsOn_91 : decode cX12_gripsOn 91 = .ok (.iload_n 3, 1) := by decide +kernel
theorem dX12_gripsOn_92 : decode cX12_gripsOn 92 = .ok (.ifCond .ge 97, 3) := by decide +kernel
theorem dX12_gripsOn_95 : decode cX12_gripsOn 95 = .ok (.aload_n 0, 1) := by decide +kernel
theorem dX12_gripsOn_96 : decode cX12_gripsOn 96 = .ok (.dup, 1) := by decide +kernel
theorem dX12_gripsOn_97 : decode cX12_gripsOn 97 = .ok (.getfield 513, 3) := by decide +kernel
theorem dX12_gripsOn_100 : decode cX12_gripsOn 100 = .ok (.iconst 1, 1) := by decide +kernel
theorem dX12_gripsOn_101 : decode cX12_gripsOn 101 = .ok (.iadd, 1) := by decide +kernel
theorem dX12_gripsOn_102 : decode cX12_gripsOn 102 = .ok (.putfield 513, 3) := by decide +kernel
theorem dX12_gripsOn_105 : decode cX12_gripsOn 105 = .ok (.aload_n 0, 1) := by decide +kernel
theorem dX12_gripsOn_106 : decode cX12_gripsOn 106 = .ok (.iconst 0, 1) := by decide +kernel
theorem dX12_gripsOn_107 : decode cX12_gripsOn 107 = .ok (.iload_n 1, 1) := by decide +kernel
theorem dX12_gripsOn_108 : decode cX12_gripsOn 108 = .ok (.iconst (-1), 1) := by decide +kernel
theorem dX12_gripsOn_109 : decode cX12_gripsOn 109 = .ok (.aload_n 0, 1) := by decide +kernel
theorem dX12_gripsOn_110 : decode cX12_gripsOn 110 = .ok (.iconst 4, 1) := by decide +kernel
theorem dX12_gripsOn_111 : decode cX12_gripsOn 111 = .ok (.iload_n 1, 1) := by decide +kernel
theorem dX12_gripsOn_112 : decode cX12_gripsOn 112 = .ok (.invokevirtual 603, 3) := by decide +kernel
theorem dX12_gripsOn_115 : decode cX12_gripsOn 115 = .ok (.invokevirtual 549, 3) := by decide +kernel
theorem dX12_gripsOn_118 : decode cX12_gripsOn 118 = .ok (.istore 4, 2) := by decide +kernel
theorem dX12_gripsOn_120 : decode cX12_gripsOn 120 = .ok (.aload_n 0, 1) := by decide +kernel
theorem dX12_gripsOn_121 : decode cX12_gripsOn 121 = .ok (.iconst 3, 1) := by decide +kernel
theorem dX12_gripsOn_122 : decode cX12_gripsOn 122 = .ok (.iload_n 2, 1) := by decide +kernel
theorem dX12_gripsOn_123 : decode cX12_gripsOn 123 = .ok (.invokevirtual 596, 3) := by decide +kernel
theorem dX12_gripsOn_126 : decode cX12_gripsOn 126 = .ok (.ifCond .eq 27, 3) := by decide +kernel
theorem dX12_gripsOn_129 : decode cX12_gripsOn 129 = .ok (.aload_n 0, 1) := by decide +kernel
theorem dX12_gripsOn_130 : decode cX12_gripsOn 130 = .ok (.dup, 1) := by decide +kernel
theorem dX12_gripsOn_131 : decode cX12_gripsOn 131 = .ok (.getfield 516, 3) := by decide +kernel
theorem dX12_gripsOn_134 : decode cX12_gripsOn 134 = .ok (.iconst 1, 1) := by decide +kernel
theorem dX12_gripsOn_135 : decode cX12_gripsOn 135 = .ok (.iadd, 1) := by decide +kernel
theorem dX12_gripsOn_136 : decode cX12_gripsOn 136 = .ok (.putfield 516, 3) := by decide +kernel
theorem dX12_gripsOn_139 : decode cX12_gripsOn 139 = .ok (.aload_n 0, 1) := by decide +kernel
theorem dX12_gripsOn_140 : decode cX12_gripsOn 140 = .ok (.iconst 1, 1) := by decide +kernel
theorem dX12_gripsOn_141 : decode cX12_gripsOn 141 = .ok (.iload_n 1, 1) := by decide +kernel
theorem dX12_gripsOn_142 : decode cX12_gripsOn 142 = .ok (.iconst (-1), 1) := by decide +kernel
theorem dX12_gripsOn_143 : decode cX12_gripsOn 143 = .ok (.iload 4, 2) := by decide +kernel
theorem dX12_gripsOn_145 : decode cX12_gripsOn 145 = .ok (.invokevirtual 549, 3) := by decide +kernel
theorem dX12_gripsOn_148 : decode cX12_gripsOn 148 = .ok (.istore 5, 2) := by decide +kernel
theorem dX12_gripsOn_150 : decode cX12_gripsOn 150 = .ok (.goto 39, 3) := by decide +kernel
theorem dX12_gripsOn_153 : decode cX12_gripsOn 153 = .ok (.aload_n 0, 1) := by decide +kernel
theorem dX12_gripsOn_154 : decode cX12_gripsOn 154 = .ok (.getfield 149, 3) := by decide +kernel
theorem dX12_gripsOn_157 : decode cX12_gripsOn 157 = .ok (.iload_n 1, 1) := by decide +kernel
theorem dX12_gripsOn_158 : decode cX12_gripsOn 158 = .ok (.iaload, 1) := by decide +kernel
theorem dX12_gripsOn_159 : decode cX12_gripsOn 159 = .ok (.ifCond .lt 30, 3) := by decide +kernel
theorem dX12_gripsOn_162 : decode cX12_gripsOn 162 = .ok (.aload_n 0, 1) := by decide +kernel
theorem dX12_gripsOn_163 : decode cX12_gripsOn 163 = .ok (.getfield 161, 3) := by decide +kernel
theorem dX12_gripsOn_166 : decode cX12_gripsOn 166 = .ok (.aload_n 0, 1) := by decide +kernel
theorem dX12_gripsOn_167 : decode cX12_gripsOn 167 = .ok (.getfield 149, 3) := by decide +kernel
theorem dX12_gripsOn_170 : decode cX12_gripsOn 170 = .ok (.iload_n 1, 1) := by decide +kernel
theorem dX12_gripsOn_171 : decode cX12_gripsOn 171 = .ok (.iaload, 1) := by decide +kernel
theorem dX12_gripsOn_172 : decode cX12_gripsOn 172 = .ok (.baload, 1) := by decide +kernel
theorem dX12_gripsOn_173 : decode cX12_gripsOn 173 = .ok (.ifCond .ne 16, 3) := by decide +kernel
theorem dX12_gripsOn_176 : decode cX12_gripsOn 176 = .ok (.aload_n 0, 1) := by decide +kernel
theorem dX12_gripsOn_177 : decode cX12_gripsOn 177 = .ok (.aload_n 0, 1) := by decide +kernel
theorem dX12_gripsOn_178 : decode cX12_gripsOn 178 = .ok (.getfield 149, 3) := by decide +kernel
theorem dX12_gripsOn_181 : decode cX12_gripsOn 181 = .ok (.iload_n 1, 1) := by decide +kernel
theorem dX12_gripsOn_182 : decode cX12_gripsOn 182 = .ok (.iaload, 1) := by decide +kernel
theorem dX12_gripsOn_183 : decode cX12_gripsOn 183 = .ok (.iload_n 1, 1) := by decide +kernel
theorem dX12_gripsOn_184 : decode cX12_gripsOn 184 = .ok (.iload 4, 2) := by decide +kernel
theorem dX12_gripsOn_186 : decode cX12_gripsOn 186 = .ok (.invokevirtual 568, 3) := by decide +kernel
theorem dX12_gripsOn_189 : decode cX12_gripsOn 189 = .ok (.aload_n 0, 1) := by decide +kernel
theorem dX12_gripsOn_190 : decode cX12_gripsOn 190 = .ok (.getfield 143, 3) := by decide +kernel
theorem dX12_gripsOn_193 : decode cX12_gripsOn 193 = .ok (.iload_n 1, 1) := by decide +kernel
theorem dX12_gripsOn_194 : decode cX12_gripsOn 194 = .ok (.iconst 1, 1) := by decide +kernel
theorem dX12_gripsOn_195 : decode cX12_gripsOn 195 = .ok (.iastore, 1) := by decide +kernel
theorem dX12_gripsOn_196 : decode cX12_gripsOn 196 = .ok (.aload_n 0, 1) := by decide +kernel
theorem dX12_gripsOn_197 : decode cX12_gripsOn 197 = .ok (.getfield 155, 3) := by decide +kernel
theorem dX12_gripsOn_200 : decode cX12_gripsOn 200 = .ok (.iload_n 1, 1) := by decide +kernel
theorem dX12_gripsOn_201 : decode cX12_gripsOn 201 = .ok (.iconst 0, 1) := by decide +kernel
theorem dX12_gripsOn_202 : decode cX12_gripsOn 202 = .ok (.bastore, 1) := by decide +kernel
theorem dX12_gripsOn_203 : decode cX12_gripsOn 203 = .ok (.return_, 1) := by decide +kernel
theorem dX12_halt_0 : decode cX12_halt 0 = .ok (.iload_n 1, 1) := by decide +kernel
theorem dX12_halt_1 : decode cX12_halt 1 = .ok (.iconst 1, 1) := by decide +kernel
theorem dX12_halt_2 : decode cX12_halt 2 = .ok (.bipush 99, 2) := by decide +kernel
theorem dX12_halt_4 : decode cX12_halt 4 = .ok (.invokestatic 503, 3) := by decide +kernel
theorem dX12_halt_7 : decode cX12_halt 7 = .ok (.ifCond .ne 5, 3) := by decide +kernel
theorem dX12_halt_10 : decode cX12_halt 10 = .ok (.iconst (-1), 1) := by decide +kernel
theorem dX12_halt_11 : decode cX12_halt 11 = .ok (.ireturn, 1) := by decide +kernel
theorem dX12_halt_12 : decode cX12_halt 12 = .ok (.iconst 0, 1) := by decide +kernel
theorem dX12_halt_13 : decode cX12_halt 13 = .ok (.istore_n 2, 1) := by decide +kernel
theorem dX12_halt_14 : decode cX12_halt 14 = .ok (.iconst 0, 1) := by decide +kernel
theorem dX12_halt_15 : decode cX12_halt 15 = .ok (.istore_n 3, 1) := by decide +kernel
theorem dX12_halt_16 : decode cX12_halt 16 = .ok (.iload_n 3, 1) := by decide +kernel
theorem dX12_halt_17 : decode cX12_halt 17 = .ok (.aload_n 0, 1) := by decide +kernel
theorem dX12_halt_18 : decode cX12_halt 18 = .ok (.invokevirtual 477, 3) := by decide +kernel
theorem dX12_halt_21 : decode cX12_halt 21 = .ok (.if_icmp .ge 55, 3) := by decide +kernel
theorem dX12_halt_24 : decode cX12_halt 24 = .ok (.aload_n 0, 1) := by decide +kernel
theorem dX12_halt_25 : decode cX12_halt 25 = .ok (.getfield 143, 3) := by decide +kernel
theorem dX12_halt_28 : decode cX12_halt 28 = .ok (.iload_n 3, 1) := by decide +kernel
theorem dX12_halt_29 : decode cX12_halt 29 = .ok (.iaload, 1) := by decide +kernel
theorem dX12_halt_30 : decode cX12_halt 30 = .ok (.iconst 3, 1) := by decide +kernel
theorem dX12_halt_31 : decode cX12_halt 31 = .ok (.if_icmp .eq 39, 3) := by decide +kernel
theorem dX12_halt_34 : decode cX12_halt 34 = .ok (.aload_n 0, 1) := by decide +kernel
theorem dX12_halt_35 : decode cX12_halt 35 = .ok (.getfield 155, 3) := by decide +kernel
theorem dX12_halt_38 : decode cX12_halt 38 = .ok (.iload_n 3, 1) := by decide +kernel
theorem dX12_halt_39 : decode cX12_halt 39 = .ok (.baload, 1) := by decide +kernel
theorem dX12_halt_40 : decode cX12_halt 40 = .ok (.ifCond .eq 6, 3) := by decide +kernel
theorem dX12_halt_43 : decode cX12_halt 43 = .ok (.goto 27, 3) := by decide +kernel
theorem dX12_halt_46 : decode cX12_halt 46 = .ok (.aload_n 0, 1) := by decide +kernel
theorem dX12_halt_47 : decode cX12_halt 47 = .ok (.getfield 143, 3) := by decide +kernel
theorem dX12_halt_50 : decode cX12_halt 50 = .ok (.iload_n 3, 1) := by decide +kernel
theorem dX12_halt_51 : decode cX12_halt 51 = .ok (.iconst 2, 1) := by decide +kernel
theorem dX12_halt_52 : decode cX12_halt 52 = .ok (.iastore, 1) := by decide +kernel
theorem dX12_halt_53 : decode cX12_halt 53 = .ok (.aload_n 0, 1) := by decide +kernel
theorem dX12_halt_54 : decode cX12_halt 54 = .ok (.getfield 146, 3) := by decide +kernel
theorem dX12_halt_57 : decode cX12_halt 57 = .ok (.iload_n 3, 1) := by decide +kernel
theorem dX12_halt_58 : decode cX12_halt 58 = .ok (.iload_n 1, 1) := by decide +kernel
theorem dX12_halt_59 : decode cX12_halt 59 = .ok (.iastore, 1) := by decide +kernel
theorem dX12_halt_60 : decode cX12_halt 60 = .ok (.aload_n 0, 1) := by decide +kernel
theorem dX12_halt_61 : decode cX12_halt 61 = .ok (.getfield 140, 3) := by decide +kernel
theorem dX12_halt_64 : decode cX12_halt 64 = .ok (.iload_n 3, 1) := by decide +kernel
theorem dX12_halt_65 : decode cX12_halt 65 = .ok (.iconst 0, 1) := by decide +kernel
theorem dX12_halt_66 : decode cX12_halt 66 = .ok (.iastore, 1) := by decide +kernel
theorem dX12_halt_67 : decode cX12_halt 67 = .ok (.iinc 2 1, 3) := by decide +kernel
theorem dX12_halt_70 : decode cX12_halt 70 = .ok (.iinc 3 1, 3) := by decide +kernel
theorem dX12_halt_73 : decode cX12_halt 73 = .ok (.goto (-57), 3) := by decide +kernel
theorem dX12_halt_76 : decode cX12_halt 76 = .ok (.iload_n 2, 1) := by decide +kernel
theorem dX12_halt_77 : decode cX12_halt 77 = .ok (.ireturn, 1) := by decide +kernel
theorem dX12_has_0 : decode cX12_has 0 = .ok (.aload_n 0, 1) := by decide +kernel
theorem dX12_has_1 : decode cX12_has 1 = .ok (.getfield 49, 3) := by decide +kernel
theorem dX12_has_4 : decode cX12_has 4 = .ok (.sipush 240, 3) := by decide +kernel
theorem dX12_has_7 : decode cX12_has 7 = .ok (.aload_n 0, 1) := by decide +kernel
theorem dX12_has_8 : decode cX12_has 8 = .ok (.getfield 386, 3) := by decide +kernel
theorem dX12_has_11 : decode cX12_has 11 = .ok (.imul, 1) := by decide +kernel
theorem dX12_has_12 : decode cX12_has 12 = .ok (.bipush 60, 2) := by decide +kernel
theorem dX12_has_14 : decode cX12_has 14 = .ok (.iload_n 1, 1) := by decide +kernel
theorem dX12_has_15 : decode cX12_has 15 = .ok (.imul, 1) := by decide +kernel
theorem dX12_has_16 : decode cX12_has 16 = .ok (.iadd, 1) := by decide +kernel
theorem dX12_has_17 : decode cX12_has 17 = .ok (.iload_n 2, 1) := by decide +kernel
theorem dX12_has_18 : decode cX12_has 18 = .ok (.iadd, 1) := by decide +kernel
theorem dX12_has_19 : decode cX12_has 19 = .ok (.baload, 1) := by decide +kernel
theorem dX12_has_20 : decode cX12_has 20 = .ok (.ireturn, 1) := by decide +kernel
theorem dX12_head_0 : decode cX12_head 0 = .ok (.iload_n 1, 1) := by decide +kernel
theorem dX12_head_1 : decode cX12_head 1 = .ok (.iconst 1, 1) := by decide +kernel
theorem dX12_head_2 : decode cX12_head 2 = .ok (.sipush 300, 3) := by decide +kernel
theorem dX12_head_5 : decode cX12_head 5 = .ok (.invokestatic 503, 3) := by decide +kernel
theorem dX12_head_8 : decode cX12_head 8 = .ok (.ifCond .ne 5, 3) := by decide +kernel
theorem dX12_head_11 : decode cX12_head 11 = .ok (.iconst (-1), 1) := by decide +kernel
theorem dX12_head_12 : decode cX12_head 12 = .ok (.ireturn, 1) := by decide +kernel
theorem dX12_head_13 : decode cX12_head 13 = .ok (.aload_n 0, 1) := by decide +kernel
theorem dX12_head_14 : decode cX12_head 14 = .ok (.iconst 3, 1) := by decide +kernel
theorem dX12_head_15 : decode cX12_head 15 = .ok (.invokevirtual 638, 3) := by decide +kernel
theorem dX12_head_18 : decode cX12_head 18 = .ok (.aload_n 0, 1) := by decide +kernel
theorem dX12_head_19 : decode cX12_head 19 = .ok (.iload_n 1, 1) := by decide +kernel
theorem dX12_head_20 : decode cX12_head 20 = .ok (.invokevirtual 669, 3) := by decide +kernel
theorem dX12_head_23 : decode cX12_head 23 = .ok (.istore_n 2, 1) := by decide +kernel
theorem dX12_head_24 : decode cX12_head 24 = .ok (.aload_n 0, 1) := by decide +kernel
theorem dX12_head_25 : decode cX12_head 25 = .ok (.iconst 3, 1) := by decide +kernel
theorem dX12_head_26 : decode cX12_head 26 = .ok (.invokevirtual 644, 3) := by decide +kernel
theorem dX12_head_29 : decode cX12_head 29 = .ok (.iload_n 2, 1) := by decide +kernel
theorem dX12_head_30 : decode cX12_head 30 = .ok (.ireturn, 1) := by decide +kernel
theorem dX12_headOf_0 : decode cX12_headOf 0 = .ok (.iconst (-1), 1) := by decide +kernel
theorem dX12_headOf_1 : decode cX12_headOf 1 = .ok (.istore_n 2, 1) := by decide +kernel
theorem dX12_headOf_2 : decode cX12_headOf 2 = .ok (.iconst 0, 1) := by decide +kernel
theorem dX12_headOf_3 : decode cX12_headOf 3 = .ok (.istore_n 3, 1) := by decide +kernel
theorem dX12_headOf_4 : decode cX12_headOf 4 = .ok (.iload_n 3, 1) := by decide +kernel
theorem dX12_headOf_5 : decode cX12_headOf 5 = .ok (.iload_n 1, 1) := by decide +kernel
theorem dX12_headOf_6 : decode cX12_headOf 6 = .ok (.if_icmp .ge 109, 3) := by decide +kernel
theorem dX12_headOf_9 : decode cX12_headOf 9 = .ok (.aload_n 0, 1) := by decide +kernel
theorem dX12_headOf_10 : decode cX12_headOf 10 = .ok (.invokevirtual 622, 3) := by decide +kernel
theorem dX12_headOf_13 : decode cX12_headOf 13 = .ok (.iconst 0, 1) := by decide +kernel
theorem dX12_headOf_14 : decode cX12_headOf 14 = .ok (.istore 4, 2) := by decide +kernel
theorem dX12_headOf_16 : decode cX12_headOf 16 = .ok (.iload 4, 2) := by decide +kernel
theorem dX12_headOf_18 : decode cX12_headOf 18 = .ok (.aload_n 0, 1) := by decide +kernel
theorem dX12_headOf_19 : decode cX12_headOf 19 = .ok (.invokevirtual 477, 3) := by decide +kernel
theorem dX12_headOf_22 : decode cX12_headOf 22 = .ok (.if_icmp .ge 87, 3) := by decide +kernel
theorem dX12_headOf_25 : decode cX12_headOf 25 = .ok (.iconst 0, 1) := by decide +kernel
theorem dX12_headOf_26 : decode cX12_headOf 26 = .ok (.istore 5, 2) := by decide +kernel
theorem dX12_headOf_28 : decode cX12_headOf 28 = .ok (.iload 5, 2) := by decide +kernel
theorem dX12_headOf_30 : decode cX12_headOf 30 = .ok (.iload 4, 2) := by decide +kernel
theorem dX12_headOf_32 : decode cX12_headOf 32 = .ok (.if_icmp .ge 71, 3) := by decide +kernel
theorem dX12_headOf_35 : decode cX12_headOf 35 = .ok (.aload_n 0, 1) := by decide +kernel
theorem dX12_headOf_36 : decode cX12_headOf 36 = .ok (.getfield 143, 3) := by decide +kernel
theorem dX12_headOf_39 : decode cX12_headOf 39 = .ok (.iload 4, 2) := by decide +kernel
theorem dX12_headOf_41 : decode cX12_headOf 41 = .ok (.iaload, 1) := by decide +kernel
theorem dX12_headOf_42 : decode cX12_headOf 42 = .ok (.iconst 3, 1) := by decide +kernel
theorem dX12_headOf_43 : decode cX12_headOf 43 = .ok (.if_icmp .eq 54, 3) := by decide +kernel
theorem dX12_headOf_46 : decode cX12_headOf 46 = .ok (.aload_n 0, 1) := by decide +kernel
theorem dX12_headOf_47 : decode cX12_headOf 47 = .ok (.getfield 143, 3) := by decide +kernel
theorem dX12_headOf_50 : decode cX12_headOf 50 = .ok (.iload 5, 2) := by decide +kernel
theorem dX12_headOf_52 : decode cX12_headOf 52 = .ok (.iaload, 1) := by decide +kernel
theorem dX12_headOf_53 : decode cX12_headOf 53 = .ok (.iconst 3, 1) := by decide +kernel
theorem dX12_headOf_54 : decode cX12_headOf 54 = .ok (.if_icmp .ne 6, 3) := by decide +kernel
theorem dX12_headOf_57 : decode cX12_headOf 57 = .ok (.goto 40, 3) := by decide +kernel
theorem dX12_headOf_60 : decode cX12_headOf 60 = .ok (.aload_n 0, 1) := by decide +kernel
theorem dX12_headOf_61 : decode cX12_headOf 61 = .ok (.getfield 137, 3) := by decide +kernel
theorem dX12_headOf_64 : decode cX12_headOf 64 = .ok (.iload 4, 2) := by decide +kernel
theorem dX12_headOf_66 : decode cX12_headOf 66 = .ok (.iaload, 1) := by decide +kernel
theorem dX12_headOf_67 : decode cX12_headOf 67 = .ok (.aload_n 0, 1) := by decide +kernel
theorem dX12_headOf_68 : decode cX12_headOf 68 = .ok (.getfield 137, 3) := by decide +kernel
theorem dX12_headOf_71 : decode cX12_headOf 71 = .ok (.iload 5, 2) := by decide +kernel
theorem dX12_headOf_73 : decode cX12_headOf 73 = .ok (.iaload, 1) := by decide +kernel
theorem dX12_headOf_74 : decode cX12_headOf 74 = .ok (.isub, 1) := by decide +kernel
theorem dX12_headOf_75 : decode cX12_headOf 75 = .ok (.invokestatic 600, 3) := by decide +kernel
theorem dX12_headOf_78 : decode cX12_headOf 78 = .ok (.istore 6, 2) := by decide +kernel
theorem dX12_headOf_80 : decode cX12_headOf 80 = .ok (.iload_n 2, 1) := by decide +kernel
theorem dX12_headOf_81 : decode cX12_headOf 81 = .ok (.ifCond .lt 9, 3) := by decide +kernel
theorem dX12_headOf_84 : decode cX12_headOf 84 = .ok (.iload 6, 2) := by decide +kernel
theorem dX12_headOf_86 : decode cX12_headOf 86 = .ok (.iload_n 2, 1) := by decide +kernel
theorem dX12_headOf_87 : decode cX12_headOf 87 = .ok (.if_icmp .ge 8, 3) := by decide +kernel
theorem dX12_headOf_90 : decode cX12_headOf 90 = .ok (.iload 6, 2) := by decide +kernel
theorem dX12_headOf_92 : decode cX12_headOf 92 = .ok (.goto 4, 3) := by decide +kernel
theorem dX12_headOf_95 : decode cX12_headOf 95 = .ok (.iload_n 2, 1) := by decide +kernel
theorem dX12_headOf_96 : decode cX12_headOf 96 = .ok (.istore_n 2, 1) := by decide +kernel
theorem dX12_headOf_97 : decode cX12_headOf 97 = .ok (.iinc 5 1, 3) := by decide +kernel
theorem dX12_headOf_100 : decode cX12_headOf 100 = .ok (.goto (-72), 3) := by decide +kernel
theorem dX12_headOf_103 : decode cX12_headOf 103 = .ok (.iinc 4 1, 3) := by decide +kernel
theorem dX12_headOf_106 : decode cX12_headOf 106 = .ok (.goto (-90), 3) := by decide +kernel
theorem dX12_headOf_109 : decode cX12_headOf 109 = .ok (.iinc 3 1, 3) := by decide +kernel
theorem dX12_headOf_112 : decode cX12_headOf 112 = .ok (.goto (-108), 3) := by decide +kernel
theorem dX12_headOf_115 : decode cX12_headOf 115 = .ok (.iload_n 2, 1) := by decide +kernel
theorem dX12_headOf_116 : decode cX12_headOf 116 = .ok (.ireturn, 1) := by decide +kernel
theorem dX12_holdBack_0 : decode cX12_holdBack 0 = .ok (.aload_n 0, 1) := by decide +kernel
theorem dX12_holdBack_1 : decode cX12_holdBack 1 = .ok (.getfield 137, 3) := by decide +kernel
theorem dX12_holdBack_4 : decode cX12_holdBack 4 = .ok (.iload_n 1, 1) := by decide +kernel
theorem dX12_holdBack_5 : decode cX12_holdBack 5 = .ok (.iaload, 1) := by decide +kernel
theorem dX12_holdBack_6 : decode cX12_holdBack 6 = .ok (.aload_n 0, 1) := by decide +kernel
theorem dX12_holdBack_7 : decode cX12_holdBack 7 = .ok (.getfield 140, 3) := by decide +kernel
theorem dX12_holdBack_10 : decode cX12_holdBack 10 = .ok (.iload_n 1, 1) := by decide +kernel
theorem dX12_holdBack_11 : decode cX12_holdBack 11 = .ok (.iaload, 1) := by decide +kernel
theorem dX12_holdBack_12 : decode cX12_holdBack 12 = .ok (.iadd, 1) := by decide +kernel
theorem dX12_holdBack_13 : decode cX12_holdBack 13 = .ok (.istore_n 3, 1) := by decide +kernel
theorem dX12_holdBack_14 : decode cX12_holdBack 14 = .ok (.aload_n 0, 1) := by decide +kernel
theorem dX12_holdBack_15 : decode cX12_holdBack 15 = .ok (.getfield 155, 3) := by decide +kernel
theorem dX12_holdBack_18 : decode cX12_holdBack 18 = .ok (.iload_n 1, 1) := by decide +kernel
theorem dX12_holdBack_19 : decode cX12_holdBack 19 = .ok (.baload, 1) := by decide +kernel
theorem dX12_holdBack_20 : decode cX12_holdBack 20 = .ok (.ifCond .ne 22, 3) := by decide +kernel
theorem dX12_holdBack_23 : decode cX12_holdBack 23 = .ok (.iload_n 3, 1) := by decide +kernel
theorem dX12_holdBack_24 : decode cX12_holdBack 24 = .ok (.ifCond .lt 18, 3) := by decide +kernel
theorem dX12_holdBack_27 : decode cX12_holdBack 27 = .ok (.iload_n 3, 1) := by decide +kernel
theorem dX12_holdBack_28 : decode cX12_holdBack 28 = .ok (.sipush 600, 3) := by decide +kernel
theorem dX12_holdBack_31 : decode cX12_holdBack 31 = .ok (.if_icmp .ge 11, 3) := by decide +kernel
theorem dX12_holdBack_34 : decode cX12_holdBack 34 = .ok (.iload_n 3, 1) := by decide +kernel
theorem dX12_holdBack_35 : decode cX12_holdBack 35 = .ok (.bipush 10, 2) := by decide +kernel
theorem dX12_holdBack_37 : decode cX12_holdBack 37 = .ok (.idiv, 1) := by decide +kernel
theorem dX12_holdBack_38 : decode cX12_holdBack 38 = .ok (.iload_n 2, 1) := by decide +kernel
theorem dX12_holdBack_39 : decode cX12_holdBack 39 = .ok (.if_icmp .ne 4, 3) := by decide +kernel
theorem dX12_holdBack_42 : decode cX12_holdBack 42 = .ok (.return_, 1) := by decide +kernel
theorem dX12_holdBack_43 : decode cX12_holdBack 43 = .ok (.aload_n 0, 1) := by decide +kernel
theorem dX12_holdBack_44 : decode cX12_holdBack 44 = .ok (.iload_n 3, 1) := by decide +kernel
theorem dX12_holdBack_45 : decode cX12_holdBack 45 = .ok (.bipush 10, 2) := by decide +kernel
theorem dX12_holdBack_47 : decode cX12_holdBack 47 = .ok (.idiv, 1) := by decide +kernel
theorem dX12_holdBack_48 : decode cX12_holdBack 48 = .ok (.invokevirtual 590, 3) := by decide +kernel
theorem dX12_holdBack_51 : decode cX12_holdBack 51 = .ok (.istore 4, 2) := by decide +kernel
theorem dX12_holdBack_53 : decode cX12_holdBack 53 = .ok (.iload 4, 2) := by decide +kernel
theorem dX12_holdBack_55 : decode cX12_holdBack 55 = .ok (.ifCond .lt 13, 3) := by decide +kernel
theorem dX12_holdBack_58 : decode cX12_holdBack 58 = .ok (.aload_n 0, 1) := by decide +kernel
theorem dX12_holdBack_59 : decode cX12_holdBack 59 = .ok (.iload 4, 2) := by decide +kernel
theorem dX12_holdBack_61 : decode cX12_holdBack 61 = .ok (.iload_n 1, 1) := by decide +kernel
theorem dX12_holdBack_62 : decode cX12_holdBack 62 = .ok (.invokevirtual 593, 3) := by decide +kernel
theorem dX12_holdBack_65 : decode cX12_holdBack 65 = .ok (.ifCond .eq 4, 3) := by decide +kernel
theorem dX12_holdBack_68 : decode cX12_holdBack 68 = .ok (.return_, 1) := by decide +kernel
theorem dX12_holdBack_69 : decode cX12_holdBack 69 = .ok (.aload_n 0, 1) := by decide +kernel
theorem dX12_holdBack_70 : decode cX12_holdBack 70 = .ok (.getfield 140, 3) := by decide +kernel
theorem dX12_holdBack_73 : decode cX12_holdBack 73 = .ok (.iload_n 1, 1) := by decide +kernel
theorem dX12_holdBack_74 : decode cX12_holdBack 74 = .ok (.iconst 0, 1) := by decide +kernel
theorem dX12_holdBack_75 : decode cX12_holdBack 75 = .ok (.iastore, 1) := by decide +kernel
theorem dX12_holdBack_76 : decode cX12_holdBack 76 = .ok (.aload_n 0, 1) := by decide +kernel
theorem dX12_holdBack_77 : decode cX12_holdBack 77 = .ok (.getfield 143, 3) := by decide +kernel
theorem dX12_holdBack_80 : decode cX12_holdBack 80 = .ok (.iload_n 1, 1) := by decide +kernel
theorem dX12_holdBack_81 : decode cX12_holdBack 81 = .ok (.iconst 2, 1) := by decide +kernel
theorem dX12_holdBack_82 : decode cX12_holdBack 82 = .ok (.iastore, 1) := by decide +kernel
theorem dX12_holdBack_83 : decode cX12_holdBack 83 = .ok (.aload_n 0, 1) := by decide +kernel
theorem dX12_holdBack_84 : decode cX12_holdBack 84 = .ok (.getfield 146, 3) := by decide +kernel
theorem dX12_holdBack_87 : decode cX12_holdBack 87 = .ok (.iload_n 1, 1) := by decide +kernel
theorem dX12_holdBack_88 : decode cX12_holdBack 88 = .ok (.iconst 1, 1) := by decide +kernel
theorem dX12_holdBack_89 : decode cX12_holdBack 89 = .ok (.iastore, 1) := by decide +kernel
theorem dX12_holdBack_90 : decode cX12_holdBack 90 = .ok (.aload_n 0, 1) := by decide +kernel
theorem dX12_holdBack_91 : decode cX12_holdBack 91 = .ok (.dup, 1) := by decide +kernel
theorem dX12_holdBack_92 : decode cX12_holdBack 92 = .ok (.getfield 531, 3) := by decide +kernel
theorem dX12_holdBack_95 : decode cX12_holdBack 95 = .ok (.iconst 1, 1) := by decide +kernel
theorem dX12_holdBack_96 : decode cX12_holdBack 96 = .ok (.iadd, 1) := by decide +kernel
theorem dX12_holdBack_97 : decode cX12_holdBack 97 = .ok (.putfield 531, 3) := by decide +kernel
theorem dX12_holdBack_100 : decode cX12_holdBack 100 = .ok (.aload_n 0, 1) := by decide +kernel
theorem dX12_holdBack_101 : decode cX12_holdBack 101 = .ok (.bipush 6, 2) := by decide +kernel
theorem dX12_holdBack_103 : decode cX12_holdBack 103 = .ok (.iload_n 1, 1) := by decide +kernel
theorem dX12_holdBack_104 : decode cX12_holdBack 104 = .ok (.iconst (-1), 1) := by decide +kernel
theorem dX12_holdBack_105 : decode cX12_holdBack 105 = .ok (.iconst (-1), 1) := by decide +kernel
theorem dX12_holdBack_106 : decode cX12_holdBack 106 = .ok (.invokevirtual 549, 3) := by decide +kernel
theorem dX12_holdBack_109 : decode cX12_holdBack 109 = .ok (.istore 5, 2) := by decide +kernel
theorem dX12_holdBack_111 : decode cX12_holdBack 111 = .ok (.return_, 1) := by decide +kernel
theorem dX12_image_0 : decode cX12_image 0 = .ok (.iload_n 1, 1) := by decide +kernel
theorem dX12_image_1 : decode cX12_image 1 = .ok (.iconst 0, 1) := by decide +kernel
theorem dX12_image_2 : decode cX12_image 2 = .ok (.iconst 2, 1) := by decide +kernel
theorem dX12_image_3 : decode cX12_image 3 = .ok (.invokestatic 503, 3) := by decide +kernel
theorem dX12_image_6 : decode cX12_image 6 = .ok (.ifCond .ne 5, 3) := by decide +kernel
theorem dX12_image_9 : decode cX12_image 9 = .ok (.iconst (-1), 1) := by decide +kernel
theorem dX12_image_10 : decode cX12_image 10 = .ok (.ireturn, 1) := by decide +kernel
theorem dX12_image_11 : decode cX12_image 11 = .ok (.aload_n 0, 1) := by decide +kernel
theorem dX12_image_12 : decode cX12_image 12 = .ok (.iload_n 1, 1) := by decide +kernel
theorem dX12_image_13 : decode cX12_image 13 = .ok (.invokevirtual 638, 3) := by decide +kernel
theorem dX12_image_16 : decode cX12_image 16 = .ok (.aload_n 0, 1) := by decide +kernel
theorem dX12_image_17 : decode cX12_image 17 = .ok (.getfield 483, 3) := by decide +kernel
theorem dX12_image_20 : decode cX12_image 20 = .ok (.ireturn, 1) := by decide +kernel
theorem dX12_is_0 : decode cX12_is 0 = .ok (.aload_n 0, 1) := by decide +kernel
theorem dX12_is_1 : decode cX12_is 1 = .ok (.getfield 336, 3) := by decide +kernel
theorem dX12_is_4 : decode cX12_is 4 = .ok (.iconst 5, 1) := by decide +kernel
theorem dX12_is_5 : decode cX12_is 5 = .ok (.if_icmp .ne 19, 3) := by decide +kernel
theorem dX12_is_8 : decode cX12_is 8 = .ok (.aload_n 0, 1) := by decide +kernel
theorem dX12_is_9 : decode cX12_is 9 = .ok (.aload_n 0, 1) := by decide +kernel
theorem dX12_is_10 : decode cX12_is 10 = .ok (.getfield 329, 3) := by decide +kernel
theorem dX12_is_13 : decode cX12_is 13 = .ok (.invokevirtual 332, 3) := by decide +kernel
theorem dX12_is_16 : decode cX12_is 16 = .ok (.iload_n 1, 1) := by decide +kernel
theorem dX12_is_17 : decode cX12_is 17 = .ok (.if_icmp .ne 7, 3) := by decide +kernel
theorem dX12_is_20 : decode cX12_is 20 = .ok (.iconst 1, 1) := by decide +kernel
theorem dX12_is_21 : decode cX12_is 21 = .ok (.goto 4, 3) := by decide +kernel
theorem dX12_is_24 : decode cX12_is 24 = .ok (.iconst 0, 1) := by decide +kernel
theorem dX12_is_25 : decode cX12_is 25 = .ok (.ireturn, 1) := by decide +kernel
theorem dX12_isCar_0 : decode cX12_isCar 0 = .ok (.iload_n 1, 1) := by decide +kernel
theorem dX12_isCar_1 : decode cX12_isCar 1 = .ok (.iconst 0, 1) := by decide +kernel
theorem dX12_isCar_2 : decode cX12_isCar 2 = .ok (.aload_n 0, 1) := by decide +kernel
theorem dX12_isCar_3 : decode cX12_isCar 3 = .ok (.invokevirtual 477, 3) := by decide +kernel
theorem dX12_isCar_6 : decode cX12_isCar 6 = .ok (.iconst 1, 1) := by decide +kernel
theorem dX12_isCar_7 : decode cX12_isCar 7 = .ok (.isub, 1) := by decide +kernel
theorem dX12_isCar_8 : decode cX12_isCar 8 = .ok (.invokestatic 503, 3) := by decide +kernel
theorem dX12_isCar_11 : decode cX12_isCar 11 = .ok (.ireturn, 1) := by decide +kernel
theorem dX12_isCompared_0 : decode cX12_isCompared 0 = .ok (.aload_n 0, 1) := by decide +kernel
theorem dX12_isCompared_1 : decode cX12_isCompared 1 = .ok (.getfield 450, 3) := by decide +kernel
theorem dX12_isCompared_4 : decode cX12_isCompared 4 = .ok (.iconst 1, 1) := by decide +kernel
theorem dX12_isCompared_5 : decode cX12_isCompared 5 = .ok (.isub, 1) := by decide +kernel
theorem dX12_isCompared_6 : decode cX12_isCompared 6 = .ok (.istore_n 1, 1) := by decide +kernel
theorem dX12_isCompared_7 : decode cX12_isCompared 7 = .ok (.aload_n 0, 1) := by decide +kernel
theorem dX12_isCompared_8 : decode cX12_isCompared 8 = .ok (.getfield 128, 3) := by decide +kernel
theorem dX12_isCompared_11 : decode cX12_isCompared 11 = .ok (.iload_n 1, 1) := by decide +kernel
theorem dX12_isCompared_12 : decode cX12_isCompared 12 = .ok (.iaload, 1) := by decide +kernel
theorem dX12_isCompared_13 : decode cX12_isCompared 13 = .ok (.iconst 5, 1) := by decide +kernel
theorem dX12_isCompared_14 : decode cX12_isCompared 14 = .ok (.if_icmp .eq 14, 3) := by decide +kernel
theorem dX12_isCompared_17 : decode cX12_isCompared 17 = .ok (.aload_n 0, 1) := by decide +kernel
theorem dX12_isCompared_18 : decode cX12_isCompared 18 = .ok (.getfield 128, 3) := by decide +kernel
theorem dX12_isCompared_21 : decode cX12_isCompared 21 = .ok (.iload_n 1, 1) := by decide +kernel
theorem dX12_isCompared_22 : decode cX12_isCompared 22 = .ok (.iaload, 1) := by decide +kernel
theorem dX12_isCompared_23 : decode cX12_isCompared 23 = .ok (.bipush 6, 2) := by decide +kernel
theorem dX12_isCompared_25 : decode cX12_isCompared 25 = .ok (.if_icmp .ne 9, 3) := by decide +kernel
theorem dX12_isCompared_28 : decode cX12_isCompared 28 = .ok (.iinc 1 (-1), 3) := by decide +kernel
theorem dX12_isCompared_31 : decode cX12_isCompared 31 = .ok (.goto (-24), 3) := by decide +kernel
theorem dX12_isCompared_34 : decode cX12_isCompared 34 = .ok (.aload_n 0, 1) := by decide +kernel
theorem dX12_isCompared_35 : decode cX12_isCompared 35 = .ok (.getfield 128, 3) := by decide +kernel
theorem dX12_isCompared_38 : decode cX12_isCompared 38 = .ok (.iload_n 1, 1) := by decide +kernel
theorem dX12_isCompared_39 : decode cX12_isCompared 39 = .ok (.iaload, 1) := by decide +kernel
theorem dX12_isCompared_40 : decode cX12_isCompared 40 = .ok (.iconst 4, 1) := by decide +kernel
theorem dX12_isCompared_41 : decode cX12_isCompared 41 = .ok (.if_icmp .ne 7, 3) := by decide +kernel
theorem dX12_isCompared_44 : decode cX12_isCompared 44 = .ok (.iconst 1, 1) := by decide +kernel
theorem dX12_isCompared_45 : decode cX12_isCompared 45 = .ok (.goto 4, 3) := by decide +kernel
theorem dX12_isCompared_48 : decode cX12_isCompared 48 = .ok (.iconst 0, 1) := by decide +kernel
theorem dX12_isCompared_49 : decode cX12_isCompared 49 = .ok (.ireturn, 1) := by decide +kernel
theorem dX12_isDigit_0 : decode cX12_isDigit 0 = .ok (.iload_n 0, 1) := by decide +kernel
theorem dX12_isDigit_1 : decode cX12_isDigit 1 = .ok (.bipush 48, 2) := by decide +kernel
theorem dX12_isDigit_3 : decode cX12_isDigit 3 = .ok (.if_icmp .lt 13, 3) := by decide +kernel
theorem dX12_isDigit_6 : decode cX12_isDigit 6 = .ok (.iload_n 0, 1) := by decide +kernel
theorem dX12_isDigit_7 : decode cX12_isDigit 7 = .ok (.bipush 57, 2) := by decide +kernel
theorem dX12_isDigit_9 : decode cX12_isDigit 9 = .ok (.if_icmp .gt 7, 3) := by decide +kernel
theorem dX12_isDigit_12 : decode cX12_isDigit 12 = .ok (.iconst 1, 1) := by decide +kernel
theorem dX12_isDigit_13 : decode cX12_isDigit 13 = .ok (.goto 4, 3) := by decide +kernel
theorem dX12_isDigit_16 : decode cX12_isDigit 16 = .ok (.iconst 0, 1) := by decide +kernel
theorem dX12_isDigit_17 : decode cX12_isDigit 17 = .ok (.ireturn, 1) := by decide +kernel
theorem dX12_isGood_0 : decode cX12_isGood 0 = .ok (.aload_n 0, 1) := by decide +kernel
theorem dX12_isGood_1 : decode cX12_isGood 1 = .ok (.getfield 263, 3) := by decide +kernel
theorem dX12_isGood_4 : decode cX12_isGood 4 = .ok (.ifCond .ne 7, 3) := by decide +kernel
theorem dX12_isGood_7 : decode cX12_isGood 7 = .ok (.iconst 1, 1) := by decide +kernel
theorem dX12_isGood_8 : decode cX12_isGood 8 = .ok (.goto 4, 3) := by decide +kernel
theorem dX12_isGood_11 : decode cX12_isGood 11 = .ok (.iconst 0, 1) := by decide +kernel
theorem dX12_isGood_12 : decode cX12_isGood 12 = .ok (.ireturn, 1) := by decide +kernel
theorem dX12_isGrownFull_0 : decode cX12_isGrownFull 0 = .ok (.aload_n 0, 1) := by decide +kernel
theorem dX12_isGrownFull_1 : decode cX12_isGrownFull 1 = .ok (.ldc2_w 284, 3) := by decide +kernel
theorem dX12_isGrownFull_4 : decode cX12_isGrownFull 4 = .ok (.invokevirtual 395, 3) := by decide +kernel
theorem dX12_isGrownFull_7 : decode cX12_isGrownFull 7 = .ok (.ifCond .eq 25, 3) := by decide +kernel
theorem dX12_isGrownFull_10 : decode cX12_isGrownFull 10 = .ok (.aload_n 0, 1) := by decide +kernel
theorem dX12_isGrownFull_11 : decode cX12_isGrownFull 11 = .ok (.getfield 89, 3) := by decide +kernel
theorem dX12_isGrownFull_14 : decode cX12_isGrownFull 14 = .ok (.aload_n 0, 1) := by decide +kernel
theorem dX12_isGrownFull_15 : decode cX12_isGrownFull 15 = .ok (.getfield 377, 3) := by decide +kernel
theorem dX12_isGrownFull_18 : decode cX12_isGrownFull 18 = .ok (.iaload, 1) := by decide +kernel
theorem dX12_isGrownFull_19 : decode cX12_isGrownFull 19 = .ok (.bipush 6, 2) := by decide +kernel
theorem dX12_isGrownFull_21 : decode cX12_isGrownFull 21 = .ok (.if_icmp .ne 7, 3) := by decide +kernel
theorem dX12_isGrownFull_24 : decode cX12_isGrownFull 24 = .ok (.iconst 1, 1) := by decide +kernel
theorem dX12_isGrownFull_25 : decode cX12_isGrownFull 25 = .ok (.goto 55, 3) := by decide +kernel
theorem dX12_isGrownFull_28 : decode cX12_isGrownFull 28 = .ok (.iconst 0, 1) := by decide +kernel
theorem dX12_isGrownFull_29 : decode cX12_isGrownFull 29 = .ok (.goto 51, 3) := by decide +kernel
theorem dX12_isGrownFull_32 : decode cX12_isGrownFull 32 = .ok (.aload_n 0, 1) := by decide +kernel
theorem dX12_isGrownFull_33 : decode cX12_isGrownFull 33 = .ok (.ldc2_w 290, 3) := by decide +kernel
theorem dX12_isGrownFull_36 : decode cX12_isGrownFull 36 = .ok (.invokevirtual 395, 3) := by decide +kernel
theorem dX12_isGrownFull_39 : decode cX12_isGrownFull 39 = .ok (.ifCond .eq 23, 3) := by decide +kernel
theorem dX12_isGrownFull_42 : decode cX12_isGrownFull 42 = .ok (.aload_n 0, 1) := by decide +kernel
theorem dX12_isGrownFull_43 : decode cX12_isGrownFull 43 = .ok (.getfield 92, 3) := by decide +kernel
theorem dX12_isGrownFull_46 : decode cX12_isGrownFull 46 = .ok (.aload_n 0, 1) := by decide +kernel
theorem dX12_isGrownFull_47 : decode cX12_isGrownFull 47 = .ok (.getfield 377, 3) := by decide +kernel
theorem dX12_isGrownFull_50 : decode cX12_isGrownFull 50 = .ok (.iaload, 1) := by decide +kernel
theorem dX12_isGrownFull_51 : decode cX12_isGrownFull 51 = .ok (.ifCond .le 7, 3) := by decide +kernel
theorem dX12_isGrownFull_54 : decode cX12_isGrownFull 54 = .ok (.iconst 1, 1) := by decide +kernel
theorem dX12_isGrownFull_55 : decode cX12_isGrownFull 55 = .ok (.goto 25, 3) := by decide +kernel
theorem dX12_isGrownFull_58 : decode cX12_isGrownFull 58 = .ok (.iconst 0, 1) := by decide +kernel
theorem dX12_isGrownFull_59 : decode cX12_isGrownFull 59 = .ok (.goto 21, 3) := by decide +kernel
theorem dX12_isGrownFull_62 : decode cX12_isGrownFull 62 = .ok (.aload_n 0, 1) := by decide +kernel
theorem dX12_isGrownFull_63 : decode cX12_isGrownFull 63 = .ok (.getfield 95, 3) := by decide +kernel
theorem dX12_isGrownFull_66 : decode cX12_isGrownFull 66 = .ok (.aload_n 0, 1) := by decide +kernel
theorem dX12_isGrownFull_67 : decode cX12_isGrownFull 67 = .ok (.getfield 377, 3) := by decide +kernel
theorem dX12_isGrownFull_70 : decode cX12_isGrownFull 70 = .ok (.iaload, 1) := by decide +kernel
theorem dX12_isGrownFull_71 : decode cX12_isGrownFull 71 = .ok (.iconst 4, 1) := by decide +kernel
theorem dX12_isGrownFull_72 : decode cX12_isGrownFull 72 = .ok (.if_icmp .ne 7, 3) := by decide +kernel
theorem dX12_isGrownFull_75 : decode cX12_isGrownFull 75 = .ok (.iconst 1, 1) := by decide +kernel
theorem dX12_isGrownFull_76 : decode cX12_isGrownFull 76 = .ok (.goto 4, 3) := by decide +kernel
theorem dX12_isGrownFull_79 : decode cX12_isGrownFull 79 = .ok (.iconst 0, 1) := by decide +kernel
theorem dX12_isGrownFull_80 : decode cX12_isGrownFull 80 = .ok (.ireturn, 1) := by decide +kernel
theorem dX12_isIn_0 : decode cX12_isIn 0 = .ok (.iload_n 0, 1) := by decide +kernel
theorem dX12_isIn_1 : decode cX12_isIn 1 = .ok (.iload_n 1, 1) := by decide +kernel
theorem dX12_isIn_2 : decode cX12_isIn 2 = .ok (.if_icmp .lt 12, 3) := by decide +kernel
theorem dX12_isIn_5 : decode cX12_isIn 5 = .ok (.iload_n 0, 1) := by decide +kernel
theorem dX12_isIn_6 : decode cX12_isIn 6 = .ok (.iload_n 2, 1) := by decide +kernel
theorem dX12_isIn_7 : decode cX12_isIn 7 = .ok (.if_icmp .gt 7, 3) := by decide +kernel
theorem dX12_isIn_10 : decode cX12_isIn 10 = .ok (.iconst 1, 1) := by decide +kernel
theorem dX12_isIn_11 : decode cX12_isIn 11 = .ok (.goto 4, 3) := by decide +kernel
theorem dX12_isIn_14 : decode cX12_isIn 14 = .ok (.iconst 0, 1) := by decide +kernel
theorem dX12_isIn_15 : decode cX12_isIn 15 = .ok (.ireturn, 1) := by decide +kernel
theorem dX12_isKept_0 : decode cX12_isKept 0 = .ok (.lload_n 0, 1) := by decide +kernel
theorem dX12_isKept_1 : decode cX12_isKept 1 = .ok (.ldc2_w 266, 3) := by decide +kernel
theorem dX12_isKept_4 : decode cX12_isKept 4 = .ok (.lcmp, 1) := by decide +kernel
theorem dX12_isKept_5 : decode cX12_isKept 5 = .ok (.ifCond .eq 67, 3) := by decide +kernel
theorem dX12_isKept_8 : decode cX12_isKept 8 = .ok (.lload_n 0, 1) := by decide +kernel
theorem dX12_isKept_9 : decode cX12_isKept 9 = .ok (.ldc2_w 268, 3) := by decide +kernel
theorem dX12_isKept_12 : decode cX12_isKept 12 = .ok (.lcmp, 1) := by decide +kernel
theorem dX12_isKept_13 : decode cX12_isKept 13 = .ok (.ifCond .eq 59, 3) := by decide +kernel
theorem dX12_isKept_16 : decode cX12_isKept 16 = .ok (.lload_n 0, 1) := by decide +kernel
theorem dX12_isKept_17 : decode cX12_isKept 17 = .ok (.ldc2_w 270, 3) := by decide +kernel
theorem dX12_isKept_20 : decode cX12_isKept 20 = .ok (.lcmp, 1) := by decide +kernel
theorem dX12_isKept_21 : decode cX12_isKept 21 = .ok (.ifCond .eq 51, 3) := by decide +kernel
theorem dX12_isKept_24 : decode cX12_isKept 24 = .ok (.lload_n 0, 1) := by decide +kernel
theorem dX12_isKept_25 : decode cX12_isKept 25 = .ok (.ldc2_w 272, 3) := by decide +kernel
theorem dX12_isKept_28 : decode cX12_isKept 28 = .ok (.lcmp, 1) := by decide +kernel
theorem dX12_isKept_29 : decode cX12_isKept 29 = .ok (.ifCond .eq 43, 3) := by decide +kernel
theorem dX12_isKept_32 : decode cX12_isKept 32 = .ok (.lload_n 0, 1) := by decide +kernel
theorem dX12_isKept_33 : decode cX12_isKept 33 = .ok (.ldc2_w 274, 3) := by decide +kernel
theorem dX12_isKept_36 : decode cX12_isKept 36 = .ok (.lcmp, 1) := by decide +kernel
theorem dX12_isKept_37 : decode cX12_isKept 37 = .ok (.ifCond .eq 35, 3) := by decide +kernel
theorem dX12_isKept_40 : decode cX12_isKept 40 = .ok (.lload_n 0, 1) := by decide +kernel
theorem dX12_isKept_41 : decode cX12_isKept 41 = .ok (.ldc2_w 276, 3) := by decide +kernel
theorem dX12_isKept_44 : decode cX12_isKept 44 = .ok (.lcmp, 1) := by decide +kernel
theorem dX12_isKept_45 : decode cX12_isKept 45 = .ok (.ifCond .eq 27, 3) := by decide +kernel
theorem dX12_isKept_48 : decode cX12_isKept 48 = .ok (.lload_n 0, 1) := by decide +kernel
theorem dX12_isKept_49 : decode cX12_isKept 49 = .ok (.ldc2_w 278, 3) := by decide +kernel
theorem dX12_isKept_52 : decode cX12_isKept 52 = .ok (.lcmp, 1) := by decide +kernel
theorem dX12_isKept_53 : decode cX12_isKept 53 = .ok (.ifCond .eq 19, 3) := by decide +kernel
theorem dX12_isKept_56 : decode cX12_isKept 56 = .ok (.lload_n 0, 1) := by decide +kernel
theorem dX12_isKept_57 : decode cX12_isKept 57 = .ok (.ldc2_w 280, 3) := by decide +kernel
theorem dX12_isKept_60 : decode cX12_isKept 60 = .ok (.lcmp, 1) := by decide +kernel
theorem dX12_isKept_61 : decode cX12_isKept 61 = .ok (.ifCond .eq 11, 3) := by decide +kernel
theorem dX12_isKept_64 : decode cX12_isKept 64 = .ok (.lload_n 0, 1) := by decide +kernel
theorem dX12_isKept_65 : decode cX12_isKept 65 = .ok (.ldc2_w 282, 3) := by decide +kernel
theorem dX12_isKept_68 : decode cX12_isKept 68 = .ok (.lcmp, 1) := by decide +kernel
theorem dX12_isKept_69 : decode cX12_isKept 69 = .ok (.ifCond .ne 7, 3) := by decide +kernel
theorem dX12_isKept_72 : decode cX12_isKept 72 = .ok (.iconst 1, 1) := by decide +kernel
theorem dX12_isKept_73 : decode cX12_isKept 73 = .ok (.goto 4, 3) := by decide +kernel
theorem dX12_isKept_76 : decode cX12_isKept 76 = .ok (.iconst 0, 1) := by decide +kernel
theorem dX12_isKept_77 : decode cX12_isKept 77 = .ok (.istore_n 2, 1) := by decide +kernel
theorem dX12_isKept_78 : decode cX12_isKept 78 = .ok (.lload_n 0, 1) := by decide +kernel
theorem dX12_isKept_79 : decode cX12_isKept 79 = .ok (.ldc2_w 284, 3) := by decide +kernel
theorem dX12_isKept_82 : decode cX12_isKept 82 = .ok (.lcmp, 1) := by decide +kernel
theorem dX12_isKept_83 : decode cX12_isKept 83 = .ok (.ifCond .eq 99, 3) := by decide +kernel
theorem dX12_isKept_86 : decode cX12_isKept 86 = .ok (.lload_n 0, 1) := by decide +kernel
theorem dX12_isKept_87 : decode cX12_isKept 87 = .ok (.ldc2_w 286, 3) := by decide +kernel
theorem dX12_isKept_90 : decode cX12_isKept 90 = .ok (.lcmp, 1) := by decide +kernel
theorem dX12_isKept_91 : decode cX12_isKept 91 = .ok (.ifCond .eq 91, 3) := by decide +kernel
theorem dX12_isKept_94 : decode cX12_isKept 94 = .ok (.lload_n 0, 1) := by decide +kernel
theorem dX12_isKept_95 : decode cX12_isKept 95 = .ok (.ldc2_w 288, 3) := by decide +kernel
theorem dX12_isKept_98 : decode cX12_isKept 98 = .ok (.lcmp, 1) := by decide +kernel
theorem dX12_isKept_99 : decode cX12_isKept 99 = .ok (.ifCond .eq 83, 3) := by decide +kernel
theorem dX12_isKept_102 : decode cX12_isKept 102 = .ok (.lload_n 0, 1) := by decide +kernel
theorem dX12_isKept_103 : decode cX12_isKept 103 = .ok (.ldc2_w 290, 3) := by decide +kernel
theorem dX12_isKept_106 : decode cX12_isKept 106 = .ok (.lcmp, 1) := by decide +kernel
theorem dX12_isKept_107 : decode cX12_isKept 107 = .ok (.ifCond .eq 75, 3) := by decide +kernel
theorem dX12_isKept_110 : decode cX12_isKept 110 = .ok (.lload_n 0, 1) := by decide +kernel
theorem dX12_isKept_111 : decode cX12_isKept 111 = .ok (.ldc2_w 292, 3) := by decide +kernel
theorem dX12_isKept_114 : decode cX12_isKept 114 = .ok (.lcmp, 1) := by decide +kernel
theorem dX12_isKept_115 : decode cX12_isKept 115 = .ok (.ifCond .eq 67, 3) := by decide +kernel
theorem dX12_isKept_118 : decode cX12_isKept 118 = .ok (.lload_n 0, 1) := by decide +kernel
theorem dX12_isKept_119 : decode cX12_isKept 119 = .ok (.ldc2_w 294, 3) := by decide +kernel
theorem dX12_isKept_122 : decode cX12_isKept 122 = .ok (.lcmp, 1) := by decide +kernel
theorem dX12_isKept_123 : decode cX12_isKept 123 = .ok (.ifCond .eq 59, 3) := by decide +kernel
theorem dX12_isKept_126 : decode cX12_isKept 126 = .ok (.lload_n 0, 1) := by decide +kernel
theorem dX12_isKept_127 : decode cX12_isKept 127 = .ok (.ldc2_w 296, 3) := by decide +kernel
theorem dX12_isKept_130 : decode cX12_isKept 130 = .ok (.lcmp, 1) := by decide +kernel
theorem dX12_isKept_131 : decode cX12_isKept 131 = .ok (.ifCond .eq 51, 3) := by decide +kernel
theorem dX12_isKept_134 : decode cX12_isKept 134 = .ok (.lload_n 0, 1) := by decide +kernel
theorem dX12_isKept_135 : decode cX12_isKept 135 = .ok (.ldc2_w 298, 3) := by decide +kernel
theorem dX12_isKept_138 : decode cX12_isKept 138 = .ok (.lcmp, 1) := by decide +kernel
theorem dX12_isKept_139 : decode cX12_isKept 139 = .ok (.ifCond .eq 43, 3) := by decide +kernel
theorem dX12_isKept_142 : decode cX12_isKept 142 = .ok (.lload_n 0, 1) := by decide +kernel
theorem dX12_isKept_143 : decode cX12_isKept 143 = .ok (.ldc2_w 300, 3) := by decide +kernel
theorem dX12_isKept_146 : decode cX12_isKept 146 = .ok (.lcmp, 1) := by decide +kernel
theorem dX12_isKept_147 : decode cX12_isKept 147 = .ok (.ifCond .eq 35, 3) := by decide +kernel
theorem dX12_isKept_150 : decode cX12_isKept 150 = .ok (.lload_n 0, 1) := by decide +kernel
theorem dX12_isKept_151 : decode cX12_isKept 151 = .ok (.ldc2_w 302, 3) := by decide +kernel
theorem dX12_isKept_154 : decode cX12_isKept 154 = .ok (.lcmp, 1) := by decide +kernel
theorem dX12_isKept_155 : decode cX12_isKept 155 = .ok (.ifCond .eq 27, 3) := by decide +kernel
theorem dX12_isKept_158 : decode cX12_isKept 158 = .ok (.lload_n 0, 1) := by decide +kernel
theorem dX12_isKept_159 : decode cX12_isKept 159 = .ok (.ldc2_w 304, 3) := by decide +kernel
theorem dX12_isKept_162 : decode cX12_isKept 162 = .ok (.lcmp, 1) := by decide +kernel
theorem dX12_isKept_163 : decode cX12_isKept 163 = .ok (.ifCond .eq 19, 3) := by decide +kernel
theorem dX12_isKept_166 : decode cX12_isKept 166 = .ok (.lload_n 0, 1) := by decide +kernel
theorem dX12_isKept_167 : decode cX12_isKept 167 = .ok (.ldc2_w 306, 3) := by decide +kernel
theorem dX12_isKept_170 : decode cX12_isKept 170 = .ok (.lcmp, 1) := by decide +kernel
theorem dX12_isKept_171 : decode cX12_isKept 171 = .ok (.ifCond .eq 11, 3) := by decide +kernel
theorem dX12_isKept_174 : decode cX12_isKept 174 = .ok (.lload_n 0, 1) := by decide +kernel
theorem dX12_isKept_175 : decode cX12_isKept 175 = .ok (.ldc2_w 308, 3) := by decide +kernel
theorem dX12_isKept_178 : decode cX12_isKept 178 = .ok (.lcmp, 1) := by decide +kernel
theorem dX12_isKept_179 : decode cX12_isKept 179 = .ok (.ifCond .ne 7, 3) := by decide +kernel
theorem dX12_isKept_182 : decode cX12_isKept 182 = .ok (.iconst 1, 1) := by decide +kernel
theorem dX12_isKept_183 : decode cX12_isKept 183 = .ok (.goto 4, 3) := by decide +kernel
theorem dX12_isKept_186 : decode cX12_isKept 186 = .ok (.iconst 0, 1) := by decide +kernel
theorem dX12_isKept_187 : decode cX12_isKept 187 = .ok (.istore_n 3, 1) := by decide +kernel
theorem dX12_isKept_188 : decode cX12_isKept 188 = .ok (.iload_n 2, 1) := by decide +kernel
theorem dX12_isKept_189 : decode cX12_isKept 189 = .ok (.ifCond .ne 71, 3) := by decide +kernel
theorem dX12_isKept_192 : decode cX12_isKept 192 = .ok (.iload_n 3, 1) := by decide +kernel
theorem dX12_isKept_193 : decode cX12_isKept 193 = .ok (.ifCond .ne 67, 3) := by decide +kernel
theorem dX12_isKept_196 : decode cX12_isKept 196 = .ok (.lload_n 0, 1) := by decide +kernel
theorem dX12_isKept_197 : decode cX12_isKept 197 = .ok (.ldc2_w 310, 3) := by decide +kernel
theorem dX12_isKept_200 : decode cX12_isKept 200 = .ok (.lcmp, 1) := by decide +kernel
theorem dX12_isKept_201 : decode cX12_isKept 201 = .ok (.ifCond .eq 59, 3) := by decide +kernel
theorem dX12_isKept_204 : decode cX12_isKept 204 = .ok (.lload_n 0, 1) := by decide +kernel
theorem dX12_isKept_205 : decode cX12_isKept 205 = .ok (.ldc2_w 312, 3) := by decide +kernel
theorem dX12_isKept_208 : decode cX12_isKept 208 = .ok (.lcmp, 1) := by decide +kernel
theorem dX12_isKept_209 : decode cX12_isKept 209 = .ok (.ifCond .eq 51, 3) := by decide +kernel
theorem dX12_isKept_212 : decode cX12_isKept 212 = .ok (.lload_n 0, 1) := by decide +kernel
theorem dX12_isKept_213 : decode cX12_isKept 213 = .ok (.ldc2_w 314, 3) := by decide +kernel
theorem dX12_isKept_216 : decode cX12_isKept 216 = .ok (.lcmp, 1) := by decide +kernel
theorem dX12_isKept_217 : decode cX12_isKept 217 = .ok (.ifCond .eq 43, 3) := by decide +kernel
theorem dX12_isKept_220 : decode cX12_isKept 220 = .ok (.lload_n 0, 1) := by decide +kernel
theorem dX12_isKept_221 : decode cX12_isKept 221 = .ok (.ldc2_w 316, 3) := by decide +kernel
theorem dX12_isKept_224 : decode cX12_isKept 224 = .ok (.lcmp, 1) := by decide +kernel
theorem dX12_isKept_225 : decode cX12_isKept 225 = .ok (.ifCond .eq 35, 3) := by decide +kernel
theorem dX12_isKept_228 : decode cX12_isKept 228 = .ok (.lload_n 0, 1) := by decide +kernel
theorem dX12_isKept_229 : decode cX12_isKept 229 = .ok (.ldc2_w 318, 3) := by decide +kernel
theorem dX12_isKept_232 : decode cX12_isKept 232 = .ok (.lcmp, 1) := by decide +kernel
theorem dX12_isKept_233 : decode cX12_isKept 233 = .ok (.ifCond .eq 27, 3) := by decide +kernel
theorem dX12_isKept_236 : decode cX12_isKept 236 = .ok (.lload_n 0, 1) := by decide +kernel
theorem dX12_isKept_237 : decode cX12_isKept 237 = .ok (.ldc2_w 320, 3) := by decide +kernel
theorem dX12_isKept_240 : decode cX12_isKept 240 = .ok (.lcmp, 1) := by decide +kernel
theorem dX12_isKept_241 : decode cX12_isKept 241 = .ok (.ifCond .eq 19, 3) := by decide +kernel
theorem dX12_isKept_244 : decode cX12_isKept 244 = .ok (.lload_n 0, 1) := by decide +kernel
theorem dX12_isKept_245 : decode cX12_isKept 245 = .ok (.ldc2_w 322, 3) := by decide +kernel
theorem dX12_isKept_248 : decode cX12_isKept 248 = .ok (.lcmp, 1) := by decide +kernel
theorem dX12_isKept_249 : decode cX12_isKept 249 = .ok (.ifCond .eq 11, 3) := by decide +kernel
theorem dX12_isKept_252 : decode cX12_isKept 252 = .ok (.lload_n 0, 1) := by decide +kernel
theorem dX12_isKept_253 : decode cX12_isKept 253 = .ok (.ldc2_w 324, 3) := by decide +kernel
theorem dX12_isKept_256 : decode cX12_isKept 256 = .ok (.lcmp, 1) := by decide +kernel
theorem dX12_isKept_257 : decode cX12_isKept 257 = .ok (.ifCond .ne 7, 3) := by decide +kernel
theorem dX12_isKept_260 : decode cX12_isKept 260 = .ok (.iconst 1, 1) := by decide +kernel
theorem dX12_isKept_261 : decode cX12_isKept 261 = .ok (.goto 4, 3) := by decide +kernel
theorem dX12_isKept_264 : decode cX12_isKept 264 = .ok (.iconst 0, 1) := by decide +kernel
theorem dX12_isKept_265 : decode cX12_isKept 265 = .ok (.ireturn, 1) := by decide +kernel
theorem dX12_isLetter_0 : decode cX12_isLetter 0 = .ok (.iload_n 0, 1) := by decide +kernel
theorem dX12_isLetter_1 : decode cX12_isLetter 1 = .ok (.bipush 97, 2) := by decide +kernel
theorem dX12_isLetter_3 : decode cX12_isLetter 3 = .ok (.if_icmp .lt 13, 3) := by decide +kernel
theorem dX12_isLetter_6 : decode cX12_isLetter 6 = .ok (.iload_n 0, 1) := by decide +kernel
theorem dX12_isLetter_7 : decode cX12_isLetter 7 = .ok (.bipush 122, 2) := by decide +kernel
theorem dX12_isLetter_9 : decode cX12_isLetter 9 = .ok (.if_icmp .gt 7, 3) := by decide +kernel
theorem dX12_isLetter_12 : decode cX12_isLetter 12 = .ok (.iconst 1, 1) := by decide +kernel
theorem dX12_isLetter_13 : decode cX12_isLetter 13 = .ok (.goto 4, 3) := by decide +kernel
theorem dX12_isLetter_16 : decode cX12_isLetter 16 = .ok (.iconst 0, 1) := by decide +kernel
theorem dX12_isLetter_17 : decode cX12_isLetter 17 = .ok (.ireturn, 1) := by decide +kernel
theorem dX12_isPlace_0 : decode cX12_isPlace 0 = .ok (.aload_n 0, 1) := by decide +kernel
theorem dX12_isPlace_1 : decode cX12_isPlace 1 = .ok (.iload_n 1, 1) := by decide +kernel
theorem dX12_isPlace_2 : decode cX12_isPlace 2 = .ok (.invokevirtual 631, 3) := by decide +kernel
theorem dX12_isPlace_5 : decode cX12_isPlace 5 = .ok (.ifCond .eq 33, 3) := by decide +kernel
theorem dX12_isPlace_8 : decode cX12_isPlace 8 = .ok (.iload_n 2, 1) := by decide +kernel
theorem dX12_isPlace_9 : decode cX12_isPlace 9 = .ok (.iconst 0, 1) := by decide +kernel
theorem dX12_isPlace_10 : decode cX12_isPlace 10 = .ok (.bipush 10, 2) := by decide +kernel
theorem dX12_isPlace_12 : decode cX12_isPlace 12 = .ok (.aload_n 0, 1) := by decide +kernel
theorem dX12_isPlace_13 : decode cX12_isPlace 13 = .ok (.getfield 62, 3) := by decide +kernel
theorem dX12_isPlace_16 : decode cX12_isPlace 16 = .ok (.iconst 3, 1) := by decide +kernel
theorem dX12_isPlace_17 : decode cX12_isPlace 17 = .ok (.aload_n 0, 1) := by decide +kernel
theorem dX12_isPlace_18 : decode cX12_isPlace 18 = .ok (.getfield 386, 3) := by decide +kernel
theorem dX12_isPlace_21 : decode cX12_isPlace 21 = .ok (.imul, 1) := by decide +kernel
theorem dX12_isPlace_22 : decode cX12_isPlace 22 = .ok (.iload_n 1, 1) := by decide +kernel
theorem dX12_isPlace_23 : decode cX12_isPlace 23 = .ok (.iadd, 1) := by decide +kernel
theorem dX12_isPlace_24 : decode cX12_isPlace 24 = .ok (.iaload, 1) := by decide +kernel
theorem dX12_isPlace_25 : decode cX12_isPlace 25 = .ok (.imul, 1) := by decide +kernel
theorem dX12_isPlace_26 : decode cX12_isPlace 26 = .ok (.iconst 1, 1) := by decide +kernel
theorem dX12_isPlace_27 : decode cX12_isPlace 27 = .ok (.isub, 1) := by decide +kernel
theorem dX12_isPlace_28 : decode cX12_isPlace 28 = .ok (.invokestatic 503, 3) := by decide +kernel
theorem dX12_isPlace_31 : decode cX12_isPlace 31 = .ok (.ifCond .eq 7, 3) := by decide +kernel
theorem dX12_isPlace_34 : decode cX12_isPlace 34 = .ok (.iconst 1, 1) := by decide +kernel
theorem dX12_isPlace_35 : decode cX12_isPlace 35 = .ok (.goto 4, 3) := by decide +kernel
theorem dX12_isPlace_38 : decode cX12_isPlace 38 = .ok (.iconst 0, 1) := by decide +kernel
theorem dX12_isPlace_39 : decode cX12_isPlace 39 = .ok (.ireturn, 1) := by decide +kernel
theorem dX12_isRope_0 : decode cX12_isRope 0 = .ok (.iload_n 1, 1) := by decide +kernel
theorem dX12_isRope_1 : decode cX12_isRope 1 = .ok (.iconst 0, 1) := by decide +kernel
theorem dX12_isRope_2 : decode cX12_isRope 2 = .ok (.aload_n 0, 1) := by decide +kernel
theorem dX12_isRope_3 : decode cX12_isRope 3 = .ok (.getfield 20, 3) := by decide +kernel
theorem dX12_isRope_6 : decode cX12_isRope 6 = .ok (.aload_n 0, 1) := by decide +kernel
theorem dX12_isRope_7 : decode cX12_isRope 7 = .ok (.getfield 386, 3) := by decide +kernel
theorem dX12_isRope_10 : decode cX12_isRope 10 = .ok (.iaload, 1) := by decide +kernel
theorem dX12_isRope_11 : decode cX12_isRope 11 = .ok (.iconst 1, 1) := by decide +kernel
theorem dX12_isRope_12 : decode cX12_isRope 12 = .ok (.isub, 1) := by decide +kernel
theorem dX12_isRope_13 : decode cX12_isRope 13 = .ok (.invokestatic 503, 3) := by decide +kernel
theorem dX12_isRope_16 : decode cX12_isRope 16 = .ok (.ireturn, 1) := by decide +kernel
theorem dX12_isSegment_0 : decode cX12_isSegment 0 = .ok (.iload_n 0, 1) := by decide +kernel
theorem dX12_isSegment_1 : decode cX12_isSegment 1 = .ok (.iconst 0, 1) := by decide +kernel
theorem dX12_isSegment_2 : decode cX12_isSegment 2 = .ok (.bipush 59, 2) := by decide +kernel
theorem dX12_isSegment_4 : decode cX12_isSegment 4 = .ok (.invokestatic 503, 3) := by decide +kernel
theorem dX12_isSegment_7 : decode cX12_isSegment 7 = .ok (.ireturn, 1) := by decide +kernel
theorem dX12_isSign_0 : decode cX12_isSign 0 = .ok (.iload_n 0, 1) := by decide +kernel
theorem dX12_isSign_1 : decode cX12_isSign 1 = .ok (.bipush 59, 2) := by decide +kernel
theorem dX12_isSign_3 : decode cX12_isSign 3 = .ok (.if_icmp .eq 51, 3) := by decide +kernel
theorem dX12_isSign_6 : decode cX12_isSign 6 = .ok (.iload_n 0, 1) := by decide +kernel
theorem dX12_isSign_7 : decode cX12_isSign 7 = .ok (.bipush 45, 2) := by decide +kernel
theorem dX12_isSign_9 : decode cX12_isSign 9 = .ok (.if_icmp .eq 45, 3) := by decide +kernel
theorem dX12_isSign_12 : decode cX12_isSign 12 = .ok (.iload_n 0, 1) := by decide +kernel
theorem dX12_isSign_13 : decode cX12_isSign 13 = .ok (.bipush 40, 2) := by decide +kernel
theorem dX12_isSign_15 : decode cX12_isSign 15 = .ok (.if_icmp .eq 39, 3) := by decide +kernel
theorem dX12_isSign_18 : decode cX12_isSign 18 = .ok (.iload_n 0, 1) := by decide +kernel
theorem dX12_isSign_19 : decode cX12_isSign 19 = .ok (.bipush 41, 2) := by decide +kernel
theorem dX12_isSign_21 : decode cX12_isSign 21 = .ok (.if_icmp .eq 33, 3) := by decide +kernel
theorem dX12_isSign_24 : decode cX12_isSign 24 = .ok (.iload_n 0, 1) := by decide +kernel
theorem dX12_isSign_25 : decode cX12_isSign 25 = .ok (.bipush 60, 2) := by decide +kernel
theorem dX12_isSign_27 : decode cX12_isSign 27 = .ok (.if_icmp .eq 27, 3) := by decide +kernel
theorem dX12_isSign_30 : decode cX12_isSign 30 = .ok (.iload_n 0, 1) := by decide +kernel
theorem dX12_isSign_31 : decode cX12_isSign 31 = .ok (.bipush 62, 2) := by decide +kernel
theorem dX12_isSign_33 : decode cX12_isSign 33 = .ok (.if_icmp .eq 21, 3) := by decide +kernel
theorem dX12_isSign_36 : decode cX12_isSign 36 = .ok (.iload_n 0, 1) := by decide +kernel
theorem dX12_isSign_37 : decode cX12_isSign 37 = .ok (.bipush 61, 2) := by decide +kernel
theorem dX12_isSign_39 : decode cX12_isSign 39 = .ok (.if_icmp .eq 15, 3) := by decide +kernel
theorem dX12_isSign_42 : decode cX12_isSign 42 = .ok (.iload_n 0, 1) := by decide +kernel
theorem dX12_isSign_43 : decode cX12_isSign 43 = .ok (.bipush 43, 2) := by decide +kernel
theorem dX12_isSign_45 : decode cX12_isSign 45 = .ok (.if_icmp .eq 9, 3) := by decide +kernel
theorem dX12_isSign_48 : decode cX12_isSign 48 = .ok (.iload_n 0, 1) := by decide +kernel
theorem dX12_isSign_49 : decode cX12_isSign 49 = .ok (.bipush 42, 2) := by decide +kernel
theorem dX12_isSign_51 : decode cX12_isSign 51 = .ok (.if_icmp .ne 7, 3) := by decide +kernel
theorem dX12_isSign_54 : decode cX12_isSign 54 = .ok (.iconst 1, 1) := by decide +kernel
theorem dX12_isSign_55 : decode cX12_isSign 55 = .ok (.goto 4, 3) := by decide +kernel
theorem dX12_isSign_58 : decode cX12_isSign 58 = .ok (.iconst 0, 1) := by decide +kernel
theorem dX12_isSign_59 : decode cX12_isSign 59 = .ok (.ireturn, 1) := by decide +kernel
theorem dX12_isWord_0 : decode cX12_isWord 0 = .ok (.aload_n 0, 1) := by decide +kernel
theorem dX12_isWord_1 : decode cX12_isWord 1 = .ok (.getfield 336, 3) := by decide +kernel
theorem dX12_isWord_4 : decode cX12_isWord 4 = .ok (.iconst 3, 1) := by decide +kernel
theorem dX12_isWord_5 : decode cX12_isWord 5 = .ok (.if_icmp .ne 16, 3) := by decide +kernel
theorem dX12_isWord_8 : decode cX12_isWord 8 = .ok (.aload_n 0, 1) := by decide +kernel
theorem dX12_isWord_9 : decode cX12_isWord 9 = .ok (.getfield 343, 3) := by decide +kernel
theorem dX12_isWord_12 : decode cX12_isWord 12 = .ok (.lload_n 1, 1) := by decide +kernel
theorem dX12_isWord_13 : decode cX12_isWord 13 = .ok (.lcmp, 1) := by decide +kernel
theorem dX12_isWord_14 : decode cX12_isWord 14 = .ok (.ifCond .ne 7, 3) := by decide +kernel
theorem dX12_isWord_17 : decode cX12_isWord 17 = .ok (.iconst 1, 1) := by decide +kernel
theorem dX12_isWord_18 : decode cX12_isWord 18 = .ok (.goto 4, 3) := by decide +kernel
theorem dX12_isWord_21 : decode cX12_isWord 21 = .ok (.iconst 0, 1) := by decide +kernel
theorem dX12_isWord_22 : decode cX12_isWord 22 = .ok (.ireturn, 1) := by decide +kernel
theorem dX12_isWornBy_0 : decode cX12_isWornBy 0 = .ok (.aload_n 0, 1) := by decide +kernel
theorem dX12_isWornBy_1 : decode cX12_isWornBy 1 = .ok (.getfield 173, 3) := by decide +kernel
theorem dX12_isWornBy_4 : decode cX12_isWornBy 4 = .ok (.iload_n 1, 1) := by decide +kernel
theorem dX12_isWornBy_5 : decode cX12_isWornBy 5 = .ok (.iaload, 1) := by decide +kernel
theorem dX12_isWornBy_6 : decode cX12_isWornBy 6 = .ok (.aload_n 0, 1) := by decide +kernel
theorem dX12_isWornBy_7 : decode cX12_isWornBy 7 = .ok (.getfield 107, 3) := by decide +kernel
theorem dX12_isWornBy_10 : decode cX12_isWornBy 10 = .ok (.bipush 6, 2) := by decide +kernel
theorem dX12_isWornBy_12 : decode cX12_isWornBy 12 = .ok (.aload_n 0, 1) := by decide +kernel
theorem dX12_isWornBy_13 : decode cX12_isWornBy 13 = .ok (.getfield 386, 3) := by decide +kernel
theorem dX12_isWornBy_16 : decode cX12_isWornBy 16 = .ok (.imul, 1) := by decide +kernel
theorem dX12_isWornBy_17 : decode cX12_isWornBy 17 = .ok (.iload_n 1, 1) := by decide +kernel
theorem dX12_isWornBy_18 : decode cX12_isWornBy 18 = .ok (.iadd, 1) := by decide +kernel
theorem dX12_isWornBy_19 : decode cX12_isWornBy 19 = .ok (.iaload, 1) := by decide +kernel
theorem dX12_isWornBy_20 : decode cX12_isWornBy 20 = .ok (.if_icmp .lt 7, 3) := by decide +kernel
theorem dX12_isWornBy_23 : decode cX12_isWornBy 23 = .ok (.iconst 1, 1) := by decide +kernel
theorem dX12_isWornBy_24 : decode cX12_isWornBy 24 = .ok (.goto 4, 3) := by decide +kernel
theorem dX12_isWornBy_27 : decode cX12_isWornBy 27 = .ok (.iconst 0, 1) := by decide +kernel
theorem dX12_isWornBy_28 : decode cX12_isWornBy 28 = .ok (.ireturn, 1) := by decide +kernel
theorem dX12_judge_0 : decode cX12_judge 0 = .ok (.iload_n 1, 1) := by decide +kernel
theorem dX12_judge_1 : decode cX12_judge 1 = .ok (.iconst 0, 1) := by decide +kernel
theorem dX12_judge_2 : decode cX12_judge 2 = .ok (.iconst 1, 1) := by decide +kernel
theorem dX12_judge_3 : decode cX12_judge 3 = .ok (.invokestatic 503, 3) := by decide +kernel
theorem dX12_judge_6 : decode cX12_judge 6 = .ok (.ifCond .ne 5, 3) := by decide +kernel
theorem dX12_judge_9 : decode cX12_judge 9 = .ok (.iconst (-1), 1) := by decide +kernel
theorem dX12_judge_10 : decode cX12_judge 10 = .ok (.ireturn, 1) := by decide +kernel
theorem dX12_judge_11 : decode cX12_judge 11 = .ok (.aload_n 0, 1) := by decide +kernel
theorem dX12_judge_12 : decode cX12_judge 12 = .ok (.invokevirtual 675, 3) := by decide +kernel
theorem dX12_judge_15 : decode cX12_judge 15 = .ok (.iconst 0, 1) := by decide +kernel
theorem dX12_judge_16 : decode cX12_judge 16 = .ok (.istore_n 3, 1) := by decide +kernel
theorem dX12_judge_17 : decode cX12_judge 17 = .ok (.iconst (-1), 1) := by decide +kernel
theorem dX12_judge_18 : decode cX12_judge 18 = .ok (.istore 4, 2) := by decide +kernel
theorem dX12_judge_20 : decode cX12_judge 20 = .ok (.aload_n 0, 1) := by decide +kernel
theorem dX12_judge_21 : decode cX12_judge 21 = .ok (.getfield 392, 3) := by decide +kernel
theorem dX12_judge_24 : decode cX12_judge 24 = .ok (.iconst 1, 1) := by decide +kernel
theorem dX12_judge_25 : decode cX12_judge 25 = .ok (.isub, 1) := by decide +kernel
theorem dX12_judge_26 : decode cX12_judge 26 = .ok (.istore 5, 2) := by decide +kernel
theorem dX12_judge_28 : decode cX12_judge 28 = .ok (.iload 5, 2) := by decide +kernel
theorem dX12_judge_30 : decode cX12_judge 30 = .ok (.ifCond .lt 39, 3) := by decide +kernel
theorem dX12_judge_33 : decode cX12_judge 33 = .ok (.aload_n 0, 1) := by decide +kernel
theorem dX12_judge_34 : decode cX12_judge 34 = .ok (.iload 5, 2) := by decide +kernel
theorem dX12_judge_36 : decode cX12_judge 36 = .ok (.iload_n 2, 1) := by decide +kernel
theorem dX12_judge_37 : decode cX12_judge 37 = .ok (.invokevirtual 678, 3) := by decide +kernel
theorem dX12_judge_40 : decode cX12_judge 40 = .ok (.ifCond .eq 23, 3) := by decide +kernel
theorem dX12_judge_43 : decode cX12_judge 43 = .ok (.aload_n 0, 1) := by decide +kernel
theorem dX12_judge_44 : decode cX12_judge 44 = .ok (.getfield 206, 3) := by decide +kernel
theorem dX12_judge_47 : decode cX12_judge 47 = .ok (.iload 5, 2) := by decide +kernel
theorem dX12_judge_49 : decode cX12_judge 49 = .ok (.baload, 1) := by decide +kernel
theorem dX12_judge_50 : decode cX12_judge 50 = .ok (.ifCond .ne 6, 3) := by decide +kernel
theorem dX12_judge_53 : decode cX12_judge 53 = .ok (.goto 10, 3) := by decide +kernel
theorem dX12_judge_56 : decode cX12_judge 56 = .ok (.iinc 3 1, 3) := by decide +kernel
theorem dX12_judge_59 : decode cX12_judge 59 = .ok (.iload 5, 2) := by decide +kernel
theorem dX12_judge_61 : decode cX12_judge 61 = .ok (.istore 4, 2) := by decide +kernel
theorem dX12_judge_63 : decode cX12_judge 63 = .ok (.iinc 5 (-1), 3) := by decide +kernel
theorem dX12_judge_66 : decode cX12_judge 66 = .ok (.goto (-38), 3) := by decide +kernel
theorem dX12_judge_69 : decode cX12_judge 69 = .ok (.iload_n 1, 1) := by decide +kernel
theorem dX12_judge_70 : decode cX12_judge 70 = .ok (.ifCond .ne 7, 3) := by decide +kernel
theorem dX12_judge_73 : decode cX12_judge 73 = .ok (.iload_n 3, 1) := by decide +kernel
theorem dX12_judge_74 : decode cX12_judge 74 = .ok (.goto 5, 3) := by decide +kernel
theorem dX12_judge_77 : decode cX12_judge 77 = .ok (.iload 4, 2) := by decide +kernel
theorem dX12_judge_79 : decode cX12_judge 79 = .ok (.ireturn, 1) := by decide +kernel
theorem dX12_keep_0 : decode cX12_keep 0 = .ok (.aload_n 0, 1) := by decide +kernel
theorem dX12_keep_1 : decode cX12_keep 1 = .ok (.getfield 209, 3) := by decide +kernel
theorem dX12_keep_4 : decode cX12_keep 4 = .ok (.iload_n 1, 1) := by decide +kernel
theorem dX12_keep_5 : decode cX12_keep 5 = .ok (.aload_n 0, 1) := by decide +kernel
theorem dX12_keep_6 : decode cX12_keep 6 = .ok (.getfield 483, 3) := by decide +kernel
theorem dX12_keep_9 : decode cX12_keep 9 = .ok (.iastore, 1) := by decide +kernel
theorem dX12_keep_10 : decode cX12_keep 10 = .ok (.bipush 20, 2) := by decide +kernel
theorem dX12_keep_12 : decode cX12_keep 12 = .ok (.iload_n 1, 1) := by decide +kernel
theorem dX12_keep_13 : decode cX12_keep 13 = .ok (.imul, 1) := by decide +kernel
theorem dX12_keep_14 : decode cX12_keep 14 = .ok (.istore_n 2, 1) := by decide +kernel
theorem dX12_keep_15 : decode cX12_keep 15 = .ok (.aload_n 0, 1) := by decide +kernel
theorem dX12_keep_16 : decode cX12_keep 16 = .ok (.getfield 212, 3) := by decide +kernel
theorem dX12_keep_19 : decode cX12_keep 19 = .ok (.iload_n 2, 1) := by decide +kernel
theorem dX12_keep_20 : decode cX12_keep 20 = .ok (.aload_n 0, 1) := by decide +kernel
theorem dX12_keep_21 : decode cX12_keep 21 = .ok (.getfield 507, 3) := by decide +kernel
theorem dX12_keep_24 : decode cX12_keep 24 = .ok (.iastore, 1) := by decide +kernel
theorem dX12_keep_25 : decode cX12_keep 25 = .ok (.aload_n 0, 1) := by decide +kernel
theorem dX12_keep_26 : decode cX12_keep 26 = .ok (.getfield 212, 3) := by decide +kernel
theorem dX12_keep_29 : decode cX12_keep 29 = .ok (.iload_n 2, 1) := by decide +kernel
theorem dX12_keep_30 : decode cX12_keep 30 = .ok (.iconst 1, 1) := by decide +kernel
theorem dX12_keep_31 : decode cX12_keep 31 = .ok (.iadd, 1) := by decide +kernel
theorem dX12_keep_32 : decode cX12_keep 32 = .ok (.aload_n 0, 1) := by decide +kernel
theorem dX12_keep_33 : decode cX12_keep 33 = .ok (.getfield 510, 3) := by decide +kernel
theorem dX12_keep_36 : decode cX12_keep 36 = .ok (.iastore, 1) := by decide +kernel
theorem dX12_keep_37 : decode cX12_keep 37 = .ok (.aload_n 0, 1) := by decide +kernel
theorem dX12_keep_38 : decode cX12_keep 38 = .ok (.getfield 212, 3) := by decide +kernel
theorem dX12_keep_41 : decode cX12_keep 41 = .ok (.iload_n 2, 1) := by decide +kernel
theorem dX12_keep_42 : decode cX12_keep 42 = .ok (.iconst 2, 1) := by decide +kernel
theorem dX12_keep_43 : decode cX12_keep 43 = .ok (.iadd, 1) := by decide +kernel
theorem dX12_keep_44 : decode cX12_keep 44 = .ok (.aload_n 0, 1) := by decide +kernel
theorem dX12_keep_45 : decode cX12_keep 45 = .ok (.getfield 513, 3) := by decide +kernel
theorem dX12_keep_48 : decode cX12_keep 48 = .ok (.iastore, 1) := by decide +kernel
theorem dX12_keep_49 : decode cX12_keep 49 = .ok (.aload_n 0, 1) := by decide +kernel
theorem dX12_keep_50 : decode cX12_keep 50 = .ok (.getfield 212, 3) := by decide +kernel
theorem dX12_keep_53 : decode cX12_keep 53 = .ok (.iload_n 2, 1) := by decide +kernel
theorem dX12_keep_54 : decode cX12_keep 54 = .ok (.iconst 3, 1) := by decide +kernel
theorem dX12_keep_55 : decode cX12_keep 55 = .ok (.iadd, 1) := by decide +kernel
theorem dX12_keep_56 : decode cX12_keep 56 = .ok (.aload_n 0, 1) := by decide +kernel
theorem dX12_keep_57 : decode cX12_keep 57 = .ok (.getfield 516, 3) := by decide +kernel
theorem dX12_keep_60 : decode cX12_keep 60 = .ok (.iastore, 1) := by decide +kernel
theorem dX12_keep_61 : decode cX12_keep 61 = .ok (.aload_n 0, 1) := by decide +kernel
theorem dX12_keep_62 : decode cX12_keep 62 = .ok (.getfield 212, 3) := by decide +kernel
theorem dX12_keep_65 : decode cX12_keep 65 = .ok (.iload_n 2, 1) := by decide +kernel
theorem dX12_keep_66 : decode cX12_keep 66 = .ok (.iconst 4, 1) := by decide +kernel
theorem dX12_keep_67 : decode cX12_keep 67 = .ok (.iadd, 1) := by decide +kernel
theorem dX12_keep_68 : decode cX12_keep 68 = .ok (.aload_n 0, 1) := by decide +kernel
theorem dX12_keep_69 : decode cX12_keep 69 = .ok (.getfield 519, 3) := by decide +kernel
theorem dX12_keep_72 : decode cX12_keep 72 = .ok (.iastore, 1) := by decide +kernel
theorem dX12_keep_73 : decode cX12_keep 73 = .ok (.aload_n 0, 1) := by decide +kernel
theorem dX12_keep_74 : decode cX12_keep 74 = .ok (.getfield 212, 3) := by decide +kernel
theorem dX12_keep_77 : decode cX12_keep 77 = .ok (.iload_n 2, 1) := by decide +kernel
theorem dX12_keep_78 : decode cX12_keep 78 = .ok (.iconst 5, 1) := by decide +kernel
theorem dX12_keep_79 : decode cX12_keep 79 = .ok (.iadd, 1) := by decide +kernel
theorem dX12_keep_80 : decode cX12_keep 80 = .ok (.aload_n 0, 1) := by decide +kernel
theorem dX12_keep_81 : decode cX12_keep 81 = .ok (.getfield 522, 3) := by decide +kernel
theorem dX12_keep_84 : decode cX12_keep 84 = .ok (.iastore, 1) := by decide +kernel
theorem dX12_keep_85 : decode cX12_keep 85 = .ok (.aload_n 0, 1) := by decide +kernel
theorem dX12_keep_86 : decode cX12_keep 86 = .ok (.getfield 212, 3) := by decide +kernel
theorem dX12_keep_89 : decode cX12_keep 89 = .ok (.iload_n 2, 1) := by decide +kernel
theorem dX12_keep_90 : decode cX12_keep 90 = .ok (.bipush 6, 2) := by decide +kernel
theorem dX12_keep_92 : decode cX12_keep 92 = .ok (.iadd, 1) := by decide +kernel
theorem dX12_keep_93 : decode cX12_keep 93 = .ok (.aload_n 0, 1) := by decide +kernel
theorem dX12_keep_94 : decode cX12_keep 94 = .ok (.getfield 525, 3) := by decide +kernel
theorem dX12_keep_97 : decode cX12_keep 97 = .ok (.iastore, 1) := by decide +kernel
theorem dX12_keep_98 : decode cX12_keep 98 = .ok (.aload_n 0, 1) := by decide +kernel
theorem dX12_keep_99 : decode cX12_keep 99 = .ok (.getfield 212, 3) := by decide +kernel
theorem dX12_keep_102 : decode cX12_keep 102 = .ok (.iload_n 2, 1) := by decide +kernel
theorem dX12_keep_103 : decode cX12_keep 103 = .ok (.bipush 7, 2) := by decide +kernel
theorem dX12_keep_105 : decode cX12_keep 105 = .ok (.iadd, 1) := by decide +kernel
theorem dX12_keep_106 : decode cX12_keep 106 = .ok (.aload_n 0, 1) := by decide +kernel
theorem dX12_keep_107 : decode cX12_keep 107 = .ok (.getfield 531, 3) := by decide +kernel
theorem dX12_keep_110 : decode cX12_keep 110 = .ok (.iastore, 1) := by decide +kernel
theorem dX12_keep_111 : decode cX12_keep 111 = .ok (.aload_n 0, 1) := by decide +kernel
theorem dX12_keep_112 : decode cX12_keep 112 = .ok (.getfield 212, 3) := by decide +kernel
theorem dX12_keep_115 : decode cX12_keep 115 = .ok (.iload_n 2, 1) := by decide +kernel
theorem dX12_keep_116 : decode cX12_keep 116 = .ok (.bipush 8, 2) := by decide +kernel
theorem dX12_keep_118 : decode cX12_keep 118 = .ok (.iadd, 1) := by decide +kernel
theorem dX12_keep_119 : decode cX12_keep 119 = .ok (.aload_n 0, 1) := by decide +kernel
theorem dX12_keep_120 : decode cX12_keep 120 = .ok (.getfield 534, 3) := by decide +kernel
theorem dX12_keep_123 : decode cX12_keep 123 = .ok (.iastore, 1) := by decide +kernel
theorem dX12_keep_124 : decode cX12_keep 124 = .ok (.aload_n 0, 1) := by decide +kernel
theorem dX12_keep_125 : decode cX12_keep 125 = .ok (.getfield 212, 3) := by decide +kernel
theorem dX12_keep_128 : decode cX12_keep 128 = .ok (.iload_n 2, 1) := by decide +kernel
theorem dX12_keep_129 : decode cX12_keep 129 = .ok (.bipush 9, 2) := by decide +kernel
theorem dX12_keep_131 : decode cX12_keep 131 = .ok (.iadd, 1) := by decide +kernel
theorem dX12_keep_132 : decode cX12_keep 132 = .ok (.aload_n 0, 1) := by decide +kernel
theorem dX12_keep_133 : decode cX12_keep 133 = .ok (.getfield 537, 3) := by decide +kernel
theorem dX12_keep_136 : decode cX12_keep 136 = .ok (.iastore, 1) := by decide +kernel
theorem dX12_keep_137 : decode cX12_keep 137 = .ok (.aload_n 0, 1) := by decide +kernel
theorem dX12_keep_138 : decode cX12_keep 138 = .ok (.getfield 212, 3) := by decide +kernel
theorem dX12_keep_141 : decode cX12_keep 141 = .ok (.iload_n 2, 1) := by decide +kernel
theorem dX12_keep_142 : decode cX12_keep 142 = .ok (.bipush 10, 2) := by decide +kernel
theorem dX12_keep_144 : decode cX12_keep 144 = .ok (.iadd, 1) := by decide +kernel
theorem dX12_keep_145 : decode cX12_keep 145 = .ok (.aload_n 0, 1) := by decide +kernel
theorem dX12_keep_146 : decode cX12_keep 146 = .ok (.getfield 540, 3) := by decide +kernel
theorem dX12_keep_149 : decode cX12_keep 149 = .ok (.iastore, 1) := by decide +kernel
theorem dX12_keep_150 : decode cX12_keep 150 = .ok (.aload_n 0, 1) := by decide +kernel
theorem dX12_keep_151 : decode cX12_keep 151 = .ok (.getfield 212, 3) := by decide +kernel
theorem dX12_keep_154 : decode cX12_keep 154 = .ok (.iload_n 2, 1) := by decide +kernel
theorem dX12_keep_155 : decode cX12_keep 155 = .ok (.bipush 11, 2) := by decide +kernel
theorem dX12_keep_157 : decode cX12_keep 157 = .ok (.iadd, 1) := by decide +kernel
theorem dX12_keep_158 : decode cX12_keep 158 = .ok (.aload_n 0, 1) := by decide +kernel
theorem dX12_keep_159 : decode cX12_keep 159 = .ok (.getfield 543, 3) := by decide +kernel
theorem dX12_keep_162 : decode cX12_keep 162 = .ok (.iastore, 1) := by decide +kernel
theorem dX12_keep_163 : decode cX12_keep 163 = .ok (.aload_n 0, 1) := by decide +kernel
theorem dX12_keep_164 : decode cX12_keep 164 = .ok (.getfield 212, 3) := by decide +kernel
theorem dX12_keep_167 : decode cX12_keep 167 = .ok (.iload_n 2, 1) := by decide +kernel
theorem dX12_keep_168 : decode cX12_keep 168 = .ok (.bipush 12, 2) := by decide +kernel
theorem dX12_keep_170 : decode cX12_keep 170 = .ok (.iadd, 1) := by decide +kernel
theorem dX12_keep_171 : decode cX12_keep 171 = .ok (.aload_n 0, 1) := by decide +kernel
theorem dX12_keep_172 : decode cX12_keep 172 = .ok (.getfield 546, 3) := by decide +kernel
theorem dX12_keep_175 : decode cX12_keep 175 = .ok (.iastore, 1) := by decide +kernel
theorem dX12_keep_176 : decode cX12_keep 176 = .ok (.aload_n 0, 1) := by decide +kernel
theorem dX12_keep_177 : decode cX12_keep 177 = .ok (.iload_n 1, 1) := by decide +kernel
theorem dX12_keep_178 : decode cX12_keep 178 = .ok (.invokevirtual 684, 3) := by decide +kernel
theorem dX12_keep_181 : decode cX12_keep 181 = .ok (.iconst 0, 1) := by decide +kernel
theorem dX12_keep_182 : decode cX12_keep 182 = .ok (.istore_n 3, 1) := by decide +kernel
theorem dX12_keep_183 : decode cX12_keep 183 = .ok (.iload_n 3, 1) := by decide +kernel
theorem dX12_keep_184 : decode cX12_keep 184 = .ok (.bipush 6, 2) := by decide +kernel
theorem dX12_keep_186 : decode cX12_keep 186 = .ok (.if_icmp .ge 43, 3) := by decide +kernel
theorem dX12_keep_189 : decode cX12_keep 189 = .ok (.aload_n 0, 1) := by decide +kernel
theorem dX12_keep_190 : decode cX12_keep 190 = .ok (.getfield 221, 3) := by decide +kernel
theorem dX12_keep_193 : decode cX12_keep 193 = .ok (.bipush 6, 2) := by decide +kernel
theorem dX12_keep_195 : decode cX12_keep 195 = .ok (.iload_n 1, 1) := by decide +kernel
theorem dX12_keep_196 : decode cX12_keep 196 = .ok (.imul, 1) := by decide +kernel
theorem dX12_keep_197 : decode cX12_keep 197 = .ok (.iload_n 3, 1) := by decide +kernel
theorem dX12_keep_198 : decode cX12_keep 198 = .ok (.iadd, 1) := by decide +kernel
theorem dX12_keep_199 : decode cX12_keep 199 = .ok (.aload_n 0, 1) := by decide +kernel
theorem dX12_keep_200 : decode cX12_keep 200 = .ok (.getfield 170, 3) := by decide +kernel
theorem dX12_keep_203 : decode cX12_keep 203 = .ok (.iload_n 3, 1) := by decide +kernel
theorem dX12_keep_204 : decode cX12_keep 204 = .ok (.iaload, 1) := by decide +kernel
theorem dX12_keep_205 : decode cX12_keep 205 = .ok (.iastore, 1) := by decide +kernel
theorem dX12_keep_206 : decode cX12_keep 206 = .ok (.aload_n 0, 1) := by decide +kernel
theorem dX12_keep_207 : decode cX12_keep 207 = .ok (.getfield 224, 3) := by decide +kernel
theorem dX12_keep_210 : decode cX12_keep 210 = .ok (.bipush 6, 2) := by decide +kernel
theorem dX12_keep_212 : decode cX12_keep 212 = .ok (.iload_n 1, 1) := by decide +kernel
theorem dX12_keep_213 : decode cX12_keep 213 = .ok (.imul, 1) := by decide +kernel
theorem dX12_keep_214 : decode cX12_keep 214 = .ok (.iload_n 3, 1) := by decide +kernel
theorem dX12_keep_215 : decode cX12_keep 215 = .ok (.iadd, 1) := by decide +kernel
theorem dX12_keep_216 : decode cX12_keep 216 = .ok (.aload_n 0, 1) := by decide +kernel
theorem dX12_keep_217 : decode cX12_keep 217 = .ok (.getfield 173, 3) := by decide +kernel
theorem dX12_keep_220 : decode cX12_keep 220 = .ok (.iload_n 3, 1) := by decide +kernel
theorem dX12_keep_221 : decode cX12_keep 221 = .ok (.iaload, 1) := by decide +kernel
theorem dX12_keep_222 : decode cX12_keep 222 = .ok (.iastore, 1) := by decide +kernel
theorem dX12_keep_223 : decode cX12_keep 223 = .ok (.iinc 3 1, 3) := by decide +kernel
theorem dX12_keep_226 : decode cX12_keep 226 = .ok (.goto (-43), 3) := by decide +kernel
theorem dX12_keep_229 : decode cX12_keep 229 = .ok (.iconst 0, 1) := by decide +kernel
theorem dX12_keep_230 : decode cX12_keep 230 = .ok (.istore_n 3, 1) := by decide +kernel
theorem dX12_keep_231 : decode cX12_keep 231 = .ok (.iload_n 3, 1) := by decide +kernel
theorem dX12_keep_232 : decode cX12_keep 232 = .ok (.iconst 5, 1) := by decide +kernel
theorem dX12_keep_233 : decode cX12_keep 233 = .ok (.if_icmp .ge 133, 3) := by decide +kernel
theorem dX12_keep_236 : decode cX12_keep 236 = .ok (.iconst 5, 1) := by decide +kernel
theorem dX12_keep_237 : decode cX12_keep 237 = .ok (.iload_n 1, 1) := by decide +kernel
theorem dX12_keep_238 : decode cX12_keep 238 = .ok (.imul, 1) := by decide +kernel
theorem dX12_keep_239 : decode cX12_keep 239 = .ok (.iload_n 3, 1) := by decide +kernel
theorem dX12_keep_240 : decode cX12_keep 240 = .ok (.iadd, 1) := by decide +kernel
theorem dX12_keep_241 : decode cX12_keep 241 = .ok (.istore 4, 2) := by decide +kernel
theorem dX12_keep_243 : decode cX12_keep 243 = .ok (.aload_n 0, 1) := by decide +kernel
theorem dX12_keep_244 : decode cX12_keep 244 = .ok (.getfield 230, 3) := by decide +kernel
theorem dX12_keep_247 : decode cX12_keep 247 = .ok (.iload 4, 2) := by decide +kernel
theorem dX12_keep_249 : decode cX12_keep 249 = .ok (.aload_n 0, 1) := by decide +kernel
theorem dX12_keep_250 : decode cX12_keep 250 = .ok (.getfield 137, 3) := by decide +kernel
theorem dX12_keep_253 : decode cX12_keep 253 = .ok (.iload_n 3, 1) := by decide +kernel
theorem dX12_keep_254 : decode cX12_keep 254 = .ok (.iaload, 1) := by decide +kernel
theorem dX12_keep_255 : decode cX12_keep 255 = .ok (.iastore, 1) := by decide +kernel
theorem dX12_keep_256 : decode cX12_keep 256 = .ok (.aload_n 0, 1) := by decide +kernel
theorem dX12_keep_257 : decode cX12_keep 257 = .ok (.getfield 233, 3) := by decide +kernel
theorem dX12_keep_260 : decode cX12_keep 260 = .ok (.iload 4, 2) := by decide +kernel
theorem dX12_keep_262 : decode cX12_keep 262 = .ok (.aload_n 0, 1) := by decide +kernel
theorem dX12_keep_263 : decode cX12_keep 263 = .ok (.getfield 140, 3) := by decide +kernel
theorem dX12_keep_266 : decode cX12_keep 266 = .ok (.iload_n 3, 1) := by decide +kernel
theorem dX12_keep_267 : decode cX12_keep 267 = .ok (.iaload, 1) := by decide +kernel
theorem dX12_keep_268 : decode cX12_keep 268 = .ok (.iastore, 1) := by decide +kernel
theorem dX12_keep_269 : decode cX12_keep 269 = .ok (.aload_n 0, 1) := by decide +kernel
theorem dX12_keep_270 : decode cX12_keep 270 = .ok (.getfield 236, 3) := by decide +kernel
theorem dX12_keep_273 : decode cX12_keep 273 = .ok (.iload 4, 2) := by decide +kernel
theorem dX12_keep_275 : decode cX12_keep 275 = .ok (.aload_n 0, 1) := by decide +kernel
theorem dX12_keep_276 : decode cX12_keep 276 = .ok (.getfield 143, 3) := by decide +kernel
theorem dX12_keep_279 : decode cX12_keep 279 = .ok (.iload_n 3, 1) := by decide +kernel
