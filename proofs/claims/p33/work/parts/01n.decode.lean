theorem dX12_two_174 : decode cX12_two 174 = .ok (.ireturn, 1) := by decide +kernel
theorem dX12_two_175 : decode cX12_two 175 = .ok (.iload_n 1, 1) := by decide +kernel
theorem dX12_two_176 : decode cX12_two 176 = .ok (.ifCond .ne 7, 3) := by decide +kernel
theorem dX12_two_179 : decode cX12_two 179 = .ok (.iload_n 2, 1) := by decide +kernel
theorem dX12_two_180 : decode cX12_two 180 = .ok (.ifCond .eq 7, 3) := by decide +kernel
theorem dX12_two_183 : decode cX12_two 183 = .ok (.iconst 1, 1) := by decide +kernel
theorem dX12_two_184 : decode cX12_two 184 = .ok (.goto 4, 3) := by decide +kernel
theorem dX12_two_187 : decode cX12_two 187 = .ok (.iconst 0, 1) := by decide +kernel
theorem dX12_two_188 : decode cX12_two 188 = .ok (.ireturn, 1) := by decide +kernel
theorem dX12_unit_0 : decode cX12_unit 0 = .ok (.aload_n 0, 1) := by decide +kernel
theorem dX12_unit_1 : decode cX12_unit 1 = .ok (.getfield 128, 3) := by decide +kernel
theorem dX12_unit_4 : decode cX12_unit 4 = .ok (.aload_n 0, 1) := by decide +kernel
theorem dX12_unit_5 : decode cX12_unit 5 = .ok (.getfield 450, 3) := by decide +kernel
theorem dX12_unit_8 : decode cX12_unit 8 = .ok (.iconst 1, 1) := by decide +kernel
theorem dX12_unit_9 : decode cX12_unit 9 = .ok (.isub, 1) := by decide +kernel
theorem dX12_unit_10 : decode cX12_unit 10 = .ok (.iaload, 1) := by decide +kernel
theorem dX12_unit_11 : decode cX12_unit 11 = .ok (.iconst 3, 1) := by decide +kernel
theorem dX12_unit_12 : decode cX12_unit 12 = .ok (.if_icmp .le 19, 3) := by decide +kernel
theorem dX12_unit_15 : decode cX12_unit 15 = .ok (.aload_n 0, 1) := by decide +kernel
theorem dX12_unit_16 : decode cX12_unit 16 = .ok (.getfield 128, 3) := by decide +kernel
theorem dX12_unit_19 : decode cX12_unit 19 = .ok (.aload_n 0, 1) := by decide +kernel
theorem dX12_unit_20 : decode cX12_unit 20 = .ok (.getfield 450, 3) := by decide +kernel
theorem dX12_unit_23 : decode cX12_unit 23 = .ok (.iconst 1, 1) := by decide +kernel
theorem dX12_unit_24 : decode cX12_unit 24 = .ok (.isub, 1) := by decide +kernel
theorem dX12_unit_25 : decode cX12_unit 25 = .ok (.iaload, 1) := by decide +kernel
theorem dX12_unit_26 : decode cX12_unit 26 = .ok (.bipush 7, 2) := by decide +kernel
theorem dX12_unit_28 : decode cX12_unit 28 = .ok (.if_icmp .lt 7, 3) := by decide +kernel
theorem dX12_unit_31 : decode cX12_unit 31 = .ok (.iconst 1, 1) := by decide +kernel
theorem dX12_unit_32 : decode cX12_unit 32 = .ok (.goto 4, 3) := by decide +kernel
theorem dX12_unit_35 : decode cX12_unit 35 = .ok (.iconst 0, 1) := by decide +kernel
theorem dX12_unit_36 : decode cX12_unit 36 = .ok (.istore_n 1, 1) := by decide +kernel
theorem dX12_unit_37 : decode cX12_unit 37 = .ok (.iload_n 1, 1) := by decide +kernel
theorem dX12_unit_38 : decode cX12_unit 38 = .ok (.ifCond .eq 17, 3) := by decide +kernel
theorem dX12_unit_41 : decode cX12_unit 41 = .ok (.aload_n 0, 1) := by decide +kernel
theorem dX12_unit_42 : decode cX12_unit 42 = .ok (.ldc2_w 308, 3) := by decide +kernel
theorem dX12_unit_45 : decode cX12_unit 45 = .ok (.invokevirtual 395, 3) := by decide +kernel
theorem dX12_unit_48 : decode cX12_unit 48 = .ok (.ifCond .eq 7, 3) := by decide +kernel
theorem dX12_unit_51 : decode cX12_unit 51 = .ok (.iconst 1, 1) := by decide +kernel
theorem dX12_unit_52 : decode cX12_unit 52 = .ok (.goto 4, 3) := by decide +kernel
theorem dX12_unit_55 : decode cX12_unit 55 = .ok (.iconst 0, 1) := by decide +kernel
theorem dX12_unit_56 : decode cX12_unit 56 = .ok (.istore_n 2, 1) := by decide +kernel
theorem dX12_unit_57 : decode cX12_unit 57 = .ok (.aload_n 0, 1) := by decide +kernel
theorem dX12_unit_58 : decode cX12_unit 58 = .ok (.bipush 40, 2) := by decide +kernel
theorem dX12_unit_60 : decode cX12_unit 60 = .ok (.invokevirtual 374, 3) := by decide +kernel
theorem dX12_unit_63 : decode cX12_unit 63 = .ok (.istore_n 3, 1) := by decide +kernel
theorem dX12_unit_64 : decode cX12_unit 64 = .ok (.aload_n 0, 1) := by decide +kernel
theorem dX12_unit_65 : decode cX12_unit 65 = .ok (.invokevirtual 465, 3) := by decide +kernel
theorem dX12_unit_68 : decode cX12_unit 68 = .ok (.istore 4, 2) := by decide +kernel
theorem dX12_unit_70 : decode cX12_unit 70 = .ok (.iload_n 2, 1) := by decide +kernel
theorem dX12_unit_71 : decode cX12_unit 71 = .ok (.ifCond .ne 34, 3) := by decide +kernel
theorem dX12_unit_74 : decode cX12_unit 74 = .ok (.iload 4, 2) := by decide +kernel
theorem dX12_unit_76 : decode cX12_unit 76 = .ok (.ifCond .ne 15, 3) := by decide +kernel
theorem dX12_unit_79 : decode cX12_unit 79 = .ok (.aload_n 0, 1) := by decide +kernel
theorem dX12_unit_80 : decode cX12_unit 80 = .ok (.getfield 336, 3) := by decide +kernel
theorem dX12_unit_83 : decode cX12_unit 83 = .ok (.iconst 4, 1) := by decide +kernel
theorem dX12_unit_84 : decode cX12_unit 84 = .ok (.if_icmp .eq 7, 3) := by decide +kernel
theorem dX12_unit_87 : decode cX12_unit 87 = .ok (.iload_n 3, 1) := by decide +kernel
theorem dX12_unit_88 : decode cX12_unit 88 = .ok (.ifCond .eq 34, 3) := by decide +kernel
theorem dX12_unit_91 : decode cX12_unit 91 = .ok (.aload_n 0, 1) := by decide +kernel
theorem dX12_unit_92 : decode cX12_unit 92 = .ok (.getfield 98, 3) := by decide +kernel
theorem dX12_unit_95 : decode cX12_unit 95 = .ok (.aload_n 0, 1) := by decide +kernel
theorem dX12_unit_96 : decode cX12_unit 96 = .ok (.getfield 377, 3) := by decide +kernel
theorem dX12_unit_99 : decode cX12_unit 99 = .ok (.iaload, 1) := by decide +kernel
theorem dX12_unit_100 : decode cX12_unit 100 = .ok (.bipush 40, 2) := by decide +kernel
theorem dX12_unit_102 : decode cX12_unit 102 = .ok (.if_icmp .eq 20, 3) := by decide +kernel
theorem dX12_unit_105 : decode cX12_unit 105 = .ok (.iload_n 2, 1) := by decide +kernel
theorem dX12_unit_106 : decode cX12_unit 106 = .ok (.ifCond .ne 7, 3) := by decide +kernel
theorem dX12_unit_109 : decode cX12_unit 109 = .ok (.iload_n 3, 1) := by decide +kernel
theorem dX12_unit_110 : decode cX12_unit 110 = .ok (.ifCond .eq 16, 3) := by decide +kernel
theorem dX12_unit_113 : decode cX12_unit 113 = .ok (.aload_n 0, 1) := by decide +kernel
theorem dX12_unit_114 : decode cX12_unit 114 = .ok (.getfield 453, 3) := by decide +kernel
theorem dX12_unit_117 : decode cX12_unit 117 = .ok (.bipush 7, 2) := by decide +kernel
theorem dX12_unit_119 : decode cX12_unit 119 = .ok (.if_icmp .ne 7, 3) := by decide +kernel
theorem dX12_unit_122 : decode cX12_unit 122 = .ok (.aload_n 0, 1) := by decide +kernel
theorem dX12_unit_123 : decode cX12_unit 123 = .ok (.invokevirtual 371, 3) := by decide +kernel
theorem dX12_unit_126 : decode cX12_unit 126 = .ok (.aload_n 0, 1) := by decide +kernel
theorem dX12_unit_127 : decode cX12_unit 127 = .ok (.invokevirtual 364, 3) := by decide +kernel
theorem dX12_unit_130 : decode cX12_unit 130 = .ok (.ifCond .ne 5, 3) := by decide +kernel
theorem dX12_unit_133 : decode cX12_unit 133 = .ok (.iconst 1, 1) := by decide +kernel
theorem dX12_unit_134 : decode cX12_unit 134 = .ok (.ireturn, 1) := by decide +kernel
theorem dX12_unit_135 : decode cX12_unit 135 = .ok (.aload_n 0, 1) := by decide +kernel
theorem dX12_unit_136 : decode cX12_unit 136 = .ok (.getfield 98, 3) := by decide +kernel
theorem dX12_unit_139 : decode cX12_unit 139 = .ok (.aload_n 0, 1) := by decide +kernel
theorem dX12_unit_140 : decode cX12_unit 140 = .ok (.getfield 377, 3) := by decide +kernel
theorem dX12_unit_143 : decode cX12_unit 143 = .ok (.dup2, 1) := by decide +kernel
theorem dX12_unit_144 : decode cX12_unit 144 = .ok (.iaload, 1) := by decide +kernel
theorem dX12_unit_145 : decode cX12_unit 145 = .ok (.iload_n 2, 1) := by decide +kernel
theorem dX12_unit_146 : decode cX12_unit 146 = .ok (.ifCond .eq 7, 3) := by decide +kernel
theorem dX12_unit_149 : decode cX12_unit 149 = .ok (.iconst 0, 1) := by decide +kernel
theorem dX12_unit_150 : decode cX12_unit 150 = .ok (.goto 4, 3) := by decide +kernel
theorem dX12_unit_153 : decode cX12_unit 153 = .ok (.iconst 1, 1) := by decide +kernel
theorem dX12_unit_154 : decode cX12_unit 154 = .ok (.iadd, 1) := by decide +kernel
theorem dX12_unit_155 : decode cX12_unit 155 = .ok (.iastore, 1) := by decide +kernel
theorem dX12_unit_156 : decode cX12_unit 156 = .ok (.iload 4, 2) := by decide +kernel
theorem dX12_unit_158 : decode cX12_unit 158 = .ok (.ifCond .ne 10, 3) := by decide +kernel
theorem dX12_unit_161 : decode cX12_unit 161 = .ok (.aload_n 0, 1) := by decide +kernel
theorem dX12_unit_162 : decode cX12_unit 162 = .ok (.getfield 354, 3) := by decide +kernel
theorem dX12_unit_165 : decode cX12_unit 165 = .ok (.goto 4, 3) := by decide +kernel
theorem dX12_unit_168 : decode cX12_unit 168 = .ok (.iconst 0, 1) := by decide +kernel
theorem dX12_unit_169 : decode cX12_unit 169 = .ok (.istore 5, 2) := by decide +kernel
theorem dX12_unit_171 : decode cX12_unit 171 = .ok (.aload_n 0, 1) := by decide +kernel
theorem dX12_unit_172 : decode cX12_unit 172 = .ok (.invokevirtual 368, 3) := by decide +kernel
theorem dX12_unit_175 : decode cX12_unit 175 = .ok (.iload_n 2, 1) := by decide +kernel
theorem dX12_unit_176 : decode cX12_unit 176 = .ok (.ifCond .ne 7, 3) := by decide +kernel
theorem dX12_unit_179 : decode cX12_unit 179 = .ok (.iload_n 3, 1) := by decide +kernel
theorem dX12_unit_180 : decode cX12_unit 180 = .ok (.ifCond .eq 31, 3) := by decide +kernel
theorem dX12_unit_183 : decode cX12_unit 183 = .ok (.aload_n 0, 1) := by decide +kernel
theorem dX12_unit_184 : decode cX12_unit 184 = .ok (.iload_n 2, 1) := by decide +kernel
theorem dX12_unit_185 : decode cX12_unit 185 = .ok (.ifCond .eq 7, 3) := by decide +kernel
theorem dX12_unit_188 : decode cX12_unit 188 = .ok (.iconst 3, 1) := by decide +kernel
theorem dX12_unit_189 : decode cX12_unit 189 = .ok (.goto 5, 3) := by decide +kernel
theorem dX12_unit_192 : decode cX12_unit 192 = .ok (.bipush 7, 2) := by decide +kernel
theorem dX12_unit_194 : decode cX12_unit 194 = .ok (.bipush 126, 2) := by decide +kernel
theorem dX12_unit_196 : decode cX12_unit 196 = .ok (.invokevirtual 456, 3) := by decide +kernel
theorem dX12_unit_199 : decode cX12_unit 199 = .ok (.aload_n 0, 1) := by decide +kernel
theorem dX12_unit_200 : decode cX12_unit 200 = .ok (.dup, 1) := by decide +kernel
theorem dX12_unit_201 : decode cX12_unit 201 = .ok (.getfield 453, 3) := by decide +kernel
theorem dX12_unit_204 : decode cX12_unit 204 = .ok (.iconst 1, 1) := by decide +kernel
theorem dX12_unit_205 : decode cX12_unit 205 = .ok (.iadd, 1) := by decide +kernel
theorem dX12_unit_206 : decode cX12_unit 206 = .ok (.putfield 453, 3) := by decide +kernel
theorem dX12_unit_209 : decode cX12_unit 209 = .ok (.iconst 1, 1) := by decide +kernel
theorem dX12_unit_210 : decode cX12_unit 210 = .ok (.ireturn, 1) := by decide +kernel
theorem dX12_unit_211 : decode cX12_unit 211 = .ok (.iload 4, 2) := by decide +kernel
theorem dX12_unit_213 : decode cX12_unit 213 = .ok (.bipush 108, 2) := by decide +kernel
theorem dX12_unit_215 : decode cX12_unit 215 = .ok (.if_icmp .ne 21, 3) := by decide +kernel
theorem dX12_unit_218 : decode cX12_unit 218 = .ok (.aload_n 0, 1) := by decide +kernel
theorem dX12_unit_219 : decode cX12_unit 219 = .ok (.iconst 0, 1) := by decide +kernel
theorem dX12_unit_220 : decode cX12_unit 220 = .ok (.aload_n 0, 1) := by decide +kernel
theorem dX12_unit_221 : decode cX12_unit 221 = .ok (.getfield 20, 3) := by decide +kernel
theorem dX12_unit_224 : decode cX12_unit 224 = .ok (.aload_n 0, 1) := by decide +kernel
theorem dX12_unit_225 : decode cX12_unit 225 = .ok (.getfield 377, 3) := by decide +kernel
theorem dX12_unit_228 : decode cX12_unit 228 = .ok (.iaload, 1) := by decide +kernel
theorem dX12_unit_229 : decode cX12_unit 229 = .ok (.iconst 1, 1) := by decide +kernel
theorem dX12_unit_230 : decode cX12_unit 230 = .ok (.isub, 1) := by decide +kernel
theorem dX12_unit_231 : decode cX12_unit 231 = .ok (.invokevirtual 418, 3) := by decide +kernel
theorem dX12_unit_234 : decode cX12_unit 234 = .ok (.istore 5, 2) := by decide +kernel
theorem dX12_unit_236 : decode cX12_unit 236 = .ok (.aload_n 0, 1) := by decide +kernel
theorem dX12_unit_237 : decode cX12_unit 237 = .ok (.iload 4, 2) := by decide +kernel
theorem dX12_unit_239 : decode cX12_unit 239 = .ok (.ifCond .ne 8, 3) := by decide +kernel
theorem dX12_unit_242 : decode cX12_unit 242 = .ok (.bipush 110, 2) := by decide +kernel
theorem dX12_unit_244 : decode cX12_unit 244 = .ok (.goto 5, 3) := by decide +kernel
theorem dX12_unit_247 : decode cX12_unit 247 = .ok (.iload 4, 2) := by decide +kernel
theorem dX12_unit_249 : decode cX12_unit 249 = .ok (.iload 5, 2) := by decide +kernel
theorem dX12_unit_251 : decode cX12_unit 251 = .ok (.invokevirtual 468, 3) := by decide +kernel
theorem dX12_unit_254 : decode cX12_unit 254 = .ok (.iconst 0, 1) := by decide +kernel
theorem dX12_unit_255 : decode cX12_unit 255 = .ok (.ireturn, 1) := by decide +kernel
theorem dX12_untell_0 : decode cX12_untell 0 = .ok (.iload_n 1, 1) := by decide +kernel
theorem dX12_untell_1 : decode cX12_untell 1 = .ok (.iconst 0, 1) := by decide +kernel
theorem dX12_untell_2 : decode cX12_untell 2 = .ok (.aload_n 0, 1) := by decide +kernel
theorem dX12_untell_3 : decode cX12_untell 3 = .ok (.getfield 392, 3) := by decide +kernel
theorem dX12_untell_6 : decode cX12_untell 6 = .ok (.iconst 1, 1) := by decide +kernel
theorem dX12_untell_7 : decode cX12_untell 7 = .ok (.isub, 1) := by decide +kernel
theorem dX12_untell_8 : decode cX12_untell 8 = .ok (.invokestatic 503, 3) := by decide +kernel
theorem dX12_untell_11 : decode cX12_untell 11 = .ok (.ifCond .eq 12, 3) := by decide +kernel
theorem dX12_untell_14 : decode cX12_untell 14 = .ok (.aload_n 0, 1) := by decide +kernel
theorem dX12_untell_15 : decode cX12_untell 15 = .ok (.getfield 203, 3) := by decide +kernel
theorem dX12_untell_18 : decode cX12_untell 18 = .ok (.iload_n 1, 1) := by decide +kernel
theorem dX12_untell_19 : decode cX12_untell 19 = .ok (.iaload, 1) := by decide +kernel
theorem dX12_untell_20 : decode cX12_untell 20 = .ok (.ifCond .lt 5, 3) := by decide +kernel
theorem dX12_untell_23 : decode cX12_untell 23 = .ok (.iconst 0, 1) := by decide +kernel
theorem dX12_untell_24 : decode cX12_untell 24 = .ok (.ireturn, 1) := by decide +kernel
theorem dX12_untell_25 : decode cX12_untell 25 = .ok (.aload_n 0, 1) := by decide +kernel
theorem dX12_untell_26 : decode cX12_untell 26 = .ok (.getfield 203, 3) := by decide +kernel
theorem dX12_untell_29 : decode cX12_untell 29 = .ok (.iload_n 1, 1) := by decide +kernel
theorem dX12_untell_30 : decode cX12_untell 30 = .ok (.aload_n 0, 1) := by decide +kernel
theorem dX12_untell_31 : decode cX12_untell 31 = .ok (.getfield 672, 3) := by decide +kernel
theorem dX12_untell_34 : decode cX12_untell 34 = .ok (.iastore, 1) := by decide +kernel
theorem dX12_untell_35 : decode cX12_untell 35 = .ok (.iconst 1, 1) := by decide +kernel
theorem dX12_untell_36 : decode cX12_untell 36 = .ok (.ireturn, 1) := by decide +kernel
theorem dX12_waitsOn_0 : decode cX12_waitsOn 0 = .ok (.aload_n 0, 1) := by decide +kernel
theorem dX12_waitsOn_1 : decode cX12_waitsOn 1 = .ok (.iload_n 1, 1) := by decide +kernel
theorem dX12_waitsOn_2 : decode cX12_waitsOn 2 = .ok (.invokevirtual 480, 3) := by decide +kernel
theorem dX12_waitsOn_5 : decode cX12_waitsOn 5 = .ok (.aload_n 0, 1) := by decide +kernel
theorem dX12_waitsOn_6 : decode cX12_waitsOn 6 = .ok (.iload_n 2, 1) := by decide +kernel
theorem dX12_waitsOn_7 : decode cX12_waitsOn 7 = .ok (.invokevirtual 559, 3) := by decide +kernel
theorem dX12_waitsOn_10 : decode cX12_waitsOn 10 = .ok (.invokestatic 600, 3) := by decide +kernel
theorem dX12_waitsOn_13 : decode cX12_waitsOn 13 = .ok (.imul, 1) := by decide +kernel
theorem dX12_waitsOn_14 : decode cX12_waitsOn 14 = .ok (.aload_n 0, 1) := by decide +kernel
theorem dX12_waitsOn_15 : decode cX12_waitsOn 15 = .ok (.getfield 39, 3) := by decide +kernel
theorem dX12_waitsOn_18 : decode cX12_waitsOn 18 = .ok (.aload_n 0, 1) := by decide +kernel
theorem dX12_waitsOn_19 : decode cX12_waitsOn 19 = .ok (.getfield 386, 3) := by decide +kernel
theorem dX12_waitsOn_22 : decode cX12_waitsOn 22 = .ok (.iaload, 1) := by decide +kernel
theorem dX12_waitsOn_23 : decode cX12_waitsOn 23 = .ok (.if_icmp .le 43, 3) := by decide +kernel
theorem dX12_waitsOn_26 : decode cX12_waitsOn 26 = .ok (.aload_n 0, 1) := by decide +kernel
theorem dX12_waitsOn_27 : decode cX12_waitsOn 27 = .ok (.getfield 143, 3) := by decide +kernel
theorem dX12_waitsOn_30 : decode cX12_waitsOn 30 = .ok (.iload_n 1, 1) := by decide +kernel
theorem dX12_waitsOn_31 : decode cX12_waitsOn 31 = .ok (.iconst 1, 1) := by decide +kernel
theorem dX12_waitsOn_32 : decode cX12_waitsOn 32 = .ok (.iastore, 1) := by decide +kernel
theorem dX12_waitsOn_33 : decode cX12_waitsOn 33 = .ok (.aload_n 0, 1) := by decide +kernel
theorem dX12_waitsOn_34 : decode cX12_waitsOn 34 = .ok (.getfield 146, 3) := by decide +kernel
theorem dX12_waitsOn_37 : decode cX12_waitsOn 37 = .ok (.iload_n 1, 1) := by decide +kernel
theorem dX12_waitsOn_38 : decode cX12_waitsOn 38 = .ok (.iconst 0, 1) := by decide +kernel
theorem dX12_waitsOn_39 : decode cX12_waitsOn 39 = .ok (.iastore, 1) := by decide +kernel
theorem dX12_waitsOn_40 : decode cX12_waitsOn 40 = .ok (.aload_n 0, 1) := by decide +kernel
theorem dX12_waitsOn_41 : decode cX12_waitsOn 41 = .ok (.dup, 1) := by decide +kernel
theorem dX12_waitsOn_42 : decode cX12_waitsOn 42 = .ok (.getfield 534, 3) := by decide +kernel
theorem dX12_waitsOn_45 : decode cX12_waitsOn 45 = .ok (.iconst 1, 1) := by decide +kernel
theorem dX12_waitsOn_46 : decode cX12_waitsOn 46 = .ok (.iadd, 1) := by decide +kernel
theorem dX12_waitsOn_47 : decode cX12_waitsOn 47 = .ok (.putfield 534, 3) := by decide +kernel
theorem dX12_waitsOn_50 : decode cX12_waitsOn 50 = .ok (.aload_n 0, 1) := by decide +kernel
theorem dX12_waitsOn_51 : decode cX12_waitsOn 51 = .ok (.iconst 5, 1) := by decide +kernel
theorem dX12_waitsOn_52 : decode cX12_waitsOn 52 = .ok (.iload_n 1, 1) := by decide +kernel
theorem dX12_waitsOn_53 : decode cX12_waitsOn 53 = .ok (.iconst (-1), 1) := by decide +kernel
theorem dX12_waitsOn_54 : decode cX12_waitsOn 54 = .ok (.aload_n 0, 1) := by decide +kernel
theorem dX12_waitsOn_55 : decode cX12_waitsOn 55 = .ok (.bipush 6, 2) := by decide +kernel
theorem dX12_waitsOn_57 : decode cX12_waitsOn 57 = .ok (.iload_n 1, 1) := by decide +kernel
theorem dX12_waitsOn_58 : decode cX12_waitsOn 58 = .ok (.invokevirtual 603, 3) := by decide +kernel
theorem dX12_waitsOn_61 : decode cX12_waitsOn 61 = .ok (.invokevirtual 549, 3) := by decide +kernel
theorem dX12_waitsOn_64 : decode cX12_waitsOn 64 = .ok (.istore_n 3, 1) := by decide +kernel
theorem dX12_waitsOn_65 : decode cX12_waitsOn 65 = .ok (.return_, 1) := by decide +kernel
theorem dX12_waitsOn_66 : decode cX12_waitsOn 66 = .ok (.aload_n 0, 1) := by decide +kernel
theorem dX12_waitsOn_67 : decode cX12_waitsOn 67 = .ok (.getfield 140, 3) := by decide +kernel
theorem dX12_waitsOn_70 : decode cX12_waitsOn 70 = .ok (.iload_n 1, 1) := by decide +kernel
theorem dX12_waitsOn_71 : decode cX12_waitsOn 71 = .ok (.iconst 0, 1) := by decide +kernel
theorem dX12_waitsOn_72 : decode cX12_waitsOn 72 = .ok (.iastore, 1) := by decide +kernel
theorem dX12_waitsOn_73 : decode cX12_waitsOn 73 = .ok (.aload_n 0, 1) := by decide +kernel
theorem dX12_waitsOn_74 : decode cX12_waitsOn 74 = .ok (.getfield 146, 3) := by decide +kernel
theorem dX12_waitsOn_77 : decode cX12_waitsOn 77 = .ok (.iload_n 1, 1) := by decide +kernel
theorem dX12_waitsOn_78 : decode cX12_waitsOn 78 = .ok (.dup2, 1) := by decide +kernel
theorem dX12_waitsOn_79 : decode cX12_waitsOn 79 = .ok (.iaload, 1) := by decide +kernel
theorem dX12_waitsOn_80 : decode cX12_waitsOn 80 = .ok (.iconst 1, 1) := by decide +kernel
theorem dX12_waitsOn_81 : decode cX12_waitsOn 81 = .ok (.isub, 1) := by decide +kernel
theorem dX12_waitsOn_82 : decode cX12_waitsOn 82 = .ok (.iastore, 1) := by decide +kernel
theorem dX12_waitsOn_83 : decode cX12_waitsOn 83 = .ok (.aload_n 0, 1) := by decide +kernel
theorem dX12_waitsOn_84 : decode cX12_waitsOn 84 = .ok (.getfield 146, 3) := by decide +kernel
theorem dX12_waitsOn_87 : decode cX12_waitsOn 87 = .ok (.iload_n 1, 1) := by decide +kernel
theorem dX12_waitsOn_88 : decode cX12_waitsOn 88 = .ok (.iaload, 1) := by decide +kernel
theorem dX12_waitsOn_89 : decode cX12_waitsOn 89 = .ok (.ifCond .gt 17, 3) := by decide +kernel
theorem dX12_waitsOn_92 : decode cX12_waitsOn 92 = .ok (.aload_n 0, 1) := by decide +kernel
theorem dX12_waitsOn_93 : decode cX12_waitsOn 93 = .ok (.getfield 146, 3) := by decide +kernel
theorem dX12_waitsOn_96 : decode cX12_waitsOn 96 = .ok (.iload_n 1, 1) := by decide +kernel
theorem dX12_waitsOn_97 : decode cX12_waitsOn 97 = .ok (.iconst 0, 1) := by decide +kernel
theorem dX12_waitsOn_98 : decode cX12_waitsOn 98 = .ok (.iastore, 1) := by decide +kernel
theorem dX12_waitsOn_99 : decode cX12_waitsOn 99 = .ok (.aload_n 0, 1) := by decide +kernel
theorem dX12_waitsOn_100 : decode cX12_waitsOn 100 = .ok (.getfield 143, 3) := by decide +kernel
theorem dX12_waitsOn_103 : decode cX12_waitsOn 103 = .ok (.iload_n 1, 1) := by decide +kernel
theorem dX12_waitsOn_104 : decode cX12_waitsOn 104 = .ok (.iconst 0, 1) := by decide +kernel
theorem dX12_waitsOn_105 : decode cX12_waitsOn 105 = .ok (.iastore, 1) := by decide +kernel
theorem dX12_waitsOn_106 : decode cX12_waitsOn 106 = .ok (.return_, 1) := by decide +kernel
theorem dX12_weight_0 : decode cX12_weight 0 = .ok (.aload_n 0, 1) := by decide +kernel
theorem dX12_weight_1 : decode cX12_weight 1 = .ok (.getfield 86, 3) := by decide +kernel
theorem dX12_weight_4 : decode cX12_weight 4 = .ok (.iconst 5, 1) := by decide +kernel
theorem dX12_weight_5 : decode cX12_weight 5 = .ok (.aload_n 0, 1) := by decide +kernel
theorem dX12_weight_6 : decode cX12_weight 6 = .ok (.getfield 386, 3) := by decide +kernel
theorem dX12_weight_9 : decode cX12_weight 9 = .ok (.imul, 1) := by decide +kernel
theorem dX12_weight_10 : decode cX12_weight 10 = .ok (.iload_n 1, 1) := by decide +kernel
theorem dX12_weight_11 : decode cX12_weight 11 = .ok (.iadd, 1) := by decide +kernel
theorem dX12_weight_12 : decode cX12_weight 12 = .ok (.iaload, 1) := by decide +kernel
theorem dX12_weight_13 : decode cX12_weight 13 = .ok (.ireturn, 1) := by decide +kernel
theorem dX12_where_0 : decode cX12_where 0 = .ok (.aload_n 0, 1) := by decide +kernel
theorem dX12_where_1 : decode cX12_where 1 = .ok (.iload_n 1, 1) := by decide +kernel
theorem dX12_where_2 : decode cX12_where 2 = .ok (.iload_n 2, 1) := by decide +kernel
theorem dX12_where_3 : decode cX12_where 3 = .ok (.invokevirtual 634, 3) := by decide +kernel
theorem dX12_where_6 : decode cX12_where 6 = .ok (.ifCond .eq 14, 3) := by decide +kernel
theorem dX12_where_9 : decode cX12_where 9 = .ok (.iload_n 3, 1) := by decide +kernel
theorem dX12_where_10 : decode cX12_where 10 = .ok (.iconst 0, 1) := by decide +kernel
theorem dX12_where_11 : decode cX12_where 11 = .ok (.sipush 9999, 3) := by decide +kernel
theorem dX12_where_14 : decode cX12_where 14 = .ok (.invokestatic 503, 3) := by decide +kernel
theorem dX12_where_17 : decode cX12_where 17 = .ok (.ifCond .ne 6, 3) := by decide +kernel
theorem dX12_where_20 : decode cX12_where 20 = .ok (.bipush (-2), 2) := by decide +kernel
theorem dX12_where_22 : decode cX12_where 22 = .ok (.ireturn, 1) := by decide +kernel
theorem dX12_where_23 : decode cX12_where 23 = .ok (.iconst 3, 1) := by decide +kernel
theorem dX12_where_24 : decode cX12_where 24 = .ok (.aload_n 0, 1) := by decide +kernel
theorem dX12_where_25 : decode cX12_where 25 = .ok (.getfield 386, 3) := by decide +kernel
theorem dX12_where_28 : decode cX12_where 28 = .ok (.imul, 1) := by decide +kernel
theorem dX12_where_29 : decode cX12_where 29 = .ok (.iload_n 1, 1) := by decide +kernel
theorem dX12_where_30 : decode cX12_where 30 = .ok (.iadd, 1) := by decide +kernel
theorem dX12_where_31 : decode cX12_where 31 = .ok (.istore 4, 2) := by decide +kernel
theorem dX12_where_33 : decode cX12_where 33 = .ok (.aload_n 0, 1) := by decide +kernel
theorem dX12_where_34 : decode cX12_where 34 = .ok (.getfield 65, 3) := by decide +kernel
theorem dX12_where_37 : decode cX12_where 37 = .ok (.iload 4, 2) := by decide +kernel
theorem dX12_where_39 : decode cX12_where 39 = .ok (.iaload, 1) := by decide +kernel
theorem dX12_where_40 : decode cX12_where 40 = .ok (.iload_n 2, 1) := by decide +kernel
theorem dX12_where_41 : decode cX12_where 41 = .ok (.aload_n 0, 1) := by decide +kernel
theorem dX12_where_42 : decode cX12_where 42 = .ok (.getfield 59, 3) := by decide +kernel
theorem dX12_where_45 : decode cX12_where 45 = .ok (.iload 4, 2) := by decide +kernel
theorem dX12_where_47 : decode cX12_where 47 = .ok (.iaload, 1) := by decide +kernel
theorem dX12_where_48 : decode cX12_where 48 = .ok (.iload_n 3, 1) := by decide +kernel
theorem dX12_where_49 : decode cX12_where 49 = .ok (.imul, 1) := by decide +kernel
theorem dX12_where_50 : decode cX12_where 50 = .ok (.iadd, 1) := by decide +kernel
theorem dX12_where_51 : decode cX12_where 51 = .ok (.bipush 10, 2) := by decide +kernel
theorem dX12_where_53 : decode cX12_where 53 = .ok (.aload_n 0, 1) := by decide +kernel
theorem dX12_where_54 : decode cX12_where 54 = .ok (.getfield 62, 3) := by decide +kernel
theorem dX12_where_57 : decode cX12_where 57 = .ok (.iload 4, 2) := by decide +kernel
theorem dX12_where_59 : decode cX12_where 59 = .ok (.iaload, 1) := by decide +kernel
theorem dX12_where_60 : decode cX12_where 60 = .ok (.imul, 1) := by decide +kernel
theorem dX12_where_61 : decode cX12_where 61 = .ok (.irem, 1) := by decide +kernel
theorem dX12_where_62 : decode cX12_where 62 = .ok (.bipush 10, 2) := by decide +kernel
theorem dX12_where_64 : decode cX12_where 64 = .ok (.idiv, 1) := by decide +kernel
theorem dX12_where_65 : decode cX12_where 65 = .ok (.iadd, 1) := by decide +kernel
theorem dX12_where_66 : decode cX12_where 66 = .ok (.istore 5, 2) := by decide +kernel
theorem dX12_where_68 : decode cX12_where 68 = .ok (.iload 5, 2) := by decide +kernel
theorem dX12_where_70 : decode cX12_where 70 = .ok (.aload_n 0, 1) := by decide +kernel
theorem dX12_where_71 : decode cX12_where 71 = .ok (.getfield 68, 3) := by decide +kernel
theorem dX12_where_74 : decode cX12_where 74 = .ok (.iload 4, 2) := by decide +kernel
theorem dX12_where_76 : decode cX12_where 76 = .ok (.iaload, 1) := by decide +kernel
theorem dX12_where_77 : decode cX12_where 77 = .ok (.if_icmp .gt 8, 3) := by decide +kernel
theorem dX12_where_80 : decode cX12_where 80 = .ok (.iload 5, 2) := by decide +kernel
theorem dX12_where_82 : decode cX12_where 82 = .ok (.goto 4, 3) := by decide +kernel
theorem dX12_where_85 : decode cX12_where 85 = .ok (.iconst (-1), 1) := by decide +kernel
theorem dX12_where_86 : decode cX12_where 86 = .ok (.ireturn, 1) := by decide +kernel
theorem dX12_wordHere_0 : decode cX12_wordHere 0 = .ok (.aload_n 0, 1) := by decide +kernel
theorem dX12_wordHere_1 : decode cX12_wordHere 1 = .ok (.ldc2_w 280, 3) := by decide +kernel
theorem dX12_wordHere_4 : decode cX12_wordHere 4 = .ok (.invokevirtual 395, 3) := by decide +kernel
theorem dX12_wordHere_7 : decode cX12_wordHere 7 = .ok (.ifCond .eq 6, 3) := by decide +kernel
theorem dX12_wordHere_10 : decode cX12_wordHere 10 = .ok (.bipush 99, 2) := by decide +kernel
theorem dX12_wordHere_12 : decode cX12_wordHere 12 = .ok (.ireturn, 1) := by decide +kernel
theorem dX12_wordHere_13 : decode cX12_wordHere 13 = .ok (.aload_n 0, 1) := by decide +kernel
theorem dX12_wordHere_14 : decode cX12_wordHere 14 = .ok (.ldc2_w 268, 3) := by decide +kernel
theorem dX12_wordHere_17 : decode cX12_wordHere 17 = .ok (.invokevirtual 395, 3) := by decide +kernel
theorem dX12_wordHere_20 : decode cX12_wordHere 20 = .ok (.ifCond .eq 6, 3) := by decide +kernel
theorem dX12_wordHere_23 : decode cX12_wordHere 23 = .ok (.bipush 115, 2) := by decide +kernel
theorem dX12_wordHere_25 : decode cX12_wordHere 25 = .ok (.ireturn, 1) := by decide +kernel
theorem dX12_wordHere_26 : decode cX12_wordHere 26 = .ok (.aload_n 0, 1) := by decide +kernel
theorem dX12_wordHere_27 : decode cX12_wordHere 27 = .ok (.ldc2_w 310, 3) := by decide +kernel
theorem dX12_wordHere_30 : decode cX12_wordHere 30 = .ok (.invokevirtual 395, 3) := by decide +kernel
theorem dX12_wordHere_33 : decode cX12_wordHere 33 = .ok (.ifCond .eq 6, 3) := by decide +kernel
theorem dX12_wordHere_36 : decode cX12_wordHere 36 = .ok (.bipush 119, 2) := by decide +kernel
theorem dX12_wordHere_38 : decode cX12_wordHere 38 = .ok (.ireturn, 1) := by decide +kernel
theorem dX12_wordHere_39 : decode cX12_wordHere 39 = .ok (.aload_n 0, 1) := by decide +kernel
theorem dX12_wordHere_40 : decode cX12_wordHere 40 = .ok (.ldc2_w 296, 3) := by decide +kernel
theorem dX12_wordHere_43 : decode cX12_wordHere 43 = .ok (.invokevirtual 395, 3) := by decide +kernel
theorem dX12_wordHere_46 : decode cX12_wordHere 46 = .ok (.ifCond .eq 6, 3) := by decide +kernel
theorem dX12_wordHere_49 : decode cX12_wordHere 49 = .ok (.bipush 116, 2) := by decide +kernel
theorem dX12_wordHere_51 : decode cX12_wordHere 51 = .ok (.ireturn, 1) := by decide +kernel
theorem dX12_wordHere_52 : decode cX12_wordHere 52 = .ok (.aload_n 0, 1) := by decide +kernel
theorem dX12_wordHere_53 : decode cX12_wordHere 53 = .ok (.ldc2_w 298, 3) := by decide +kernel
theorem dX12_wordHere_56 : decode cX12_wordHere 56 = .ok (.invokevirtual 395, 3) := by decide +kernel
theorem dX12_wordHere_59 : decode cX12_wordHere 59 = .ok (.ifCond .eq 6, 3) := by decide +kernel
theorem dX12_wordHere_62 : decode cX12_wordHere 62 = .ok (.bipush 97, 2) := by decide +kernel
theorem dX12_wordHere_64 : decode cX12_wordHere 64 = .ok (.ireturn, 1) := by decide +kernel
theorem dX12_wordHere_65 : decode cX12_wordHere 65 = .ok (.aload_n 0, 1) := by decide +kernel
theorem dX12_wordHere_66 : decode cX12_wordHere 66 = .ok (.ldc2_w 300, 3) := by decide +kernel
theorem dX12_wordHere_69 : decode cX12_wordHere 69 = .ok (.invokevirtual 395, 3) := by decide +kernel
theorem dX12_wordHere_72 : decode cX12_wordHere 72 = .ok (.ifCond .eq 6, 3) := by decide +kernel
theorem dX12_wordHere_75 : decode cX12_wordHere 75 = .ok (.bipush 98, 2) := by decide +kernel
theorem dX12_wordHere_77 : decode cX12_wordHere 77 = .ok (.ireturn, 1) := by decide +kernel
theorem dX12_wordHere_78 : decode cX12_wordHere 78 = .ok (.aload_n 0, 1) := by decide +kernel
theorem dX12_wordHere_79 : decode cX12_wordHere 79 = .ok (.ldc2_w 302, 3) := by decide +kernel
theorem dX12_wordHere_82 : decode cX12_wordHere 82 = .ok (.invokevirtual 395, 3) := by decide +kernel
theorem dX12_wordHere_85 : decode cX12_wordHere 85 = .ok (.ifCond .eq 8, 3) := by decide +kernel
theorem dX12_wordHere_88 : decode cX12_wordHere 88 = .ok (.bipush 108, 2) := by decide +kernel
theorem dX12_wordHere_90 : decode cX12_wordHere 90 = .ok (.goto 4, 3) := by decide +kernel
theorem dX12_wordHere_93 : decode cX12_wordHere 93 = .ok (.iconst 0, 1) := by decide +kernel
theorem dX12_wordHere_94 : decode cX12_wordHere 94 = .ok (.ireturn, 1) := by decide +kernel
theorem dX12_wrong_0 : decode cX12_wrong 0 = .ok (.aload_n 0, 1) := by decide +kernel
theorem dX12_wrong_1 : decode cX12_wrong 1 = .ok (.aload_n 0, 1) := by decide +kernel
theorem dX12_wrong_2 : decode cX12_wrong 2 = .ok (.getfield 336, 3) := by decide +kernel
theorem dX12_wrong_5 : decode cX12_wrong 5 = .ok (.iconst 1, 1) := by decide +kernel
theorem dX12_wrong_6 : decode cX12_wrong 6 = .ok (.if_icmp .ne 7, 3) := by decide +kernel
theorem dX12_wrong_9 : decode cX12_wrong 9 = .ok (.iconst 1, 1) := by decide +kernel
theorem dX12_wrong_10 : decode cX12_wrong 10 = .ok (.goto 4, 3) := by decide +kernel
theorem dX12_wrong_13 : decode cX12_wrong 13 = .ok (.iconst 2, 1) := by decide +kernel
theorem dX12_wrong_14 : decode cX12_wrong 14 = .ok (.aload_n 0, 1) := by decide +kernel
theorem dX12_wrong_15 : decode cX12_wrong 15 = .ok (.getfield 329, 3) := by decide +kernel
theorem dX12_wrong_18 : decode cX12_wrong 18 = .ok (.invokevirtual 360, 3) := by decide +kernel
theorem dX12_wrong_21 : decode cX12_wrong 21 = .ok (.return_, 1) := by decide +kernel
theorem dJ6_signum_0f7a4_0 : decode cJ6_signum_0f7a4 0 = .ok (.iload_n 0, 1) := by decide +kernel
theorem dJ6_signum_0f7a4_1 : decode cJ6_signum_0f7a4 1 = .ok (.bipush 31, 2) := by decide +kernel
theorem dJ6_signum_0f7a4_3 : decode cJ6_signum_0f7a4 3 = .ok (.ishr, 1) := by decide +kernel
theorem dJ6_signum_0f7a4_4 : decode cJ6_signum_0f7a4 4 = .ok (.iload_n 0, 1) := by decide +kernel
theorem dJ6_signum_0f7a4_5 : decode cJ6_signum_0f7a4 5 = .ok (.ineg, 1) := by decide +kernel
theorem dJ6_signum_0f7a4_6 : decode cJ6_signum_0f7a4 6 = .ok (.bipush 31, 2) := by decide +kernel
theorem dJ6_signum_0f7a4_8 : decode cJ6_signum_0f7a4 8 = .ok (.iushr, 1) := by decide +kernel
theorem dJ6_signum_0f7a4_9 : decode cJ6_signum_0f7a4 9 = .ok (.ior, 1) := by decide +kernel
theorem dJ6_signum_0f7a4_10 : decode cJ6_signum_0f7a4 10 = .ok (.ireturn, 1) := by decide +kernel
theorem dJ7_fill_53178_0 : decode cJ7_fill_53178 0 = .ok (.iconst 0, 1) := by decide +kernel
theorem dJ7_fill_53178_1 : decode cJ7_fill_53178 1 = .ok (.istore_n 2, 1) := by decide +kernel
theorem dJ7_fill_53178_2 : decode cJ7_fill_53178 2 = .ok (.aload_n 0, 1) := by decide +kernel
theorem dJ7_fill_53178_3 : decode cJ7_fill_53178 3 = .ok (.arraylength, 1) := by decide +kernel
theorem dJ7_fill_53178_4 : decode cJ7_fill_53178 4 = .ok (.istore_n 3, 1) := by decide +kernel
theorem dJ7_fill_53178_5 : decode cJ7_fill_53178 5 = .ok (.iload_n 2, 1) := by decide +kernel
theorem dJ7_fill_53178_6 : decode cJ7_fill_53178 6 = .ok (.iload_n 3, 1) := by decide +kernel
theorem dJ7_fill_53178_7 : decode cJ7_fill_53178 7 = .ok (.if_icmp .ge 13, 3) := by decide +kernel
theorem dJ7_fill_53178_10 : decode cJ7_fill_53178 10 = .ok (.aload_n 0, 1) := by decide +kernel
theorem dJ7_fill_53178_11 : decode cJ7_fill_53178 11 = .ok (.iload_n 2, 1) := by decide +kernel
theorem dJ7_fill_53178_12 : decode cJ7_fill_53178 12 = .ok (.iload_n 1, 1) := by decide +kernel
theorem dJ7_fill_53178_13 : decode cJ7_fill_53178 13 = .ok (.iastore, 1) := by decide +kernel
theorem dJ7_fill_53178_14 : decode cJ7_fill_53178 14 = .ok (.iinc 2 1, 3) := by decide +kernel
theorem dJ7_fill_53178_17 : decode cJ7_fill_53178 17 = .ok (.goto (-12), 3) := by decide +kernel
theorem dJ7_fill_53178_20 : decode cJ7_fill_53178 20 = .ok (.return_, 1) := by decide +kernel
theorem dL_law_0 : decode cL_law 0 = .ok (.new 7, 3) := by decide +kernel
theorem dL_law_3 : decode cL_law 3 = .ok (.dup, 1) := by decide +kernel
theorem dL_law_4 : decode cL_law 4 = .ok (.invokespecial 9, 3) := by decide +kernel
theorem dL_law_7 : decode cL_law 7 = .ok (.astore_n 1, 1) := by decide +kernel
theorem dL_law_8 : decode cL_law 8 = .ok (.new 10, 3) := by decide +kernel
theorem dL_law_11 : decode cL_law 11 = .ok (.dup, 1) := by decide +kernel
theorem dL_law_12 : decode cL_law 12 = .ok (.invokespecial 12, 3) := by decide +kernel
theorem dL_law_15 : decode cL_law 15 = .ok (.astore_n 2, 1) := by decide +kernel
theorem dL_law_16 : decode cL_law 16 = .ok (.iconst 0, 1) := by decide +kernel
theorem dL_law_17 : decode cL_law 17 = .ok (.istore_n 3, 1) := by decide +kernel
theorem dL_law_18 : decode cL_law 18 = .ok (.iload_n 3, 1) := by decide +kernel
theorem dL_law_19 : decode cL_law 19 = .ok (.aload_n 0, 1) := by decide +kernel
theorem dL_law_20 : decode cL_law 20 = .ok (.arraylength, 1) := by decide +kernel
theorem dL_law_21 : decode cL_law 21 = .ok (.bipush 6, 2) := by decide +kernel
theorem dL_law_23 : decode cL_law 23 = .ok (.isub, 1) := by decide +kernel
theorem dL_law_24 : decode cL_law 24 = .ok (.if_icmp .gt 1219, 3) := by decide +kernel
theorem dL_law_27 : decode cL_law 27 = .ok (.aload_n 0, 1) := by decide +kernel
theorem dL_law_28 : decode cL_law 28 = .ok (.iload_n 3, 1) := by decide +kernel
theorem dL_law_29 : decode cL_law 29 = .ok (.iaload, 1) := by decide +kernel
theorem dL_law_30 : decode cL_law 30 = .ok (.bipush 63, 2) := by decide +kernel
theorem dL_law_32 : decode cL_law 32 = .ok (.iand, 1) := by decide +kernel
theorem dL_law_33 : decode cL_law 33 = .ok (.tableswitch 1204 0 36 #[163, 226, 249, 262, 285, 308, 341, 364, 397, 420, 453, 476, 499, 532, 555, 588, 611, 624, 647, 680, 713, 756, 779, 792, 815, 848, 881, 914, 937, 980, 1023, 1046, 1069, 1102, 1135, 1158, 1181], 163) := by decide +kernel
theorem dL_law_196 : decode cL_law 196 = .ok (.aload_n 1, 1) := by decide +kernel
theorem dL_law_197 : decode cL_law 197 = .ok (.aload_n 0, 1) := by decide +kernel
theorem dL_law_198 : decode cL_law 198 = .ok (.iload_n 3, 1) := by decide +kernel
theorem dL_law_199 : decode cL_law 199 = .ok (.iconst 1, 1) := by decide +kernel
theorem dL_law_200 : decode cL_law 200 = .ok (.iadd, 1) := by decide +kernel
theorem dL_law_201 : decode cL_law 201 = .ok (.iaload, 1) := by decide +kernel
theorem dL_law_202 : decode cL_law 202 = .ok (.aload_n 0, 1) := by decide +kernel
theorem dL_law_203 : decode cL_law 203 = .ok (.iload_n 3, 1) := by decide +kernel
theorem dL_law_204 : decode cL_law 204 = .ok (.iconst 2, 1) := by decide +kernel
theorem dL_law_205 : decode cL_law 205 = .ok (.iadd, 1) := by decide +kernel
theorem dL_law_206 : decode cL_law 206 = .ok (.iaload, 1) := by decide +kernel
theorem dL_law_207 : decode cL_law 207 = .ok (.aload_n 0, 1) := by decide +kernel
theorem dL_law_208 : decode cL_law 208 = .ok (.iload_n 3, 1) := by decide +kernel
theorem dL_law_209 : decode cL_law 209 = .ok (.iconst 3, 1) := by decide +kernel
theorem dL_law_210 : decode cL_law 210 = .ok (.iadd, 1) := by decide +kernel
theorem dL_law_211 : decode cL_law 211 = .ok (.iaload, 1) := by decide +kernel
theorem dL_law_212 : decode cL_law 212 = .ok (.aload_n 0, 1) := by decide +kernel
theorem dL_law_213 : decode cL_law 213 = .ok (.iload_n 3, 1) := by decide +kernel
theorem dL_law_214 : decode cL_law 214 = .ok (.iconst 4, 1) := by decide +kernel
theorem dL_law_215 : decode cL_law 215 = .ok (.iadd, 1) := by decide +kernel
theorem dL_law_216 : decode cL_law 216 = .ok (.iaload, 1) := by decide +kernel
theorem dL_law_217 : decode cL_law 217 = .ok (.aload_n 0, 1) := by decide +kernel
theorem dL_law_218 : decode cL_law 218 = .ok (.iload_n 3, 1) := by decide +kernel
theorem dL_law_219 : decode cL_law 219 = .ok (.iconst 5, 1) := by decide +kernel
theorem dL_law_220 : decode cL_law 220 = .ok (.iadd, 1) := by decide +kernel
theorem dL_law_221 : decode cL_law 221 = .ok (.iaload, 1) := by decide +kernel
theorem dL_law_222 : decode cL_law 222 = .ok (.invokevirtual 13, 3) := by decide +kernel
theorem dL_law_225 : decode cL_law 225 = .ok (.pop, 1) := by decide +kernel
theorem dL_law_226 : decode cL_law 226 = .ok (.aload_n 2, 1) := by decide +kernel
theorem dL_law_227 : decode cL_law 227 = .ok (.aload_n 0, 1) := by decide +kernel
theorem dL_law_228 : decode cL_law 228 = .ok (.iload_n 3, 1) := by decide +kernel
theorem dL_law_229 : decode cL_law 229 = .ok (.iconst 1, 1) := by decide +kernel
theorem dL_law_230 : decode cL_law 230 = .ok (.iadd, 1) := by decide +kernel
theorem dL_law_231 : decode cL_law 231 = .ok (.iaload, 1) := by decide +kernel
theorem dL_law_232 : decode cL_law 232 = .ok (.aload_n 0, 1) := by decide +kernel
theorem dL_law_233 : decode cL_law 233 = .ok (.iload_n 3, 1) := by decide +kernel
theorem dL_law_234 : decode cL_law 234 = .ok (.iconst 2, 1) := by decide +kernel
theorem dL_law_235 : decode cL_law 235 = .ok (.iadd, 1) := by decide +kernel
theorem dL_law_236 : decode cL_law 236 = .ok (.iaload, 1) := by decide +kernel
theorem dL_law_237 : decode cL_law 237 = .ok (.aload_n 0, 1) := by decide +kernel
theorem dL_law_238 : decode cL_law 238 = .ok (.iload_n 3, 1) := by decide +kernel
theorem dL_law_239 : decode cL_law 239 = .ok (.iconst 3, 1) := by decide +kernel
theorem dL_law_240 : decode cL_law 240 = .ok (.iadd, 1) := by decide +kernel
theorem dL_law_241 : decode cL_law 241 = .ok (.iaload, 1) := by decide +kernel
theorem dL_law_242 : decode cL_law 242 = .ok (.aload_n 0, 1) := by decide +kernel
theorem dL_law_243 : decode cL_law 243 = .ok (.iload_n 3, 1) := by decide +kernel
theorem dL_law_244 : decode cL_law 244 = .ok (.iconst 4, 1) := by decide +kernel
theorem dL_law_245 : decode cL_law 245 = .ok (.iadd, 1) := by decide +kernel
theorem dL_law_246 : decode cL_law 246 = .ok (.iaload, 1) := by decide +kernel
theorem dL_law_247 : decode cL_law 247 = .ok (.aload_n 0, 1) := by decide +kernel
theorem dL_law_248 : decode cL_law 248 = .ok (.iload_n 3, 1) := by decide +kernel
theorem dL_law_249 : decode cL_law 249 = .ok (.iconst 5, 1) := by decide +kernel
theorem dL_law_250 : decode cL_law 250 = .ok (.iadd, 1) := by decide +kernel
theorem dL_law_251 : decode cL_law 251 = .ok (.iaload, 1) := by decide +kernel
theorem dL_law_252 : decode cL_law 252 = .ok (.invokevirtual 17, 3) := by decide +kernel
theorem dL_law_255 : decode cL_law 255 = .ok (.pop, 1) := by decide +kernel
theorem dL_law_256 : decode cL_law 256 = .ok (.goto 981, 3) := by decide +kernel
theorem dL_law_259 : decode cL_law 259 = .ok (.aload_n 1, 1) := by decide +kernel
theorem dL_law_260 : decode cL_law 260 = .ok (.aload_n 0, 1) := by decide +kernel
theorem dL_law_261 : decode cL_law 261 = .ok (.iload_n 3, 1) := by decide +kernel
theorem dL_law_262 : decode cL_law 262 = .ok (.iconst 1, 1) := by decide +kernel
theorem dL_law_263 : decode cL_law 263 = .ok (.iadd, 1) := by decide +kernel
theorem dL_law_264 : decode cL_law 264 = .ok (.iaload, 1) := by decide +kernel
theorem dL_law_265 : decode cL_law 265 = .ok (.invokevirtual 18, 3) := by decide +kernel
theorem dL_law_268 : decode cL_law 268 = .ok (.pop, 1) := by decide +kernel
theorem dL_law_269 : decode cL_law 269 = .ok (.aload_n 2, 1) := by decide +kernel
theorem dL_law_270 : decode cL_law 270 = .ok (.aload_n 0, 1) := by decide +kernel
theorem dL_law_271 : decode cL_law 271 = .ok (.iload_n 3, 1) := by decide +kernel
theorem dL_law_272 : decode cL_law 272 = .ok (.iconst 1, 1) := by decide +kernel
theorem dL_law_273 : decode cL_law 273 = .ok (.iadd, 1) := by decide +kernel
theorem dL_law_274 : decode cL_law 274 = .ok (.iaload, 1) := by decide +kernel
theorem dL_law_275 : decode cL_law 275 = .ok (.invokevirtual 22, 3) := by decide +kernel
theorem dL_law_278 : decode cL_law 278 = .ok (.pop, 1) := by decide +kernel
theorem dL_law_279 : decode cL_law 279 = .ok (.goto 958, 3) := by decide +kernel
theorem dL_law_282 : decode cL_law 282 = .ok (.aload_n 1, 1) := by decide +kernel
theorem dL_law_283 : decode cL_law 283 = .ok (.invokevirtual 23, 3) := by decide +kernel
theorem dL_law_286 : decode cL_law 286 = .ok (.pop, 1) := by decide +kernel
theorem dL_law_287 : decode cL_law 287 = .ok (.aload_n 2, 1) := by decide +kernel
theorem dL_law_288 : decode cL_law 288 = .ok (.invokevirtual 27, 3) := by decide +kernel
theorem dL_law_291 : decode cL_law 291 = .ok (.pop, 1) := by decide +kernel
theorem dL_law_292 : decode cL_law 292 = .ok (.goto 945, 3) := by decide +kernel
theorem dL_law_295 : decode cL_law 295 = .ok (.aload_n 1, 1) := by decide +kernel
theorem dL_law_296 : decode cL_law 296 = .ok (.aload_n 0, 1) := by decide +kernel
theorem dL_law_297 : decode cL_law 297 = .ok (.iload_n 3, 1) := by decide +kernel
theorem dL_law_298 : decode cL_law 298 = .ok (.iconst 1, 1) := by decide +kernel
theorem dL_law_299 : decode cL_law 299 = .ok (.iadd, 1) := by decide +kernel
theorem dL_law_300 : decode cL_law 300 = .ok (.iaload, 1) := by decide +kernel
theorem dL_law_301 : decode cL_law 301 = .ok (.invokevirtual 28, 3) := by decide +kernel
theorem dL_law_304 : decode cL_law 304 = .ok (.pop, 1) := by decide +kernel
theorem dL_law_305 : decode cL_law 305 = .ok (.aload_n 2, 1) := by decide +kernel
theorem dL_law_306 : decode cL_law 306 = .ok (.aload_n 0, 1) := by decide +kernel
theorem dL_law_307 : decode cL_law 307 = .ok (.iload_n 3, 1) := by decide +kernel
theorem dL_law_308 : decode cL_law 308 = .ok (.iconst 1, 1) := by decide +kernel
theorem dL_law_309 : decode cL_law 309 = .ok (.iadd, 1) := by decide +kernel
theorem dL_law_310 : decode cL_law 310 = .ok (.iaload, 1) := by decide +kernel
theorem dL_law_311 : decode cL_law 311 = .ok (.invokevirtual 31, 3) := by decide +kernel
theorem dL_law_314 : decode cL_law 314 = .ok (.pop, 1) := by decide +kernel
theorem dL_law_315 : decode cL_law 315 = .ok (.goto 922, 3) := by decide +kernel
theorem dL_law_318 : decode cL_law 318 = .ok (.aload_n 1, 1) := by decide +kernel
theorem dL_law_319 : decode cL_law 319 = .ok (.aload_n 0, 1) := by decide +kernel
theorem dL_law_320 : decode cL_law 320 = .ok (.iload_n 3, 1) := by decide +kernel
theorem dL_law_321 : decode cL_law 321 = .ok (.iconst 1, 1) := by decide +kernel
theorem dL_law_322 : decode cL_law 322 = .ok (.iadd, 1) := by decide +kernel
theorem dL_law_323 : decode cL_law 323 = .ok (.iaload, 1) := by decide +kernel
theorem dL_law_324 : decode cL_law 324 = .ok (.invokevirtual 32, 3) := by decide +kernel
theorem dL_law_327 : decode cL_law 327 = .ok (.pop, 1) := by decide +kernel
theorem dL_law_328 : decode cL_law 328 = .ok (.aload_n 2, 1) := by decide +kernel
theorem dL_law_329 : decode cL_law 329 = .ok (.aload_n 0, 1) := by decide +kernel
theorem dL_law_330 : decode cL_law 330 = .ok (.iload_n 3, 1) := by decide +kernel
theorem dL_law_331 : decode cL_law 331 = .ok (.iconst 1, 1) := by decide +kernel
theorem dL_law_332 : decode cL_law 332 = .ok (.iadd, 1) := by decide +kernel
theorem dL_law_333 : decode cL_law 333 = .ok (.iaload, 1) := by decide +kernel
theorem dL_law_334 : decode cL_law 334 = .ok (.invokevirtual 35, 3) := by decide +kernel
theorem dL_law_337 : decode cL_law 337 = .ok (.pop, 1) := by decide +kernel
theorem dL_law_338 : decode cL_law 338 = .ok (.goto 899, 3) := by decide +kernel
theorem dL_law_341 : decode cL_law 341 = .ok (.aload_n 1, 1) := by decide +kernel
theorem dL_law_342 : decode cL_law 342 = .ok (.aload_n 0, 1) := by decide +kernel
theorem dL_law_343 : decode cL_law 343 = .ok (.iload_n 3, 1) := by decide +kernel
theorem dL_law_344 : decode cL_law 344 = .ok (.iconst 1, 1) := by decide +kernel
theorem dL_law_345 : decode cL_law 345 = .ok (.iadd, 1) := by decide +kernel
theorem dL_law_346 : decode cL_law 346 = .ok (.iaload, 1) := by decide +kernel
theorem dL_law_347 : decode cL_law 347 = .ok (.aload_n 0, 1) := by decide +kernel
theorem dL_law_348 : decode cL_law 348 = .ok (.iload_n 3, 1) := by decide +kernel
theorem dL_law_349 : decode cL_law 349 = .ok (.iconst 2, 1) := by decide +kernel
theorem dL_law_350 : decode cL_law 350 = .ok (.iadd, 1) := by decide +kernel
theorem dL_law_351 : decode cL_law 351 = .ok (.iaload, 1) := by decide +kernel
theorem dL_law_352 : decode cL_law 352 = .ok (.invokevirtual 36, 3) := by decide +kernel
theorem dL_law_355 : decode cL_law 355 = .ok (.pop, 1) := by decide +kernel
theorem dL_law_356 : decode cL_law 356 = .ok (.aload_n 2, 1) := by decide +kernel
theorem dL_law_357 : decode cL_law 357 = .ok (.aload_n 0, 1) := by decide +kernel
theorem dL_law_358 : decode cL_law 358 = .ok (.iload_n 3, 1) := by decide +kernel
theorem dL_law_359 : decode cL_law 359 = .ok (.iconst 1, 1) := by decide +kernel
theorem dL_law_360 : decode cL_law 360 = .ok (.iadd, 1) := by decide +kernel
theorem dL_law_361 : decode cL_law 361 = .ok (.iaload, 1) := by decide +kernel
theorem dL_law_362 : decode cL_law 362 = .ok (.aload_n 0, 1) := by decide +kernel
theorem dL_law_363 : decode cL_law 363 = .ok (.iload_n 3, 1) := by decide +kernel
theorem dL_law_364 : decode cL_law 364 = .ok (.iconst 2, 1) := by decide +kernel
theorem dL_law_365 : decode cL_law 365 = .ok (.iadd, 1) := by decide +kernel
theorem dL_law_366 : decode cL_law 366 = .ok (.iaload, 1) := by decide +kernel
theorem dL_law_367 : decode cL_law 367 = .ok (.invokevirtual 40, 3) := by decide +kernel
theorem dL_law_370 : decode cL_law 370 = .ok (.pop, 1) := by decide +kernel
theorem dL_law_371 : decode cL_law 371 = .ok (.goto 866, 3) := by decide +kernel
theorem dL_law_374 : decode cL_law 374 = .ok (.aload_n 1, 1) := by decide +kernel
theorem dL_law_375 : decode cL_law 375 = .ok (.aload_n 0, 1) := by decide +kernel
theorem dL_law_376 : decode cL_law 376 = .ok (.iload_n 3, 1) := by decide +kernel
theorem dL_law_377 : decode cL_law 377 = .ok (.iconst 1, 1) := by decide +kernel
theorem dL_law_378 : decode cL_law 378 = .ok (.iadd, 1) := by decide +kernel
theorem dL_law_379 : decode cL_law 379 = .ok (.iaload, 1) := by decide +kernel
theorem dL_law_380 : decode cL_law 380 = .ok (.invokevirtual 41, 3) := by decide +kernel
theorem dL_law_383 : decode cL_law 383 = .ok (.pop, 1) := by decide +kernel
theorem dL_law_384 : decode cL_law 384 = .ok (.aload_n 2, 1) := by decide +kernel
theorem dL_law_385 : decode cL_law 385 = .ok (.aload_n 0, 1) := by decide +kernel
theorem dL_law_386 : decode cL_law 386 = .ok (.iload_n 3, 1) := by decide +kernel
theorem dL_law_387 : decode cL_law 387 = .ok (.iconst 1, 1) := by decide +kernel
theorem dL_law_388 : decode cL_law 388 = .ok (.iadd, 1) := by decide +kernel
theorem dL_law_389 : decode cL_law 389 = .ok (.iaload, 1) := by decide +kernel
theorem dL_law_390 : decode cL_law 390 = .ok (.invokevirtual 44, 3) := by decide +kernel
theorem dL_law_393 : decode cL_law 393 = .ok (.pop, 1) := by decide +kernel
theorem dL_law_394 : decode cL_law 394 = .ok (.goto 843, 3) := by decide +kernel
theorem dL_law_397 : decode cL_law 397 = .ok (.aload_n 1, 1) := by decide +kernel
theorem dL_law_398 : decode cL_law 398 = .ok (.aload_n 0, 1) := by decide +kernel
theorem dL_law_399 : decode cL_law 399 = .ok (.iload_n 3, 1) := by decide +kernel
theorem dL_law_400 : decode cL_law 400 = .ok (.iconst 1, 1) := by decide +kernel
theorem dL_law_401 : decode cL_law 401 = .ok (.iadd, 1) := by decide +kernel
theorem dL_law_402 : decode cL_law 402 = .ok (.iaload, 1) := by decide +kernel
theorem dL_law_403 : decode cL_law 403 = .ok (.aload_n 0, 1) := by decide +kernel
theorem dL_law_404 : decode cL_law 404 = .ok (.iload_n 3, 1) := by decide +kernel
theorem dL_law_405 : decode cL_law 405 = .ok (.iconst 2, 1) := by decide +kernel
theorem dL_law_406 : decode cL_law 406 = .ok (.iadd, 1) := by decide +kernel
theorem dL_law_407 : decode cL_law 407 = .ok (.iaload, 1) := by decide +kernel
theorem dL_law_408 : decode cL_law 408 = .ok (.invokevirtual 45, 3) := by decide +kernel
theorem dL_law_411 : decode cL_law 411 = .ok (.pop, 1) := by decide +kernel
theorem dL_law_412 : decode cL_law 412 = .ok (.aload_n 2, 1) := by decide +kernel
theorem dL_law_413 : decode cL_law 413 = .ok (.aload_n 0, 1) := by decide +kernel
theorem dL_law_414 : decode cL_law 414 = .ok (.iload_n 3, 1) := by decide +kernel
theorem dL_law_415 : decode cL_law 415 = .ok (.iconst 1, 1) := by decide +kernel
theorem dL_law_416 : decode cL_law 416 = .ok (.iadd, 1) := by decide +kernel
theorem dL_law_417 : decode cL_law 417 = .ok (.iaload, 1) := by decide +kernel
theorem dL_law_418 : decode cL_law 418 = .ok (.aload_n 0, 1) := by decide +kernel
theorem dL_law_419 : decode cL_law 419 = .ok (.iload_n 3, 1) := by decide +kernel
theorem dL_law_420 : decode cL_law 420 = .ok (.iconst 2, 1) := by decide +kernel
theorem dL_law_421 : decode cL_law 421 = .ok (.iadd, 1) := by decide +kernel
theorem dL_law_422 : decode cL_law 422 = .ok (.iaload, 1) := by decide +kernel
theorem dL_law_423 : decode cL_law 423 = .ok (.invokevirtual 48, 3) := by decide +kernel
theorem dL_law_426 : decode cL_law 426 = .ok (.pop, 1) := by decide +kernel
theorem dL_law_427 : decode cL_law 427 = .ok (.goto 810, 3) := by decide +kernel
theorem dL_law_430 : decode cL_law 430 = .ok (.aload_n 1, 1) := by decide +kernel
theorem dL_law_431 : decode cL_law 431 = .ok (.aload_n 0, 1) := by decide +kernel
theorem dL_law_432 : decode cL_law 432 = .ok (.iload_n 3, 1) := by decide +kernel
theorem dL_law_433 : decode cL_law 433 = .ok (.iconst 1, 1) := by decide +kernel
theorem dL_law_434 : decode cL_law 434 = .ok (.iadd, 1) := by decide +kernel
theorem dL_law_435 : decode cL_law 435 = .ok (.iaload, 1) := by decide +kernel
theorem dL_law_436 : decode cL_law 436 = .ok (.invokevirtual 49, 3) := by decide +kernel
theorem dL_law_439 : decode cL_law 439 = .ok (.pop, 1) := by decide +kernel
theorem dL_law_440 : decode cL_law 440 = .ok (.aload_n 2, 1) := by decide +kernel
theorem dL_law_441 : decode cL_law 441 = .ok (.aload_n 0, 1) := by decide +kernel
theorem dL_law_442 : decode cL_law 442 = .ok (.iload_n 3, 1) := by decide +kernel
theorem dL_law_443 : decode cL_law 443 = .ok (.iconst 1, 1) := by decide +kernel
theorem dL_law_444 : decode cL_law 444 = .ok (.iadd, 1) := by decide +kernel
theorem dL_law_445 : decode cL_law 445 = .ok (.iaload, 1) := by decide +kernel
theorem dL_law_446 : decode cL_law 446 = .ok (.invokevirtual 52, 3) := by decide +kernel
theorem dL_law_449 : decode cL_law 449 = .ok (.pop, 1) := by decide +kernel
theorem dL_law_450 : decode cL_law 450 = .ok (.goto 787, 3) := by decide +kernel
theorem dL_law_453 : decode cL_law 453 = .ok (.aload_n 1, 1) := by decide +kernel
theorem dL_law_454 : decode cL_law 454 = .ok (.aload_n 0, 1) := by decide +kernel
theorem dL_law_455 : decode cL_law 455 = .ok (.iload_n 3, 1) := by decide +kernel
theorem dL_law_456 : decode cL_law 456 = .ok (.iconst 1, 1) := by decide +kernel
theorem dL_law_457 : decode cL_law 457 = .ok (.iadd, 1) := by decide +kernel
theorem dL_law_458 : decode cL_law 458 = .ok (.iaload, 1) := by decide +kernel
theorem dL_law_459 : decode cL_law 459 = .ok (.aload_n 0, 1) := by decide +kernel
theorem dL_law_460 : decode cL_law 460 = .ok (.iload_n 3, 1) := by decide +kernel
theorem dL_law_461 : decode cL_law 461 = .ok (.iconst 2, 1) := by decide +kernel
theorem dL_law_462 : decode cL_law 462 = .ok (.iadd, 1) := by decide +kernel
theorem dL_law_463 : decode cL_law 463 = .ok (.iaload, 1) := by decide +kernel
theorem dL_law_464 : decode cL_law 464 = .ok (.invokevirtual 53, 3) := by decide +kernel
theorem dL_law_467 : decode cL_law 467 = .ok (.pop, 1) := by decide +kernel
theorem dL_law_468 : decode cL_law 468 = .ok (.aload_n 2, 1) := by decide +kernel
theorem dL_law_469 : decode cL_law 469 = .ok (.aload_n 0, 1) := by decide +kernel
theorem dL_law_470 : decode cL_law 470 = .ok (.iload_n 3, 1) := by decide +kernel
theorem dL_law_471 : decode cL_law 471 = .ok (.iconst 1, 1) := by decide +kernel
theorem dL_law_472 : decode cL_law 472 = .ok (.iadd, 1) := by decide +kernel
theorem dL_law_473 : decode cL_law 473 = .ok (.iaload, 1) := by decide +kernel
theorem dL_law_474 : decode cL_law 474 = .ok (.aload_n 0, 1) := by decide +kernel
theorem dL_law_475 : decode cL_law 475 = .ok (.iload_n 3, 1) := by decide +kernel
theorem dL_law_476 : decode cL_law 476 = .ok (.iconst 2, 1) := by decide +kernel
theorem dL_law_477 : decode cL_law 477 = .ok (.iadd, 1) := by decide +kernel
theorem dL_law_478 : decode cL_law 478 = .ok (.iaload, 1) := by decide +kernel
theorem dL_law_479 : decode cL_law 479 = .ok (.invokevirtual 57, 3) := by decide +kernel
theorem dL_law_482 : decode cL_law 482 = .ok (.pop, 1) := by decide +kernel
theorem dL_law_483 : decode cL_law 483 = .ok (.goto 754, 3) := by decide +kernel
theorem dL_law_486 : decode cL_law 486 = .ok (.aload_n 1, 1) := by decide +kernel
theorem dL_law_487 : decode cL_law 487 = .ok (.aload_n 0, 1) := by decide +kernel
theorem dL_law_488 : decode cL_law 488 = .ok (.iload_n 3, 1) := by decide +kernel
theorem dL_law_489 : decode cL_law 489 = .ok (.iconst 1, 1) := by decide +kernel
theorem dL_law_490 : decode cL_law 490 = .ok (.iadd, 1) := by decide +kernel
theorem dL_law_491 : decode cL_law 491 = .ok (.iaload, 1) := by decide +kernel
theorem dL_law_492 : decode cL_law 492 = .ok (.invokevirtual 58, 3) := by decide +kernel
theorem dL_law_495 : decode cL_law 495 = .ok (.pop, 1) := by decide +kernel
theorem dL_law_496 : decode cL_law 496 = .ok (.aload_n 2, 1) := by decide +kernel
theorem dL_law_497 : decode cL_law 497 = .ok (.aload_n 0, 1) := by decide +kernel
theorem dL_law_498 : decode cL_law 498 = .ok (.iload_n 3, 1) := by decide +kernel
theorem dL_law_499 : decode cL_law 499 = .ok (.iconst 1, 1) := by decide +kernel
theorem dL_law_500 : decode cL_law 500 = .ok (.iadd, 1) := by decide +kernel
theorem dL_law_501 : decode cL_law 501 = .ok (.iaload, 1) := by decide +kernel
theorem dL_law_502 : decode cL_law 502 = .ok (.invokevirtual 61, 3) := by decide +kernel
theorem dL_law_505 : decode cL_law 505 = .ok (.pop, 1) := by decide +kernel
theorem dL_law_506 : decode cL_law 506 = .ok (.goto 731, 3) := by decide +kernel
theorem dL_law_509 : decode cL_law 509 = .ok (.aload_n 1, 1) := by decide +kernel
theorem dL_law_510 : decode cL_law 510 = .ok (.aload_n 0, 1) := by decide +kernel
theorem dL_law_511 : decode cL_law 511 = .ok (.iload_n 3, 1) := by decide +kernel
theorem dL_law_512 : decode cL_law 512 = .ok (.iconst 1, 1) := by decide +kernel
theorem dL_law_513 : decode cL_law 513 = .ok (.iadd, 1) := by decide +kernel
theorem dL_law_514 : decode cL_law 514 = .ok (.iaload, 1) := by decide +kernel
theorem dL_law_515 : decode cL_law 515 = .ok (.invokevirtual 62, 3) := by decide +kernel
theorem dL_law_518 : decode cL_law 518 = .ok (.pop, 1) := by decide +kernel
theorem dL_law_519 : decode cL_law 519 = .ok (.aload_n 2, 1) := by decide +kernel
theorem dL_law_520 : decode cL_law 520 = .ok (.aload_n 0, 1) := by decide +kernel
theorem dL_law_521 : decode cL_law 521 = .ok (.iload_n 3, 1) := by decide +kernel
theorem dL_law_522 : decode cL_law 522 = .ok (.iconst 1, 1) := by decide +kernel
theorem dL_law_523 : decode cL_law 523 = .ok (.iadd, 1) := by decide +kernel
theorem dL_law_524 : decode cL_law 524 = .ok (.iaload, 1) := by decide +kernel
theorem dL_law_525 : decode cL_law 525 = .ok (.invokevirtual 66, 3) := by decide +kernel
theorem dL_law_528 : decode cL_law 528 = .ok (.pop, 1) := by decide +kernel
theorem dL_law_529 : decode cL_law 529 = .ok (.goto 708, 3) := by decide +kernel
theorem dL_law_532 : decode cL_law 532 = .ok (.aload_n 1, 1) := by decide +kernel
theorem dL_law_533 : decode cL_law 533 = .ok (.aload_n 0, 1) := by decide +kernel
theorem dL_law_534 : decode cL_law 534 = .ok (.iload_n 3, 1) := by decide +kernel
theorem dL_law_535 : decode cL_law 535 = .ok (.iconst 1, 1) := by decide +kernel
theorem dL_law_536 : decode cL_law 536 = .ok (.iadd, 1) := by decide +kernel
theorem dL_law_537 : decode cL_law 537 = .ok (.iaload, 1) := by decide +kernel
theorem dL_law_538 : decode cL_law 538 = .ok (.aload_n 0, 1) := by decide +kernel
theorem dL_law_539 : decode cL_law 539 = .ok (.iload_n 3, 1) := by decide +kernel
theorem dL_law_540 : decode cL_law 540 = .ok (.iconst 2, 1) := by decide +kernel
theorem dL_law_541 : decode cL_law 541 = .ok (.iadd, 1) := by decide +kernel
theorem dL_law_542 : decode cL_law 542 = .ok (.iaload, 1) := by decide +kernel
theorem dL_law_543 : decode cL_law 543 = .ok (.invokevirtual 67, 3) := by decide +kernel
theorem dL_law_546 : decode cL_law 546 = .ok (.pop, 1) := by decide +kernel
theorem dL_law_547 : decode cL_law 547 = .ok (.aload_n 2, 1) := by decide +kernel
theorem dL_law_548 : decode cL_law 548 = .ok (.aload_n 0, 1) := by decide +kernel
theorem dL_law_549 : decode cL_law 549 = .ok (.iload_n 3, 1) := by decide +kernel
theorem dL_law_550 : decode cL_law 550 = .ok (.iconst 1, 1) := by decide +kernel
theorem dL_law_551 : decode cL_law 551 = .ok (.iadd, 1) := by decide +kernel
theorem dL_law_552 : decode cL_law 552 = .ok (.iaload, 1) := by decide +kernel
theorem dL_law_553 : decode cL_law 553 = .ok (.aload_n 0, 1) := by decide +kernel
theorem dL_law_554 : decode cL_law 554 = .ok (.iload_n 3, 1) := by decide +kernel
theorem dL_law_555 : decode cL_law 555 = .ok (.iconst 2, 1) := by decide +kernel
theorem dL_law_556 : decode cL_law 556 = .ok (.iadd, 1) := by decide +kernel
theorem dL_law_557 : decode cL_law 557 = .ok (.iaload, 1) := by decide +kernel
theorem dL_law_558 : decode cL_law 558 = .ok (.invokevirtual 70, 3) := by decide +kernel
theorem dL_law_561 : decode cL_law 561 = .ok (.pop, 1) := by decide +kernel
theorem dL_law_562 : decode cL_law 562 = .ok (.goto 675, 3) := by decide +kernel
theorem dL_law_565 : decode cL_law 565 = .ok (.aload_n 1, 1) := by decide +kernel
theorem dL_law_566 : decode cL_law 566 = .ok (.aload_n 0, 1) := by decide +kernel
theorem dL_law_567 : decode cL_law 567 = .ok (.iload_n 3, 1) := by decide +kernel
theorem dL_law_568 : decode cL_law 568 = .ok (.iconst 1, 1) := by decide +kernel
theorem dL_law_569 : decode cL_law 569 = .ok (.iadd, 1) := by decide +kernel
theorem dL_law_570 : decode cL_law 570 = .ok (.iaload, 1) := by decide +kernel
theorem dL_law_571 : decode cL_law 571 = .ok (.invokevirtual 71, 3) := by decide +kernel
theorem dL_law_574 : decode cL_law 574 = .ok (.pop, 1) := by decide +kernel
theorem dL_law_575 : decode cL_law 575 = .ok (.aload_n 2, 1) := by decide +kernel
theorem dL_law_576 : decode cL_law 576 = .ok (.aload_n 0, 1) := by decide +kernel
theorem dL_law_577 : decode cL_law 577 = .ok (.iload_n 3, 1) := by decide +kernel
theorem dL_law_578 : decode cL_law 578 = .ok (.iconst 1, 1) := by decide +kernel
theorem dL_law_579 : decode cL_law 579 = .ok (.iadd, 1) := by decide +kernel
theorem dL_law_580 : decode cL_law 580 = .ok (.iaload, 1) := by decide +kernel
theorem dL_law_581 : decode cL_law 581 = .ok (.invokevirtual 74, 3) := by decide +kernel
theorem dL_law_584 : decode cL_law 584 = .ok (.pop, 1) := by decide +kernel
theorem dL_law_585 : decode cL_law 585 = .ok (.goto 652, 3) := by decide +kernel
theorem dL_law_588 : decode cL_law 588 = .ok (.aload_n 1, 1) := by decide +kernel
theorem dL_law_589 : decode cL_law 589 = .ok (.aload_n 0, 1) := by decide +kernel
theorem dL_law_590 : decode cL_law 590 = .ok (.iload_n 3, 1) := by decide +kernel
theorem dL_law_591 : decode cL_law 591 = .ok (.iconst 1, 1) := by decide +kernel
theorem dL_law_592 : decode cL_law 592 = .ok (.iadd, 1) := by decide +kernel
theorem dL_law_593 : decode cL_law 593 = .ok (.iaload, 1) := by decide +kernel
theorem dL_law_594 : decode cL_law 594 = .ok (.aload_n 0, 1) := by decide +kernel
theorem dL_law_595 : decode cL_law 595 = .ok (.iload_n 3, 1) := by decide +kernel
theorem dL_law_596 : decode cL_law 596 = .ok (.iconst 2, 1) := by decide +kernel
theorem dL_law_597 : decode cL_law 597 = .ok (.iadd, 1) := by decide +kernel
theorem dL_law_598 : decode cL_law 598 = .ok (.iaload, 1) := by decide +kernel
theorem dL_law_599 : decode cL_law 599 = .ok (.invokevirtual 75, 3) := by decide +kernel
theorem dL_law_602 : decode cL_law 602 = .ok (.pop, 1) := by decide +kernel
theorem dL_law_603 : decode cL_law 603 = .ok (.aload_n 2, 1) := by decide +kernel
theorem dL_law_604 : decode cL_law 604 = .ok (.aload_n 0, 1) := by decide +kernel
theorem dL_law_605 : decode cL_law 605 = .ok (.iload_n 3, 1) := by decide +kernel
theorem dL_law_606 : decode cL_law 606 = .ok (.iconst 1, 1) := by decide +kernel
theorem dL_law_607 : decode cL_law 607 = .ok (.iadd, 1) := by decide +kernel
theorem dL_law_608 : decode cL_law 608 = .ok (.iaload, 1) := by decide +kernel
theorem dL_law_609 : decode cL_law 609 = .ok (.aload_n 0, 1) := by decide +kernel
theorem dL_law_610 : decode cL_law 610 = .ok (.iload_n 3, 1) := by decide +kernel
theorem dL_law_611 : decode cL_law 611 = .ok (.iconst 2, 1) := by decide +kernel
theorem dL_law_612 : decode cL_law 612 = .ok (.iadd, 1) := by decide +kernel
theorem dL_law_613 : decode cL_law 613 = .ok (.iaload, 1) := by decide +kernel
theorem dL_law_614 : decode cL_law 614 = .ok (.invokevirtual 78, 3) := by decide +kernel
theorem dL_law_617 : decode cL_law 617 = .ok (.pop, 1) := by decide +kernel
theorem dL_law_618 : decode cL_law 618 = .ok (.goto 619, 3) := by decide +kernel
theorem dL_law_621 : decode cL_law 621 = .ok (.aload_n 1, 1) := by decide +kernel
theorem dL_law_622 : decode cL_law 622 = .ok (.aload_n 0, 1) := by decide +kernel
theorem dL_law_623 : decode cL_law 623 = .ok (.iload_n 3, 1) := by decide +kernel
theorem dL_law_624 : decode cL_law 624 = .ok (.iconst 1, 1) := by decide +kernel
theorem dL_law_625 : decode cL_law 625 = .ok (.iadd, 1) := by decide +kernel
theorem dL_law_626 : decode cL_law 626 = .ok (.iaload, 1) := by decide +kernel
theorem dL_law_627 : decode cL_law 627 = .ok (.invokevirtual 79, 3) := by decide +kernel
theorem dL_law_630 : decode cL_law 630 = .ok (.pop, 1) := by decide +kernel
theorem dL_law_631 : decode cL_law 631 = .ok (.aload_n 2, 1) := by decide +kernel
theorem dL_law_632 : decode cL_law 632 = .ok (.aload_n 0, 1) := by decide +kernel
theorem dL_law_633 : decode cL_law 633 = .ok (.iload_n 3, 1) := by decide +kernel
theorem dL_law_634 : decode cL_law 634 = .ok (.iconst 1, 1) := by decide +kernel
theorem dL_law_635 : decode cL_law 635 = .ok (.iadd, 1) := by decide +kernel
theorem dL_law_636 : decode cL_law 636 = .ok (.iaload, 1) := by decide +kernel
theorem dL_law_637 : decode cL_law 637 = .ok (.invokevirtual 82, 3) := by decide +kernel
theorem dL_law_640 : decode cL_law 640 = .ok (.pop, 1) := by decide +kernel
theorem dL_law_641 : decode cL_law 641 = .ok (.goto 596, 3) := by decide +kernel
theorem dL_law_644 : decode cL_law 644 = .ok (.aload_n 1, 1) := by decide +kernel
theorem dL_law_645 : decode cL_law 645 = .ok (.invokevirtual 83, 3) := by decide +kernel
theorem dL_law_648 : decode cL_law 648 = .ok (.pop, 1) := by decide +kernel
theorem dL_law_649 : decode cL_law 649 = .ok (.aload_n 2, 1) := by decide +kernel
theorem dL_law_650 : decode cL_law 650 = .ok (.invokevirtual 86, 3) := by decide +kernel
theorem dL_law_653 : decode cL_law 653 = .ok (.pop, 1) := by decide +kernel
theorem dL_law_654 : decode cL_law 654 = .ok (.goto 583, 3) := by decide +kernel
theorem dL_law_657 : decode cL_law 657 = .ok (.aload_n 1, 1) := by decide +kernel
theorem dL_law_658 : decode cL_law 658 = .ok (.aload_n 0, 1) := by decide +kernel
theorem dL_law_659 : decode cL_law 659 = .ok (.iload_n 3, 1) := by decide +kernel
theorem dL_law_660 : decode cL_law 660 = .ok (.iconst 1, 1) := by decide +kernel
theorem dL_law_661 : decode cL_law 661 = .ok (.iadd, 1) := by decide +kernel
theorem dL_law_662 : decode cL_law 662 = .ok (.iaload, 1) := by decide +kernel
theorem dL_law_663 : decode cL_law 663 = .ok (.invokevirtual 87, 3) := by decide +kernel
theorem dL_law_666 : decode cL_law 666 = .ok (.pop, 1) := by decide +kernel
theorem dL_law_667 : decode cL_law 667 = .ok (.aload_n 2, 1) := by decide +kernel
theorem dL_law_668 : decode cL_law 668 = .ok (.aload_n 0, 1) := by decide +kernel
theorem dL_law_669 : decode cL_law 669 = .ok (.iload_n 3, 1) := by decide +kernel
theorem dL_law_670 : decode cL_law 670 = .ok (.iconst 1, 1) := by decide +kernel
theorem dL_law_671 : decode cL_law 671 = .ok (.iadd, 1) := by decide +kernel
theorem dL_law_672 : decode cL_law 672 = .ok (.iaload, 1) := by decide +kernel
theorem dL_law_673 : decode cL_law 673 = .ok (.invokevirtual 90, 3) := by decide +kernel
theorem dL_law_676 : decode cL_law 676 = .ok (.pop, 1) := by decide +kernel
theorem dL_law_677 : decode cL_law 677 = .ok (.goto 560, 3) := by decide +kernel
theorem dL_law_680 : decode cL_law 680 = .ok (.aload_n 1, 1) := by decide +kernel
theorem dL_law_681 : decode cL_law 681 = .ok (.aload_n 0, 1) := by decide +kernel
theorem dL_law_682 : decode cL_law 682 = .ok (.iload_n 3, 1) := by decide +kernel
theorem dL_law_683 : decode cL_law 683 = .ok (.iconst 1, 1) := by decide +kernel
theorem dL_law_684 : decode cL_law 684 = .ok (.iadd, 1) := by decide +kernel
theorem dL_law_685 : decode cL_law 685 = .ok (.iaload, 1) := by decide +kernel
theorem dL_law_686 : decode cL_law 686 = .ok (.aload_n 0, 1) := by decide +kernel
theorem dL_law_687 : decode cL_law 687 = .ok (.iload_n 3, 1) := by decide +kernel
theorem dL_law_688 : decode cL_law 688 = .ok (.iconst 2, 1) := by decide +kernel
theorem dL_law_689 : decode cL_law 689 = .ok (.iadd, 1) := by decide +kernel
theorem dL_law_690 : decode cL_law 690 = .ok (.iaload, 1) := by decide +kernel
theorem dL_law_691 : decode cL_law 691 = .ok (.invokevirtual 91, 3) := by decide +kernel
theorem dL_law_694 : decode cL_law 694 = .ok (.pop, 1) := by decide +kernel
theorem dL_law_695 : decode cL_law 695 = .ok (.aload_n 2, 1) := by decide +kernel
theorem dL_law_696 : decode cL_law 696 = .ok (.aload_n 0, 1) := by decide +kernel
theorem dL_law_697 : decode cL_law 697 = .ok (.iload_n 3, 1) := by decide +kernel
theorem dL_law_698 : decode cL_law 698 = .ok (.iconst 1, 1) := by decide +kernel
theorem dL_law_699 : decode cL_law 699 = .ok (.iadd, 1) := by decide +kernel
theorem dL_law_700 : decode cL_law 700 = .ok (.iaload, 1) := by decide +kernel
theorem dL_law_701 : decode cL_law 701 = .ok (.aload_n 0, 1) := by decide +kernel
theorem dL_law_702 : decode cL_law 702 = .ok (.iload_n 3, 1) := by decide +kernel
theorem dL_law_703 : decode cL_law 703 = .ok (.iconst 2, 1) := by decide +kernel
theorem dL_law_704 : decode cL_law 704 = .ok (.iadd, 1) := by decide +kernel
theorem dL_law_705 : decode cL_law 705 = .ok (.iaload, 1) := by decide +kernel
theorem dL_law_706 : decode cL_law 706 = .ok (.invokevirtual 94, 3) := by decide +kernel
theorem dL_law_709 : decode cL_law 709 = .ok (.pop, 1) := by decide +kernel
theorem dL_law_710 : decode cL_law 710 = .ok (.goto 527, 3) := by decide +kernel
theorem dL_law_713 : decode cL_law 713 = .ok (.aload_n 1, 1) := by decide +kernel
theorem dL_law_714 : decode cL_law 714 = .ok (.aload_n 0, 1) := by decide +kernel
theorem dL_law_715 : decode cL_law 715 = .ok (.iload_n 3, 1) := by decide +kernel
theorem dL_law_716 : decode cL_law 716 = .ok (.iconst 1, 1) := by decide +kernel
theorem dL_law_717 : decode cL_law 717 = .ok (.iadd, 1) := by decide +kernel
theorem dL_law_718 : decode cL_law 718 = .ok (.iaload, 1) := by decide +kernel
theorem dL_law_719 : decode cL_law 719 = .ok (.aload_n 0, 1) := by decide +kernel
theorem dL_law_720 : decode cL_law 720 = .ok (.iload_n 3, 1) := by decide +kernel
theorem dL_law_721 : decode cL_law 721 = .ok (.iconst 2, 1) := by decide +kernel
theorem dL_law_722 : decode cL_law 722 = .ok (.iadd, 1) := by decide +kernel
theorem dL_law_723 : decode cL_law 723 = .ok (.iaload, 1) := by decide +kernel
theorem dL_law_724 : decode cL_law 724 = .ok (.invokevirtual 95, 3) := by decide +kernel
theorem dL_law_727 : decode cL_law 727 = .ok (.pop, 1) := by decide +kernel
theorem dL_law_728 : decode cL_law 728 = .ok (.aload_n 2, 1) := by decide +kernel
theorem dL_law_729 : decode cL_law 729 = .ok (.aload_n 0, 1) := by decide +kernel
theorem dL_law_730 : decode cL_law 730 = .ok (.iload_n 3, 1) := by decide +kernel
theorem dL_law_731 : decode cL_law 731 = .ok (.iconst 1, 1) := by decide +kernel
theorem dL_law_732 : decode cL_law 732 = .ok (.iadd, 1) := by decide +kernel
theorem dL_law_733 : decode cL_law 733 = .ok (.iaload, 1) := by decide +kernel
theorem dL_law_734 : decode cL_law 734 = .ok (.aload_n 0, 1) := by decide +kernel
theorem dL_law_735 : decode cL_law 735 = .ok (.iload_n 3, 1) := by decide +kernel
theorem dL_law_736 : decode cL_law 736 = .ok (.iconst 2, 1) := by decide +kernel
theorem dL_law_737 : decode cL_law 737 = .ok (.iadd, 1) := by decide +kernel
theorem dL_law_738 : decode cL_law 738 = .ok (.iaload, 1) := by decide +kernel
theorem dL_law_739 : decode cL_law 739 = .ok (.invokevirtual 98, 3) := by decide +kernel
theorem dL_law_742 : decode cL_law 742 = .ok (.pop, 1) := by decide +kernel
theorem dL_law_743 : decode cL_law 743 = .ok (.goto 494, 3) := by decide +kernel
theorem dL_law_746 : decode cL_law 746 = .ok (.aload_n 1, 1) := by decide +kernel
theorem dL_law_747 : decode cL_law 747 = .ok (.aload_n 0, 1) := by decide +kernel
theorem dL_law_748 : decode cL_law 748 = .ok (.iload_n 3, 1) := by decide +kernel
theorem dL_law_749 : decode cL_law 749 = .ok (.iconst 1, 1) := by decide +kernel
theorem dL_law_750 : decode cL_law 750 = .ok (.iadd, 1) := by decide +kernel
theorem dL_law_751 : decode cL_law 751 = .ok (.iaload, 1) := by decide +kernel
theorem dL_law_752 : decode cL_law 752 = .ok (.aload_n 0, 1) := by decide +kernel
theorem dL_law_753 : decode cL_law 753 = .ok (.iload_n 3, 1) := by decide +kernel
theorem dL_law_754 : decode cL_law 754 = .ok (.iconst 2, 1) := by decide +kernel
theorem dL_law_755 : decode cL_law 755 = .ok (.iadd, 1) := by decide +kernel
theorem dL_law_756 : decode cL_law 756 = .ok (.iaload, 1) := by decide +kernel
theorem dL_law_757 : decode cL_law 757 = .ok (.aload_n 0, 1) := by decide +kernel
theorem dL_law_758 : decode cL_law 758 = .ok (.iload_n 3, 1) := by decide +kernel
theorem dL_law_759 : decode cL_law 759 = .ok (.iconst 3, 1) := by decide +kernel
theorem dL_law_760 : decode cL_law 760 = .ok (.iadd, 1) := by decide +kernel
theorem dL_law_761 : decode cL_law 761 = .ok (.iaload, 1) := by decide +kernel
theorem dL_law_762 : decode cL_law 762 = .ok (.invokevirtual 99, 3) := by decide +kernel
theorem dL_law_765 : decode cL_law 765 = .ok (.pop, 1) := by decide +kernel
theorem dL_law_766 : decode cL_law 766 = .ok (.aload_n 2, 1) := by decide +kernel
theorem dL_law_767 : decode cL_law 767 = .ok (.aload_n 0, 1) := by decide +kernel
theorem dL_law_768 : decode cL_law 768 = .ok (.iload_n 3, 1) := by decide +kernel
theorem dL_law_769 : decode cL_law 769 = .ok (.iconst 1, 1) := by decide +kernel
theorem dL_law_770 : decode cL_law 770 = .ok (.iadd, 1) := by decide +kernel
theorem dL_law_771 : decode cL_law 771 = .ok (.iaload, 1) := by decide +kernel
theorem dL_law_772 : decode cL_law 772 = .ok (.aload_n 0, 1) := by decide +kernel
theorem dL_law_773 : decode cL_law 773 = .ok (.iload_n 3, 1) := by decide +kernel
theorem dL_law_774 : decode cL_law 774 = .ok (.iconst 2, 1) := by decide +kernel
theorem dL_law_775 : decode cL_law 775 = .ok (.iadd, 1) := by decide +kernel
theorem dL_law_776 : decode cL_law 776 = .ok (.iaload, 1) := by decide +kernel
theorem dL_law_777 : decode cL_law 777 = .ok (.aload_n 0, 1) := by decide +kernel
theorem dL_law_778 : decode cL_law 778 = .ok (.iload_n 3, 1) := by decide +kernel
theorem dL_law_779 : decode cL_law 779 = .ok (.iconst 3, 1) := by decide +kernel
theorem dL_law_780 : decode cL_law 780 = .ok (.iadd, 1) := by decide +kernel
theorem dL_law_781 : decode cL_law 781 = .ok (.iaload, 1) := by decide +kernel
theorem dL_law_782 : decode cL_law 782 = .ok (.invokevirtual 103, 3) := by decide +kernel
theorem dL_law_785 : decode cL_law 785 = .ok (.pop, 1) := by decide +kernel
theorem dL_law_786 : decode cL_law 786 = .ok (.goto 451, 3) := by decide +kernel
theorem dL_law_789 : decode cL_law 789 = .ok (.aload_n 1, 1) := by decide +kernel
theorem dL_law_790 : decode cL_law 790 = .ok (.aload_n 0, 1) := by decide +kernel
theorem dL_law_791 : decode cL_law 791 = .ok (.iload_n 3, 1) := by decide +kernel
theorem dL_law_792 : decode cL_law 792 = .ok (.iconst 1, 1) := by decide +kernel
theorem dL_law_793 : decode cL_law 793 = .ok (.iadd, 1) := by decide +kernel
theorem dL_law_794 : decode cL_law 794 = .ok (.iaload, 1) := by decide +kernel
theorem dL_law_795 : decode cL_law 795 = .ok (.invokevirtual 104, 3) := by decide +kernel
theorem dL_law_798 : decode cL_law 798 = .ok (.pop, 1) := by decide +kernel
theorem dL_law_799 : decode cL_law 799 = .ok (.aload_n 2, 1) := by decide +kernel
theorem dL_law_800 : decode cL_law 800 = .ok (.aload_n 0, 1) := by decide +kernel
theorem dL_law_801 : decode cL_law 801 = .ok (.iload_n 3, 1) := by decide +kernel
theorem dL_law_802 : decode cL_law 802 = .ok (.iconst 1, 1) := by decide +kernel
theorem dL_law_803 : decode cL_law 803 = .ok (.iadd, 1) := by decide +kernel
theorem dL_law_804 : decode cL_law 804 = .ok (.iaload, 1) := by decide +kernel
theorem dL_law_805 : decode cL_law 805 = .ok (.invokevirtual 107, 3) := by decide +kernel
theorem dL_law_808 : decode cL_law 808 = .ok (.pop, 1) := by decide +kernel
theorem dL_law_809 : decode cL_law 809 = .ok (.goto 428, 3) := by decide +kernel
theorem dL_law_812 : decode cL_law 812 = .ok (.aload_n 1, 1) := by decide +kernel
theorem dL_law_813 : decode cL_law 813 = .ok (.invokevirtual 108, 3) := by decide +kernel
theorem dL_law_816 : decode cL_law 816 = .ok (.pop, 1) := by decide +kernel
theorem dL_law_817 : decode cL_law 817 = .ok (.aload_n 2, 1) := by decide +kernel
theorem dL_law_818 : decode cL_law 818 = .ok (.invokevirtual 111, 3) := by decide +kernel
theorem dL_law_821 : decode cL_law 821 = .ok (.pop, 1) := by decide +kernel
theorem dL_law_822 : decode cL_law 822 = .ok (.goto 415, 3) := by decide +kernel
theorem dL_law_825 : decode cL_law 825 = .ok (.aload_n 1, 1) := by decide +kernel
theorem dL_law_826 : decode cL_law 826 = .ok (.aload_n 0, 1) := by decide +kernel
theorem dL_law_827 : decode cL_law 827 = .ok (.iload_n 3, 1) := by decide +kernel
theorem dL_law_828 : decode cL_law 828 = .ok (.iconst 1, 1) := by decide +kernel
theorem dL_law_829 : decode cL_law 829 = .ok (.iadd, 1) := by decide +kernel
theorem dL_law_830 : decode cL_law 830 = .ok (.iaload, 1) := by decide +kernel
