theorem dX12_behindUnit_87 : decode cX12_behindUnit 87 = .ok (.aload_n 0, 1) := by decide +kernel
theorem dX12_behindUnit_88 : decode cX12_behindUnit 88 = .ok (.aload_n 0, 1) := by decide +kernel
theorem dX12_behindUnit_89 : decode cX12_behindUnit 89 = .ok (.getfield 131, 3) := by decide +kernel
theorem dX12_behindUnit_92 : decode cX12_behindUnit 92 = .ok (.aload_n 0, 1) := by decide +kernel
theorem dX12_behindUnit_93 : decode cX12_behindUnit 93 = .ok (.getfield 450, 3) := by decide +kernel
theorem dX12_behindUnit_96 : decode cX12_behindUnit 96 = .ok (.iaload, 1) := by decide +kernel
theorem dX12_behindUnit_97 : decode cX12_behindUnit 97 = .ok (.iconst 0, 1) := by decide +kernel
theorem dX12_behindUnit_98 : decode cX12_behindUnit 98 = .ok (.invokevirtual 468, 3) := by decide +kernel
theorem dX12_behindUnit_101 : decode cX12_behindUnit 101 = .ok (.goto (-78), 3) := by decide +kernel
theorem dX12_behindUnit_104 : decode cX12_behindUnit 104 = .ok (.iload_n 1, 1) := by decide +kernel
theorem dX12_behindUnit_105 : decode cX12_behindUnit 105 = .ok (.ifCond .le 42, 3) := by decide +kernel
theorem dX12_behindUnit_108 : decode cX12_behindUnit 108 = .ok (.aload_n 0, 1) := by decide +kernel
theorem dX12_behindUnit_109 : decode cX12_behindUnit 109 = .ok (.iload_n 1, 1) := by decide +kernel
theorem dX12_behindUnit_110 : decode cX12_behindUnit 110 = .ok (.iload_n 1, 1) := by decide +kernel
theorem dX12_behindUnit_111 : decode cX12_behindUnit 111 = .ok (.iconst 2, 1) := by decide +kernel
theorem dX12_behindUnit_112 : decode cX12_behindUnit 112 = .ok (.if_icmp .ne 8, 3) := by decide +kernel
theorem dX12_behindUnit_115 : decode cX12_behindUnit 115 = .ok (.bipush 38, 2) := by decide +kernel
theorem dX12_behindUnit_117 : decode cX12_behindUnit 117 = .ok (.goto 21, 3) := by decide +kernel
theorem dX12_behindUnit_120 : decode cX12_behindUnit 120 = .ok (.iload_n 1, 1) := by decide +kernel
theorem dX12_behindUnit_121 : decode cX12_behindUnit 121 = .ok (.iconst 1, 1) := by decide +kernel
theorem dX12_behindUnit_122 : decode cX12_behindUnit 122 = .ok (.if_icmp .ne 8, 3) := by decide +kernel
theorem dX12_behindUnit_125 : decode cX12_behindUnit 125 = .ok (.bipush 124, 2) := by decide +kernel
theorem dX12_behindUnit_127 : decode cX12_behindUnit 127 = .ok (.goto 11, 3) := by decide +kernel
theorem dX12_behindUnit_130 : decode cX12_behindUnit 130 = .ok (.aload_n 0, 1) := by decide +kernel
theorem dX12_behindUnit_131 : decode cX12_behindUnit 131 = .ok (.aload_n 0, 1) := by decide +kernel
theorem dX12_behindUnit_132 : decode cX12_behindUnit 132 = .ok (.getfield 329, 3) := by decide +kernel
theorem dX12_behindUnit_135 : decode cX12_behindUnit 135 = .ok (.invokevirtual 332, 3) := by decide +kernel
theorem dX12_behindUnit_138 : decode cX12_behindUnit 138 = .ok (.invokevirtual 456, 3) := by decide +kernel
theorem dX12_behindUnit_141 : decode cX12_behindUnit 141 = .ok (.aload_n 0, 1) := by decide +kernel
theorem dX12_behindUnit_142 : decode cX12_behindUnit 142 = .ok (.invokevirtual 368, 3) := by decide +kernel
theorem dX12_behindUnit_145 : decode cX12_behindUnit 145 = .ok (.iconst 1, 1) := by decide +kernel
theorem dX12_behindUnit_146 : decode cX12_behindUnit 146 = .ok (.ireturn, 1) := by decide +kernel
theorem dX12_behindUnit_147 : decode cX12_behindUnit 147 = .ok (.aload_n 0, 1) := by decide +kernel
theorem dX12_behindUnit_148 : decode cX12_behindUnit 148 = .ok (.dup, 1) := by decide +kernel
theorem dX12_behindUnit_149 : decode cX12_behindUnit 149 = .ok (.getfield 450, 3) := by decide +kernel
theorem dX12_behindUnit_152 : decode cX12_behindUnit 152 = .ok (.iconst 1, 1) := by decide +kernel
theorem dX12_behindUnit_153 : decode cX12_behindUnit 153 = .ok (.isub, 1) := by decide +kernel
theorem dX12_behindUnit_154 : decode cX12_behindUnit 154 = .ok (.putfield 450, 3) := by decide +kernel
theorem dX12_behindUnit_157 : decode cX12_behindUnit 157 = .ok (.aload_n 0, 1) := by decide +kernel
theorem dX12_behindUnit_158 : decode cX12_behindUnit 158 = .ok (.getfield 128, 3) := by decide +kernel
theorem dX12_behindUnit_161 : decode cX12_behindUnit 161 = .ok (.aload_n 0, 1) := by decide +kernel
theorem dX12_behindUnit_162 : decode cX12_behindUnit 162 = .ok (.getfield 450, 3) := by decide +kernel
theorem dX12_behindUnit_165 : decode cX12_behindUnit 165 = .ok (.iaload, 1) := by decide +kernel
theorem dX12_behindUnit_166 : decode cX12_behindUnit 166 = .ok (.bipush 7, 2) := by decide +kernel
theorem dX12_behindUnit_168 : decode cX12_behindUnit 168 = .ok (.if_icmp .ne 23, 3) := by decide +kernel
theorem dX12_behindUnit_171 : decode cX12_behindUnit 171 = .ok (.aload_n 0, 1) := by decide +kernel
theorem dX12_behindUnit_172 : decode cX12_behindUnit 172 = .ok (.dup, 1) := by decide +kernel
theorem dX12_behindUnit_173 : decode cX12_behindUnit 173 = .ok (.getfield 453, 3) := by decide +kernel
theorem dX12_behindUnit_176 : decode cX12_behindUnit 176 = .ok (.iconst 1, 1) := by decide +kernel
theorem dX12_behindUnit_177 : decode cX12_behindUnit 177 = .ok (.isub, 1) := by decide +kernel
theorem dX12_behindUnit_178 : decode cX12_behindUnit 178 = .ok (.putfield 453, 3) := by decide +kernel
theorem dX12_behindUnit_181 : decode cX12_behindUnit 181 = .ok (.aload_n 0, 1) := by decide +kernel
theorem dX12_behindUnit_182 : decode cX12_behindUnit 182 = .ok (.aload_n 0, 1) := by decide +kernel
theorem dX12_behindUnit_183 : decode cX12_behindUnit 183 = .ok (.bipush 41, 2) := by decide +kernel
theorem dX12_behindUnit_185 : decode cX12_behindUnit 185 = .ok (.invokevirtual 374, 3) := by decide +kernel
theorem dX12_behindUnit_188 : decode cX12_behindUnit 188 = .ok (.invokevirtual 426, 3) := by decide +kernel
theorem dX12_behindUnit_191 : decode cX12_behindUnit 191 = .ok (.iconst 0, 1) := by decide +kernel
theorem dX12_behindUnit_192 : decode cX12_behindUnit 192 = .ok (.ireturn, 1) := by decide +kernel
theorem dX12_bring_0 : decode cX12_bring 0 = .ok (.aload_n 0, 1) := by decide +kernel
theorem dX12_bring_1 : decode cX12_bring 1 = .ok (.aload_n 0, 1) := by decide +kernel
theorem dX12_bring_2 : decode cX12_bring 2 = .ok (.getfield 209, 3) := by decide +kernel
theorem dX12_bring_5 : decode cX12_bring 5 = .ok (.iload_n 1, 1) := by decide +kernel
theorem dX12_bring_6 : decode cX12_bring 6 = .ok (.iaload, 1) := by decide +kernel
theorem dX12_bring_7 : decode cX12_bring 7 = .ok (.putfield 483, 3) := by decide +kernel
theorem dX12_bring_10 : decode cX12_bring 10 = .ok (.bipush 20, 2) := by decide +kernel
theorem dX12_bring_12 : decode cX12_bring 12 = .ok (.iload_n 1, 1) := by decide +kernel
theorem dX12_bring_13 : decode cX12_bring 13 = .ok (.imul, 1) := by decide +kernel
theorem dX12_bring_14 : decode cX12_bring 14 = .ok (.istore_n 2, 1) := by decide +kernel
theorem dX12_bring_15 : decode cX12_bring 15 = .ok (.aload_n 0, 1) := by decide +kernel
theorem dX12_bring_16 : decode cX12_bring 16 = .ok (.aload_n 0, 1) := by decide +kernel
theorem dX12_bring_17 : decode cX12_bring 17 = .ok (.getfield 212, 3) := by decide +kernel
theorem dX12_bring_20 : decode cX12_bring 20 = .ok (.iload_n 2, 1) := by decide +kernel
theorem dX12_bring_21 : decode cX12_bring 21 = .ok (.iaload, 1) := by decide +kernel
theorem dX12_bring_22 : decode cX12_bring 22 = .ok (.putfield 507, 3) := by decide +kernel
theorem dX12_bring_25 : decode cX12_bring 25 = .ok (.aload_n 0, 1) := by decide +kernel
theorem dX12_bring_26 : decode cX12_bring 26 = .ok (.aload_n 0, 1) := by decide +kernel
theorem dX12_bring_27 : decode cX12_bring 27 = .ok (.getfield 212, 3) := by decide +kernel
theorem dX12_bring_30 : decode cX12_bring 30 = .ok (.iload_n 2, 1) := by decide +kernel
theorem dX12_bring_31 : decode cX12_bring 31 = .ok (.iconst 1, 1) := by decide +kernel
theorem dX12_bring_32 : decode cX12_bring 32 = .ok (.iadd, 1) := by decide +kernel
theorem dX12_bring_33 : decode cX12_bring 33 = .ok (.iaload, 1) := by decide +kernel
theorem dX12_bring_34 : decode cX12_bring 34 = .ok (.putfield 510, 3) := by decide +kernel
theorem dX12_bring_37 : decode cX12_bring 37 = .ok (.aload_n 0, 1) := by decide +kernel
theorem dX12_bring_38 : decode cX12_bring 38 = .ok (.aload_n 0, 1) := by decide +kernel
theorem dX12_bring_39 : decode cX12_bring 39 = .ok (.getfield 212, 3) := by decide +kernel
theorem dX12_bring_42 : decode cX12_bring 42 = .ok (.iload_n 2, 1) := by decide +kernel
theorem dX12_bring_43 : decode cX12_bring 43 = .ok (.iconst 2, 1) := by decide +kernel
theorem dX12_bring_44 : decode cX12_bring 44 = .ok (.iadd, 1) := by decide +kernel
theorem dX12_bring_45 : decode cX12_bring 45 = .ok (.iaload, 1) := by decide +kernel
theorem dX12_bring_46 : decode cX12_bring 46 = .ok (.putfield 513, 3) := by decide +kernel
theorem dX12_bring_49 : decode cX12_bring 49 = .ok (.aload_n 0, 1) := by decide +kernel
theorem dX12_bring_50 : decode cX12_bring 50 = .ok (.aload_n 0, 1) := by decide +kernel
theorem dX12_bring_51 : decode cX12_bring 51 = .ok (.getfield 212, 3) := by decide +kernel
theorem dX12_bring_54 : decode cX12_bring 54 = .ok (.iload_n 2, 1) := by decide +kernel
theorem dX12_bring_55 : decode cX12_bring 55 = .ok (.iconst 3, 1) := by decide +kernel
theorem dX12_bring_56 : decode cX12_bring 56 = .ok (.iadd, 1) := by decide +kernel
theorem dX12_bring_57 : decode cX12_bring 57 = .ok (.iaload, 1) := by decide +kernel
theorem dX12_bring_58 : decode cX12_bring 58 = .ok (.putfield 516, 3) := by decide +kernel
theorem dX12_bring_61 : decode cX12_bring 61 = .ok (.aload_n 0, 1) := by decide +kernel
theorem dX12_bring_62 : decode cX12_bring 62 = .ok (.aload_n 0, 1) := by decide +kernel
theorem dX12_bring_63 : decode cX12_bring 63 = .ok (.getfield 212, 3) := by decide +kernel
theorem dX12_bring_66 : decode cX12_bring 66 = .ok (.iload_n 2, 1) := by decide +kernel
theorem dX12_bring_67 : decode cX12_bring 67 = .ok (.iconst 4, 1) := by decide +kernel
theorem dX12_bring_68 : decode cX12_bring 68 = .ok (.iadd, 1) := by decide +kernel
theorem dX12_bring_69 : decode cX12_bring 69 = .ok (.iaload, 1) := by decide +kernel
theorem dX12_bring_70 : decode cX12_bring 70 = .ok (.putfield 519, 3) := by decide +kernel
theorem dX12_bring_73 : decode cX12_bring 73 = .ok (.aload_n 0, 1) := by decide +kernel
theorem dX12_bring_74 : decode cX12_bring 74 = .ok (.aload_n 0, 1) := by decide +kernel
theorem dX12_bring_75 : decode cX12_bring 75 = .ok (.getfield 212, 3) := by decide +kernel
theorem dX12_bring_78 : decode cX12_bring 78 = .ok (.iload_n 2, 1) := by decide +kernel
theorem dX12_bring_79 : decode cX12_bring 79 = .ok (.iconst 5, 1) := by decide +kernel
theorem dX12_bring_80 : decode cX12_bring 80 = .ok (.iadd, 1) := by decide +kernel
theorem dX12_bring_81 : decode cX12_bring 81 = .ok (.iaload, 1) := by decide +kernel
theorem dX12_bring_82 : decode cX12_bring 82 = .ok (.putfield 522, 3) := by decide +kernel
theorem dX12_bring_85 : decode cX12_bring 85 = .ok (.aload_n 0, 1) := by decide +kernel
theorem dX12_bring_86 : decode cX12_bring 86 = .ok (.aload_n 0, 1) := by decide +kernel
theorem dX12_bring_87 : decode cX12_bring 87 = .ok (.getfield 212, 3) := by decide +kernel
theorem dX12_bring_90 : decode cX12_bring 90 = .ok (.iload_n 2, 1) := by decide +kernel
theorem dX12_bring_91 : decode cX12_bring 91 = .ok (.bipush 6, 2) := by decide +kernel
theorem dX12_bring_93 : decode cX12_bring 93 = .ok (.iadd, 1) := by decide +kernel
theorem dX12_bring_94 : decode cX12_bring 94 = .ok (.iaload, 1) := by decide +kernel
theorem dX12_bring_95 : decode cX12_bring 95 = .ok (.putfield 525, 3) := by decide +kernel
theorem dX12_bring_98 : decode cX12_bring 98 = .ok (.aload_n 0, 1) := by decide +kernel
theorem dX12_bring_99 : decode cX12_bring 99 = .ok (.aload_n 0, 1) := by decide +kernel
theorem dX12_bring_100 : decode cX12_bring 100 = .ok (.getfield 212, 3) := by decide +kernel
theorem dX12_bring_103 : decode cX12_bring 103 = .ok (.iload_n 2, 1) := by decide +kernel
theorem dX12_bring_104 : decode cX12_bring 104 = .ok (.bipush 7, 2) := by decide +kernel
theorem dX12_bring_106 : decode cX12_bring 106 = .ok (.iadd, 1) := by decide +kernel
theorem dX12_bring_107 : decode cX12_bring 107 = .ok (.iaload, 1) := by decide +kernel
theorem dX12_bring_108 : decode cX12_bring 108 = .ok (.putfield 531, 3) := by decide +kernel
theorem dX12_bring_111 : decode cX12_bring 111 = .ok (.aload_n 0, 1) := by decide +kernel
theorem dX12_bring_112 : decode cX12_bring 112 = .ok (.aload_n 0, 1) := by decide +kernel
theorem dX12_bring_113 : decode cX12_bring 113 = .ok (.getfield 212, 3) := by decide +kernel
theorem dX12_bring_116 : decode cX12_bring 116 = .ok (.iload_n 2, 1) := by decide +kernel
theorem dX12_bring_117 : decode cX12_bring 117 = .ok (.bipush 8, 2) := by decide +kernel
theorem dX12_bring_119 : decode cX12_bring 119 = .ok (.iadd, 1) := by decide +kernel
theorem dX12_bring_120 : decode cX12_bring 120 = .ok (.iaload, 1) := by decide +kernel
theorem dX12_bring_121 : decode cX12_bring 121 = .ok (.putfield 534, 3) := by decide +kernel
theorem dX12_bring_124 : decode cX12_bring 124 = .ok (.aload_n 0, 1) := by decide +kernel
theorem dX12_bring_125 : decode cX12_bring 125 = .ok (.aload_n 0, 1) := by decide +kernel
theorem dX12_bring_126 : decode cX12_bring 126 = .ok (.getfield 212, 3) := by decide +kernel
theorem dX12_bring_129 : decode cX12_bring 129 = .ok (.iload_n 2, 1) := by decide +kernel
theorem dX12_bring_130 : decode cX12_bring 130 = .ok (.bipush 9, 2) := by decide +kernel
theorem dX12_bring_132 : decode cX12_bring 132 = .ok (.iadd, 1) := by decide +kernel
theorem dX12_bring_133 : decode cX12_bring 133 = .ok (.iaload, 1) := by decide +kernel
theorem dX12_bring_134 : decode cX12_bring 134 = .ok (.putfield 537, 3) := by decide +kernel
theorem dX12_bring_137 : decode cX12_bring 137 = .ok (.aload_n 0, 1) := by decide +kernel
theorem dX12_bring_138 : decode cX12_bring 138 = .ok (.aload_n 0, 1) := by decide +kernel
theorem dX12_bring_139 : decode cX12_bring 139 = .ok (.getfield 212, 3) := by decide +kernel
theorem dX12_bring_142 : decode cX12_bring 142 = .ok (.iload_n 2, 1) := by decide +kernel
theorem dX12_bring_143 : decode cX12_bring 143 = .ok (.bipush 10, 2) := by decide +kernel
theorem dX12_bring_145 : decode cX12_bring 145 = .ok (.iadd, 1) := by decide +kernel
theorem dX12_bring_146 : decode cX12_bring 146 = .ok (.iaload, 1) := by decide +kernel
theorem dX12_bring_147 : decode cX12_bring 147 = .ok (.putfield 540, 3) := by decide +kernel
theorem dX12_bring_150 : decode cX12_bring 150 = .ok (.aload_n 0, 1) := by decide +kernel
theorem dX12_bring_151 : decode cX12_bring 151 = .ok (.aload_n 0, 1) := by decide +kernel
theorem dX12_bring_152 : decode cX12_bring 152 = .ok (.getfield 212, 3) := by decide +kernel
theorem dX12_bring_155 : decode cX12_bring 155 = .ok (.iload_n 2, 1) := by decide +kernel
theorem dX12_bring_156 : decode cX12_bring 156 = .ok (.bipush 11, 2) := by decide +kernel
theorem dX12_bring_158 : decode cX12_bring 158 = .ok (.iadd, 1) := by decide +kernel
theorem dX12_bring_159 : decode cX12_bring 159 = .ok (.iaload, 1) := by decide +kernel
theorem dX12_bring_160 : decode cX12_bring 160 = .ok (.putfield 543, 3) := by decide +kernel
theorem dX12_bring_163 : decode cX12_bring 163 = .ok (.aload_n 0, 1) := by decide +kernel
theorem dX12_bring_164 : decode cX12_bring 164 = .ok (.aload_n 0, 1) := by decide +kernel
theorem dX12_bring_165 : decode cX12_bring 165 = .ok (.getfield 212, 3) := by decide +kernel
theorem dX12_bring_168 : decode cX12_bring 168 = .ok (.iload_n 2, 1) := by decide +kernel
theorem dX12_bring_169 : decode cX12_bring 169 = .ok (.bipush 12, 2) := by decide +kernel
theorem dX12_bring_171 : decode cX12_bring 171 = .ok (.iadd, 1) := by decide +kernel
theorem dX12_bring_172 : decode cX12_bring 172 = .ok (.iaload, 1) := by decide +kernel
theorem dX12_bring_173 : decode cX12_bring 173 = .ok (.putfield 546, 3) := by decide +kernel
theorem dX12_bring_176 : decode cX12_bring 176 = .ok (.aload_n 0, 1) := by decide +kernel
theorem dX12_bring_177 : decode cX12_bring 177 = .ok (.iload_n 1, 1) := by decide +kernel
theorem dX12_bring_178 : decode cX12_bring 178 = .ok (.invokevirtual 687, 3) := by decide +kernel
theorem dX12_bring_181 : decode cX12_bring 181 = .ok (.iconst 0, 1) := by decide +kernel
theorem dX12_bring_182 : decode cX12_bring 182 = .ok (.istore_n 3, 1) := by decide +kernel
theorem dX12_bring_183 : decode cX12_bring 183 = .ok (.iload_n 3, 1) := by decide +kernel
theorem dX12_bring_184 : decode cX12_bring 184 = .ok (.bipush 6, 2) := by decide +kernel
theorem dX12_bring_186 : decode cX12_bring 186 = .ok (.if_icmp .ge 43, 3) := by decide +kernel
theorem dX12_bring_189 : decode cX12_bring 189 = .ok (.aload_n 0, 1) := by decide +kernel
theorem dX12_bring_190 : decode cX12_bring 190 = .ok (.getfield 170, 3) := by decide +kernel
theorem dX12_bring_193 : decode cX12_bring 193 = .ok (.iload_n 3, 1) := by decide +kernel
theorem dX12_bring_194 : decode cX12_bring 194 = .ok (.aload_n 0, 1) := by decide +kernel
theorem dX12_bring_195 : decode cX12_bring 195 = .ok (.getfield 221, 3) := by decide +kernel
theorem dX12_bring_198 : decode cX12_bring 198 = .ok (.bipush 6, 2) := by decide +kernel
theorem dX12_bring_200 : decode cX12_bring 200 = .ok (.iload_n 1, 1) := by decide +kernel
theorem dX12_bring_201 : decode cX12_bring 201 = .ok (.imul, 1) := by decide +kernel
theorem dX12_bring_202 : decode cX12_bring 202 = .ok (.iload_n 3, 1) := by decide +kernel
theorem dX12_bring_203 : decode cX12_bring 203 = .ok (.iadd, 1) := by decide +kernel
theorem dX12_bring_204 : decode cX12_bring 204 = .ok (.iaload, 1) := by decide +kernel
theorem dX12_bring_205 : decode cX12_bring 205 = .ok (.iastore, 1) := by decide +kernel
theorem dX12_bring_206 : decode cX12_bring 206 = .ok (.aload_n 0, 1) := by decide +kernel
theorem dX12_bring_207 : decode cX12_bring 207 = .ok (.getfield 173, 3) := by decide +kernel
theorem dX12_bring_210 : decode cX12_bring 210 = .ok (.iload_n 3, 1) := by decide +kernel
theorem dX12_bring_211 : decode cX12_bring 211 = .ok (.aload_n 0, 1) := by decide +kernel
theorem dX12_bring_212 : decode cX12_bring 212 = .ok (.getfield 224, 3) := by decide +kernel
theorem dX12_bring_215 : decode cX12_bring 215 = .ok (.bipush 6, 2) := by decide +kernel
theorem dX12_bring_217 : decode cX12_bring 217 = .ok (.iload_n 1, 1) := by decide +kernel
theorem dX12_bring_218 : decode cX12_bring 218 = .ok (.imul, 1) := by decide +kernel
theorem dX12_bring_219 : decode cX12_bring 219 = .ok (.iload_n 3, 1) := by decide +kernel
theorem dX12_bring_220 : decode cX12_bring 220 = .ok (.iadd, 1) := by decide +kernel
theorem dX12_bring_221 : decode cX12_bring 221 = .ok (.iaload, 1) := by decide +kernel
theorem dX12_bring_222 : decode cX12_bring 222 = .ok (.iastore, 1) := by decide +kernel
theorem dX12_bring_223 : decode cX12_bring 223 = .ok (.iinc 3 1, 3) := by decide +kernel
theorem dX12_bring_226 : decode cX12_bring 226 = .ok (.goto (-43), 3) := by decide +kernel
theorem dX12_bring_229 : decode cX12_bring 229 = .ok (.iconst 0, 1) := by decide +kernel
theorem dX12_bring_230 : decode cX12_bring 230 = .ok (.istore_n 3, 1) := by decide +kernel
theorem dX12_bring_231 : decode cX12_bring 231 = .ok (.iload_n 3, 1) := by decide +kernel
theorem dX12_bring_232 : decode cX12_bring 232 = .ok (.iconst 5, 1) := by decide +kernel
theorem dX12_bring_233 : decode cX12_bring 233 = .ok (.if_icmp .ge 133, 3) := by decide +kernel
theorem dX12_bring_236 : decode cX12_bring 236 = .ok (.iconst 5, 1) := by decide +kernel
theorem dX12_bring_237 : decode cX12_bring 237 = .ok (.iload_n 1, 1) := by decide +kernel
theorem dX12_bring_238 : decode cX12_bring 238 = .ok (.imul, 1) := by decide +kernel
theorem dX12_bring_239 : decode cX12_bring 239 = .ok (.iload_n 3, 1) := by decide +kernel
theorem dX12_bring_240 : decode cX12_bring 240 = .ok (.iadd, 1) := by decide +kernel
theorem dX12_bring_241 : decode cX12_bring 241 = .ok (.istore 4, 2) := by decide +kernel
theorem dX12_bring_243 : decode cX12_bring 243 = .ok (.aload_n 0, 1) := by decide +kernel
theorem dX12_bring_244 : decode cX12_bring 244 = .ok (.getfield 137, 3) := by decide +kernel
theorem dX12_bring_247 : decode cX12_bring 247 = .ok (.iload_n 3, 1) := by decide +kernel
theorem dX12_bring_248 : decode cX12_bring 248 = .ok (.aload_n 0, 1) := by decide +kernel
theorem dX12_bring_249 : decode cX12_bring 249 = .ok (.getfield 230, 3) := by decide +kernel
theorem dX12_bring_252 : decode cX12_bring 252 = .ok (.iload 4, 2) := by decide +kernel
theorem dX12_bring_254 : decode cX12_bring 254 = .ok (.iaload, 1) := by decide +kernel
theorem dX12_bring_255 : decode cX12_bring 255 = .ok (.iastore, 1) := by decide +kernel
theorem dX12_bring_256 : decode cX12_bring 256 = .ok (.aload_n 0, 1) := by decide +kernel
theorem dX12_bring_257 : decode cX12_bring 257 = .ok (.getfield 140, 3) := by decide +kernel
theorem dX12_bring_260 : decode cX12_bring 260 = .ok (.iload_n 3, 1) := by decide +kernel
theorem dX12_bring_261 : decode cX12_bring 261 = .ok (.aload_n 0, 1) := by decide +kernel
theorem dX12_bring_262 : decode cX12_bring 262 = .ok (.getfield 233, 3) := by decide +kernel
theorem dX12_bring_265 : decode cX12_bring 265 = .ok (.iload 4, 2) := by decide +kernel
theorem dX12_bring_267 : decode cX12_bring 267 = .ok (.iaload, 1) := by decide +kernel
theorem dX12_bring_268 : decode cX12_bring 268 = .ok (.iastore, 1) := by decide +kernel
theorem dX12_bring_269 : decode cX12_bring 269 = .ok (.aload_n 0, 1) := by decide +kernel
theorem dX12_bring_270 : decode cX12_bring 270 = .ok (.getfield 143, 3) := by decide +kernel
theorem dX12_bring_273 : decode cX12_bring 273 = .ok (.iload_n 3, 1) := by decide +kernel
theorem dX12_bring_274 : decode cX12_bring 274 = .ok (.aload_n 0, 1) := by decide +kernel
theorem dX12_bring_275 : decode cX12_bring 275 = .ok (.getfield 236, 3) := by decide +kernel
theorem dX12_bring_278 : decode cX12_bring 278 = .ok (.iload 4, 2) := by decide +kernel
theorem dX12_bring_280 : decode cX12_bring 280 = .ok (.iaload, 1) := by decide +kernel
theorem dX12_bring_281 : decode cX12_bring 281 = .ok (.iastore, 1) := by decide +kernel
theorem dX12_bring_282 : decode cX12_bring 282 = .ok (.aload_n 0, 1) := by decide +kernel
theorem dX12_bring_283 : decode cX12_bring 283 = .ok (.getfield 146, 3) := by decide +kernel
theorem dX12_bring_286 : decode cX12_bring 286 = .ok (.iload_n 3, 1) := by decide +kernel
theorem dX12_bring_287 : decode cX12_bring 287 = .ok (.aload_n 0, 1) := by decide +kernel
theorem dX12_bring_288 : decode cX12_bring 288 = .ok (.getfield 239, 3) := by decide +kernel
theorem dX12_bring_291 : decode cX12_bring 291 = .ok (.iload 4, 2) := by decide +kernel
theorem dX12_bring_293 : decode cX12_bring 293 = .ok (.iaload, 1) := by decide +kernel
theorem dX12_bring_294 : decode cX12_bring 294 = .ok (.iastore, 1) := by decide +kernel
theorem dX12_bring_295 : decode cX12_bring 295 = .ok (.aload_n 0, 1) := by decide +kernel
theorem dX12_bring_296 : decode cX12_bring 296 = .ok (.getfield 149, 3) := by decide +kernel
theorem dX12_bring_299 : decode cX12_bring 299 = .ok (.iload_n 3, 1) := by decide +kernel
theorem dX12_bring_300 : decode cX12_bring 300 = .ok (.aload_n 0, 1) := by decide +kernel
theorem dX12_bring_301 : decode cX12_bring 301 = .ok (.getfield 242, 3) := by decide +kernel
theorem dX12_bring_304 : decode cX12_bring 304 = .ok (.iload 4, 2) := by decide +kernel
theorem dX12_bring_306 : decode cX12_bring 306 = .ok (.iaload, 1) := by decide +kernel
theorem dX12_bring_307 : decode cX12_bring 307 = .ok (.iastore, 1) := by decide +kernel
theorem dX12_bring_308 : decode cX12_bring 308 = .ok (.aload_n 0, 1) := by decide +kernel
theorem dX12_bring_309 : decode cX12_bring 309 = .ok (.getfield 155, 3) := by decide +kernel
theorem dX12_bring_312 : decode cX12_bring 312 = .ok (.iload_n 3, 1) := by decide +kernel
theorem dX12_bring_313 : decode cX12_bring 313 = .ok (.aload_n 0, 1) := by decide +kernel
theorem dX12_bring_314 : decode cX12_bring 314 = .ok (.getfield 245, 3) := by decide +kernel
theorem dX12_bring_317 : decode cX12_bring 317 = .ok (.iload 4, 2) := by decide +kernel
theorem dX12_bring_319 : decode cX12_bring 319 = .ok (.baload, 1) := by decide +kernel
theorem dX12_bring_320 : decode cX12_bring 320 = .ok (.bastore, 1) := by decide +kernel
theorem dX12_bring_321 : decode cX12_bring 321 = .ok (.aload_n 0, 1) := by decide +kernel
theorem dX12_bring_322 : decode cX12_bring 322 = .ok (.getfield 158, 3) := by decide +kernel
theorem dX12_bring_325 : decode cX12_bring 325 = .ok (.iload_n 3, 1) := by decide +kernel
theorem dX12_bring_326 : decode cX12_bring 326 = .ok (.aload_n 0, 1) := by decide +kernel
theorem dX12_bring_327 : decode cX12_bring 327 = .ok (.getfield 248, 3) := by decide +kernel
theorem dX12_bring_330 : decode cX12_bring 330 = .ok (.iload 4, 2) := by decide +kernel
theorem dX12_bring_332 : decode cX12_bring 332 = .ok (.baload, 1) := by decide +kernel
theorem dX12_bring_333 : decode cX12_bring 333 = .ok (.bastore, 1) := by decide +kernel
theorem dX12_bring_334 : decode cX12_bring 334 = .ok (.aload_n 0, 1) := by decide +kernel
theorem dX12_bring_335 : decode cX12_bring 335 = .ok (.getfield 164, 3) := by decide +kernel
theorem dX12_bring_338 : decode cX12_bring 338 = .ok (.iload_n 3, 1) := by decide +kernel
theorem dX12_bring_339 : decode cX12_bring 339 = .ok (.aload_n 0, 1) := by decide +kernel
theorem dX12_bring_340 : decode cX12_bring 340 = .ok (.getfield 215, 3) := by decide +kernel
theorem dX12_bring_343 : decode cX12_bring 343 = .ok (.iload 4, 2) := by decide +kernel
theorem dX12_bring_345 : decode cX12_bring 345 = .ok (.iaload, 1) := by decide +kernel
theorem dX12_bring_346 : decode cX12_bring 346 = .ok (.iastore, 1) := by decide +kernel
theorem dX12_bring_347 : decode cX12_bring 347 = .ok (.aload_n 0, 1) := by decide +kernel
theorem dX12_bring_348 : decode cX12_bring 348 = .ok (.getfield 167, 3) := by decide +kernel
theorem dX12_bring_351 : decode cX12_bring 351 = .ok (.iload_n 3, 1) := by decide +kernel
theorem dX12_bring_352 : decode cX12_bring 352 = .ok (.aload_n 0, 1) := by decide +kernel
theorem dX12_bring_353 : decode cX12_bring 353 = .ok (.getfield 218, 3) := by decide +kernel
theorem dX12_bring_356 : decode cX12_bring 356 = .ok (.iload 4, 2) := by decide +kernel
theorem dX12_bring_358 : decode cX12_bring 358 = .ok (.iaload, 1) := by decide +kernel
theorem dX12_bring_359 : decode cX12_bring 359 = .ok (.iastore, 1) := by decide +kernel
theorem dX12_bring_360 : decode cX12_bring 360 = .ok (.iinc 3 1, 3) := by decide +kernel
theorem dX12_bring_363 : decode cX12_bring 363 = .ok (.goto (-132), 3) := by decide +kernel
theorem dX12_bring_366 : decode cX12_bring 366 = .ok (.iconst 0, 1) := by decide +kernel
theorem dX12_bring_367 : decode cX12_bring 367 = .ok (.istore_n 3, 1) := by decide +kernel
theorem dX12_bring_368 : decode cX12_bring 368 = .ok (.iload_n 3, 1) := by decide +kernel
theorem dX12_bring_369 : decode cX12_bring 369 = .ok (.iconst 3, 1) := by decide +kernel
theorem dX12_bring_370 : decode cX12_bring 370 = .ok (.if_icmp .ge 25, 3) := by decide +kernel
theorem dX12_bring_373 : decode cX12_bring 373 = .ok (.aload_n 0, 1) := by decide +kernel
theorem dX12_bring_374 : decode cX12_bring 374 = .ok (.getfield 161, 3) := by decide +kernel
theorem dX12_bring_377 : decode cX12_bring 377 = .ok (.iload_n 3, 1) := by decide +kernel
theorem dX12_bring_378 : decode cX12_bring 378 = .ok (.aload_n 0, 1) := by decide +kernel
theorem dX12_bring_379 : decode cX12_bring 379 = .ok (.getfield 251, 3) := by decide +kernel
theorem dX12_bring_382 : decode cX12_bring 382 = .ok (.iconst 3, 1) := by decide +kernel
theorem dX12_bring_383 : decode cX12_bring 383 = .ok (.iload_n 1, 1) := by decide +kernel
theorem dX12_bring_384 : decode cX12_bring 384 = .ok (.imul, 1) := by decide +kernel
theorem dX12_bring_385 : decode cX12_bring 385 = .ok (.iload_n 3, 1) := by decide +kernel
theorem dX12_bring_386 : decode cX12_bring 386 = .ok (.iadd, 1) := by decide +kernel
theorem dX12_bring_387 : decode cX12_bring 387 = .ok (.baload, 1) := by decide +kernel
theorem dX12_bring_388 : decode cX12_bring 388 = .ok (.bastore, 1) := by decide +kernel
theorem dX12_bring_389 : decode cX12_bring 389 = .ok (.iinc 3 1, 3) := by decide +kernel
theorem dX12_bring_392 : decode cX12_bring 392 = .ok (.goto (-24), 3) := by decide +kernel
theorem dX12_bring_395 : decode cX12_bring 395 = .ok (.return_, 1) := by decide +kernel
theorem dX12_bringEvents_0 : decode cX12_bringEvents 0 = .ok (.iconst 0, 1) := by decide +kernel
theorem dX12_bringEvents_1 : decode cX12_bringEvents 1 = .ok (.istore_n 2, 1) := by decide +kernel
theorem dX12_bringEvents_2 : decode cX12_bringEvents 2 = .ok (.iload_n 2, 1) := by decide +kernel
theorem dX12_bringEvents_3 : decode cX12_bringEvents 3 = .ok (.aload_n 0, 1) := by decide +kernel
theorem dX12_bringEvents_4 : decode cX12_bringEvents 4 = .ok (.getfield 546, 3) := by decide +kernel
theorem dX12_bringEvents_7 : decode cX12_bringEvents 7 = .ok (.if_icmp .ge 87, 3) := by decide +kernel
theorem dX12_bringEvents_10 : decode cX12_bringEvents 10 = .ok (.sipush 300, 3) := by decide +kernel
theorem dX12_bringEvents_13 : decode cX12_bringEvents 13 = .ok (.iload_n 1, 1) := by decide +kernel
theorem dX12_bringEvents_14 : decode cX12_bringEvents 14 = .ok (.imul, 1) := by decide +kernel
theorem dX12_bringEvents_15 : decode cX12_bringEvents 15 = .ok (.iconst 5, 1) := by decide +kernel
theorem dX12_bringEvents_16 : decode cX12_bringEvents 16 = .ok (.iload_n 2, 1) := by decide +kernel
theorem dX12_bringEvents_17 : decode cX12_bringEvents 17 = .ok (.imul, 1) := by decide +kernel
theorem dX12_bringEvents_18 : decode cX12_bringEvents 18 = .ok (.iadd, 1) := by decide +kernel
theorem dX12_bringEvents_19 : decode cX12_bringEvents 19 = .ok (.istore_n 3, 1) := by decide +kernel
theorem dX12_bringEvents_20 : decode cX12_bringEvents 20 = .ok (.aload_n 0, 1) := by decide +kernel
theorem dX12_bringEvents_21 : decode cX12_bringEvents 21 = .ok (.getfield 176, 3) := by decide +kernel
theorem dX12_bringEvents_24 : decode cX12_bringEvents 24 = .ok (.iload_n 2, 1) := by decide +kernel
theorem dX12_bringEvents_25 : decode cX12_bringEvents 25 = .ok (.aload_n 0, 1) := by decide +kernel
theorem dX12_bringEvents_26 : decode cX12_bringEvents 26 = .ok (.getfield 227, 3) := by decide +kernel
theorem dX12_bringEvents_29 : decode cX12_bringEvents 29 = .ok (.iload_n 3, 1) := by decide +kernel
theorem dX12_bringEvents_30 : decode cX12_bringEvents 30 = .ok (.iaload, 1) := by decide +kernel
theorem dX12_bringEvents_31 : decode cX12_bringEvents 31 = .ok (.iastore, 1) := by decide +kernel
theorem dX12_bringEvents_32 : decode cX12_bringEvents 32 = .ok (.aload_n 0, 1) := by decide +kernel
theorem dX12_bringEvents_33 : decode cX12_bringEvents 33 = .ok (.getfield 179, 3) := by decide +kernel
theorem dX12_bringEvents_36 : decode cX12_bringEvents 36 = .ok (.iload_n 2, 1) := by decide +kernel
theorem dX12_bringEvents_37 : decode cX12_bringEvents 37 = .ok (.aload_n 0, 1) := by decide +kernel
theorem dX12_bringEvents_38 : decode cX12_bringEvents 38 = .ok (.getfield 227, 3) := by decide +kernel
theorem dX12_bringEvents_41 : decode cX12_bringEvents 41 = .ok (.iload_n 3, 1) := by decide +kernel
theorem dX12_bringEvents_42 : decode cX12_bringEvents 42 = .ok (.iconst 1, 1) := by decide +kernel
theorem dX12_bringEvents_43 : decode cX12_bringEvents 43 = .ok (.iadd, 1) := by decide +kernel
theorem dX12_bringEvents_44 : decode cX12_bringEvents 44 = .ok (.iaload, 1) := by decide +kernel
theorem dX12_bringEvents_45 : decode cX12_bringEvents 45 = .ok (.iastore, 1) := by decide +kernel
theorem dX12_bringEvents_46 : decode cX12_bringEvents 46 = .ok (.aload_n 0, 1) := by decide +kernel
theorem dX12_bringEvents_47 : decode cX12_bringEvents 47 = .ok (.getfield 182, 3) := by decide +kernel
theorem dX12_bringEvents_50 : decode cX12_bringEvents 50 = .ok (.iload_n 2, 1) := by decide +kernel
theorem dX12_bringEvents_51 : decode cX12_bringEvents 51 = .ok (.aload_n 0, 1) := by decide +kernel
theorem dX12_bringEvents_52 : decode cX12_bringEvents 52 = .ok (.getfield 227, 3) := by decide +kernel
theorem dX12_bringEvents_55 : decode cX12_bringEvents 55 = .ok (.iload_n 3, 1) := by decide +kernel
theorem dX12_bringEvents_56 : decode cX12_bringEvents 56 = .ok (.iconst 2, 1) := by decide +kernel
theorem dX12_bringEvents_57 : decode cX12_bringEvents 57 = .ok (.iadd, 1) := by decide +kernel
theorem dX12_bringEvents_58 : decode cX12_bringEvents 58 = .ok (.iaload, 1) := by decide +kernel
theorem dX12_bringEvents_59 : decode cX12_bringEvents 59 = .ok (.iastore, 1) := by decide +kernel
theorem dX12_bringEvents_60 : decode cX12_bringEvents 60 = .ok (.aload_n 0, 1) := by decide +kernel
theorem dX12_bringEvents_61 : decode cX12_bringEvents 61 = .ok (.getfield 185, 3) := by decide +kernel
theorem dX12_bringEvents_64 : decode cX12_bringEvents 64 = .ok (.iload_n 2, 1) := by decide +kernel
theorem dX12_bringEvents_65 : decode cX12_bringEvents 65 = .ok (.aload_n 0, 1) := by decide +kernel
theorem dX12_bringEvents_66 : decode cX12_bringEvents 66 = .ok (.getfield 227, 3) := by decide +kernel
theorem dX12_bringEvents_69 : decode cX12_bringEvents 69 = .ok (.iload_n 3, 1) := by decide +kernel
theorem dX12_bringEvents_70 : decode cX12_bringEvents 70 = .ok (.iconst 3, 1) := by decide +kernel
theorem dX12_bringEvents_71 : decode cX12_bringEvents 71 = .ok (.iadd, 1) := by decide +kernel
theorem dX12_bringEvents_72 : decode cX12_bringEvents 72 = .ok (.iaload, 1) := by decide +kernel
theorem dX12_bringEvents_73 : decode cX12_bringEvents 73 = .ok (.iastore, 1) := by decide +kernel
theorem dX12_bringEvents_74 : decode cX12_bringEvents 74 = .ok (.aload_n 0, 1) := by decide +kernel
theorem dX12_bringEvents_75 : decode cX12_bringEvents 75 = .ok (.getfield 188, 3) := by decide +kernel
theorem dX12_bringEvents_78 : decode cX12_bringEvents 78 = .ok (.iload_n 2, 1) := by decide +kernel
theorem dX12_bringEvents_79 : decode cX12_bringEvents 79 = .ok (.aload_n 0, 1) := by decide +kernel
theorem dX12_bringEvents_80 : decode cX12_bringEvents 80 = .ok (.getfield 227, 3) := by decide +kernel
theorem dX12_bringEvents_83 : decode cX12_bringEvents 83 = .ok (.iload_n 3, 1) := by decide +kernel
theorem dX12_bringEvents_84 : decode cX12_bringEvents 84 = .ok (.iconst 4, 1) := by decide +kernel
theorem dX12_bringEvents_85 : decode cX12_bringEvents 85 = .ok (.iadd, 1) := by decide +kernel
theorem dX12_bringEvents_86 : decode cX12_bringEvents 86 = .ok (.iaload, 1) := by decide +kernel
theorem dX12_bringEvents_87 : decode cX12_bringEvents 87 = .ok (.iastore, 1) := by decide +kernel
theorem dX12_bringEvents_88 : decode cX12_bringEvents 88 = .ok (.iinc 2 1, 3) := by decide +kernel
theorem dX12_bringEvents_91 : decode cX12_bringEvents 91 = .ok (.goto (-89), 3) := by decide +kernel
theorem dX12_bringEvents_94 : decode cX12_bringEvents 94 = .ok (.return_, 1) := by decide +kernel
theorem dX12_car_0 : decode cX12_car 0 = .ok (.aload_n 0, 1) := by decide +kernel
theorem dX12_car_1 : decode cX12_car 1 = .ok (.iload_n 1, 1) := by decide +kernel
theorem dX12_car_2 : decode cX12_car 2 = .ok (.invokevirtual 628, 3) := by decide +kernel
theorem dX12_car_5 : decode cX12_car 5 = .ok (.ifCond .ne 5, 3) := by decide +kernel
theorem dX12_car_8 : decode cX12_car 8 = .ok (.iconst (-1), 1) := by decide +kernel
theorem dX12_car_9 : decode cX12_car 9 = .ok (.ireturn, 1) := by decide +kernel
theorem dX12_car_10 : decode cX12_car 10 = .ok (.iload_n 2, 1) := by decide +kernel
theorem dX12_car_11 : decode cX12_car 11 = .ok (.tableswitch 83 0 4 #[33, 83, 40, 47, 62], 33) := by decide +kernel
theorem dX12_car_44 : decode cX12_car 44 = .ok (.aload_n 0, 1) := by decide +kernel
theorem dX12_car_45 : decode cX12_car 45 = .ok (.getfield 137, 3) := by decide +kernel
theorem dX12_car_48 : decode cX12_car 48 = .ok (.iload_n 1, 1) := by decide +kernel
theorem dX12_car_49 : decode cX12_car 49 = .ok (.iaload, 1) := by decide +kernel
theorem dX12_car_50 : decode cX12_car 50 = .ok (.ireturn, 1) := by decide +kernel
theorem dX12_car_51 : decode cX12_car 51 = .ok (.aload_n 0, 1) := by decide +kernel
theorem dX12_car_52 : decode cX12_car 52 = .ok (.getfield 143, 3) := by decide +kernel
theorem dX12_car_55 : decode cX12_car 55 = .ok (.iload_n 1, 1) := by decide +kernel
theorem dX12_car_56 : decode cX12_car 56 = .ok (.iaload, 1) := by decide +kernel
theorem dX12_car_57 : decode cX12_car 57 = .ok (.ireturn, 1) := by decide +kernel
theorem dX12_car_58 : decode cX12_car 58 = .ok (.aload_n 0, 1) := by decide +kernel
theorem dX12_car_59 : decode cX12_car 59 = .ok (.getfield 155, 3) := by decide +kernel
theorem dX12_car_62 : decode cX12_car 62 = .ok (.iload_n 1, 1) := by decide +kernel
theorem dX12_car_63 : decode cX12_car 63 = .ok (.baload, 1) := by decide +kernel
theorem dX12_car_64 : decode cX12_car 64 = .ok (.ifCond .eq 7, 3) := by decide +kernel
theorem dX12_car_67 : decode cX12_car 67 = .ok (.iconst 1, 1) := by decide +kernel
theorem dX12_car_68 : decode cX12_car 68 = .ok (.goto 4, 3) := by decide +kernel
theorem dX12_car_71 : decode cX12_car 71 = .ok (.iconst 0, 1) := by decide +kernel
theorem dX12_car_72 : decode cX12_car 72 = .ok (.ireturn, 1) := by decide +kernel
theorem dX12_car_73 : decode cX12_car 73 = .ok (.aload_n 0, 1) := by decide +kernel
theorem dX12_car_74 : decode cX12_car 74 = .ok (.getfield 143, 3) := by decide +kernel
theorem dX12_car_77 : decode cX12_car 77 = .ok (.iload_n 1, 1) := by decide +kernel
theorem dX12_car_78 : decode cX12_car 78 = .ok (.iaload, 1) := by decide +kernel
theorem dX12_car_79 : decode cX12_car 79 = .ok (.iconst 2, 1) := by decide +kernel
theorem dX12_car_80 : decode cX12_car 80 = .ok (.if_icmp .ne 12, 3) := by decide +kernel
theorem dX12_car_83 : decode cX12_car 83 = .ok (.aload_n 0, 1) := by decide +kernel
theorem dX12_car_84 : decode cX12_car 84 = .ok (.getfield 146, 3) := by decide +kernel
theorem dX12_car_87 : decode cX12_car 87 = .ok (.iload_n 1, 1) := by decide +kernel
theorem dX12_car_88 : decode cX12_car 88 = .ok (.iaload, 1) := by decide +kernel
theorem dX12_car_89 : decode cX12_car 89 = .ok (.goto 4, 3) := by decide +kernel
theorem dX12_car_92 : decode cX12_car 92 = .ok (.iconst 0, 1) := by decide +kernel
theorem dX12_car_93 : decode cX12_car 93 = .ok (.ireturn, 1) := by decide +kernel
theorem dX12_car_94 : decode cX12_car 94 = .ok (.iconst (-1), 1) := by decide +kernel
theorem dX12_car_95 : decode cX12_car 95 = .ok (.ireturn, 1) := by decide +kernel
theorem dX12_carMany_0 : decode cX12_carMany 0 = .ok (.aload_n 0, 1) := by decide +kernel
theorem dX12_carMany_1 : decode cX12_carMany 1 = .ok (.getfield 24, 3) := by decide +kernel
theorem dX12_carMany_4 : decode cX12_carMany 4 = .ok (.aload_n 0, 1) := by decide +kernel
theorem dX12_carMany_5 : decode cX12_carMany 5 = .ok (.getfield 386, 3) := by decide +kernel
theorem dX12_carMany_8 : decode cX12_carMany 8 = .ok (.iaload, 1) := by decide +kernel
theorem dX12_carMany_9 : decode cX12_carMany 9 = .ok (.ireturn, 1) := by decide +kernel
theorem dX12_clearBank_0 : decode cX12_clearBank 0 = .ok (.aload_n 0, 1) := by decide +kernel
theorem dX12_clearBank_1 : decode cX12_clearBank 1 = .ok (.getfield 20, 3) := by decide +kernel
theorem dX12_clearBank_4 : decode cX12_clearBank 4 = .ok (.aload_n 0, 1) := by decide +kernel
theorem dX12_clearBank_5 : decode cX12_clearBank 5 = .ok (.getfield 377, 3) := by decide +kernel
theorem dX12_clearBank_8 : decode cX12_clearBank 8 = .ok (.iconst 0, 1) := by decide +kernel
theorem dX12_clearBank_9 : decode cX12_clearBank 9 = .ok (.iastore, 1) := by decide +kernel
theorem dX12_clearBank_10 : decode cX12_clearBank 10 = .ok (.aload_n 0, 1) := by decide +kernel
theorem dX12_clearBank_11 : decode cX12_clearBank 11 = .ok (.getfield 24, 3) := by decide +kernel
theorem dX12_clearBank_14 : decode cX12_clearBank 14 = .ok (.aload_n 0, 1) := by decide +kernel
theorem dX12_clearBank_15 : decode cX12_clearBank 15 = .ok (.getfield 377, 3) := by decide +kernel
theorem dX12_clearBank_18 : decode cX12_clearBank 18 = .ok (.iconst 0, 1) := by decide +kernel
theorem dX12_clearBank_19 : decode cX12_clearBank 19 = .ok (.iastore, 1) := by decide +kernel
theorem dX12_clearBank_20 : decode cX12_clearBank 20 = .ok (.aload_n 0, 1) := by decide +kernel
theorem dX12_clearBank_21 : decode cX12_clearBank 21 = .ok (.getfield 27, 3) := by decide +kernel
theorem dX12_clearBank_24 : decode cX12_clearBank 24 = .ok (.aload_n 0, 1) := by decide +kernel
theorem dX12_clearBank_25 : decode cX12_clearBank 25 = .ok (.getfield 377, 3) := by decide +kernel
theorem dX12_clearBank_28 : decode cX12_clearBank 28 = .ok (.iconst 0, 1) := by decide +kernel
theorem dX12_clearBank_29 : decode cX12_clearBank 29 = .ok (.iastore, 1) := by decide +kernel
theorem dX12_clearBank_30 : decode cX12_clearBank 30 = .ok (.aload_n 0, 1) := by decide +kernel
theorem dX12_clearBank_31 : decode cX12_clearBank 31 = .ok (.getfield 30, 3) := by decide +kernel
theorem dX12_clearBank_34 : decode cX12_clearBank 34 = .ok (.aload_n 0, 1) := by decide +kernel
theorem dX12_clearBank_35 : decode cX12_clearBank 35 = .ok (.getfield 377, 3) := by decide +kernel
theorem dX12_clearBank_38 : decode cX12_clearBank 38 = .ok (.iconst 0, 1) := by decide +kernel
theorem dX12_clearBank_39 : decode cX12_clearBank 39 = .ok (.iastore, 1) := by decide +kernel
theorem dX12_clearBank_40 : decode cX12_clearBank 40 = .ok (.aload_n 0, 1) := by decide +kernel
theorem dX12_clearBank_41 : decode cX12_clearBank 41 = .ok (.getfield 33, 3) := by decide +kernel
theorem dX12_clearBank_44 : decode cX12_clearBank 44 = .ok (.aload_n 0, 1) := by decide +kernel
theorem dX12_clearBank_45 : decode cX12_clearBank 45 = .ok (.getfield 377, 3) := by decide +kernel
theorem dX12_clearBank_48 : decode cX12_clearBank 48 = .ok (.iconst 0, 1) := by decide +kernel
theorem dX12_clearBank_49 : decode cX12_clearBank 49 = .ok (.iastore, 1) := by decide +kernel
theorem dX12_clearBank_50 : decode cX12_clearBank 50 = .ok (.aload_n 0, 1) := by decide +kernel
theorem dX12_clearBank_51 : decode cX12_clearBank 51 = .ok (.getfield 36, 3) := by decide +kernel
theorem dX12_clearBank_54 : decode cX12_clearBank 54 = .ok (.aload_n 0, 1) := by decide +kernel
theorem dX12_clearBank_55 : decode cX12_clearBank 55 = .ok (.getfield 377, 3) := by decide +kernel
theorem dX12_clearBank_58 : decode cX12_clearBank 58 = .ok (.iconst 1, 1) := by decide +kernel
theorem dX12_clearBank_59 : decode cX12_clearBank 59 = .ok (.iastore, 1) := by decide +kernel
theorem dX12_clearBank_60 : decode cX12_clearBank 60 = .ok (.aload_n 0, 1) := by decide +kernel
theorem dX12_clearBank_61 : decode cX12_clearBank 61 = .ok (.getfield 39, 3) := by decide +kernel
theorem dX12_clearBank_64 : decode cX12_clearBank 64 = .ok (.aload_n 0, 1) := by decide +kernel
theorem dX12_clearBank_65 : decode cX12_clearBank 65 = .ok (.getfield 377, 3) := by decide +kernel
theorem dX12_clearBank_68 : decode cX12_clearBank 68 = .ok (.sipush 200, 3) := by decide +kernel
theorem dX12_clearBank_71 : decode cX12_clearBank 71 = .ok (.iastore, 1) := by decide +kernel
theorem dX12_clearBank_72 : decode cX12_clearBank 72 = .ok (.aload_n 0, 1) := by decide +kernel
theorem dX12_clearBank_73 : decode cX12_clearBank 73 = .ok (.getfield 42, 3) := by decide +kernel
theorem dX12_clearBank_76 : decode cX12_clearBank 76 = .ok (.aload_n 0, 1) := by decide +kernel
theorem dX12_clearBank_77 : decode cX12_clearBank 77 = .ok (.getfield 377, 3) := by decide +kernel
theorem dX12_clearBank_80 : decode cX12_clearBank 80 = .ok (.iconst 0, 1) := by decide +kernel
theorem dX12_clearBank_81 : decode cX12_clearBank 81 = .ok (.bastore, 1) := by decide +kernel
theorem dX12_clearBank_82 : decode cX12_clearBank 82 = .ok (.aload_n 0, 1) := by decide +kernel
theorem dX12_clearBank_83 : decode cX12_clearBank 83 = .ok (.getfield 46, 3) := by decide +kernel
theorem dX12_clearBank_86 : decode cX12_clearBank 86 = .ok (.aload_n 0, 1) := by decide +kernel
theorem dX12_clearBank_87 : decode cX12_clearBank 87 = .ok (.getfield 377, 3) := by decide +kernel
theorem dX12_clearBank_90 : decode cX12_clearBank 90 = .ok (.iconst 0, 1) := by decide +kernel
theorem dX12_clearBank_91 : decode cX12_clearBank 91 = .ok (.bastore, 1) := by decide +kernel
theorem dX12_clearBank_92 : decode cX12_clearBank 92 = .ok (.aload_n 0, 1) := by decide +kernel
theorem dX12_clearBank_93 : decode cX12_clearBank 93 = .ok (.getfield 89, 3) := by decide +kernel
theorem dX12_clearBank_96 : decode cX12_clearBank 96 = .ok (.aload_n 0, 1) := by decide +kernel
theorem dX12_clearBank_97 : decode cX12_clearBank 97 = .ok (.getfield 377, 3) := by decide +kernel
theorem dX12_clearBank_100 : decode cX12_clearBank 100 = .ok (.iconst 0, 1) := by decide +kernel
theorem dX12_clearBank_101 : decode cX12_clearBank 101 = .ok (.iastore, 1) := by decide +kernel
theorem dX12_clearBank_102 : decode cX12_clearBank 102 = .ok (.aload_n 0, 1) := by decide +kernel
theorem dX12_clearBank_103 : decode cX12_clearBank 103 = .ok (.getfield 92, 3) := by decide +kernel
theorem dX12_clearBank_106 : decode cX12_clearBank 106 = .ok (.aload_n 0, 1) := by decide +kernel
theorem dX12_clearBank_107 : decode cX12_clearBank 107 = .ok (.getfield 377, 3) := by decide +kernel
theorem dX12_clearBank_110 : decode cX12_clearBank 110 = .ok (.iconst 0, 1) := by decide +kernel
theorem dX12_clearBank_111 : decode cX12_clearBank 111 = .ok (.iastore, 1) := by decide +kernel
theorem dX12_clearBank_112 : decode cX12_clearBank 112 = .ok (.aload_n 0, 1) := by decide +kernel
theorem dX12_clearBank_113 : decode cX12_clearBank 113 = .ok (.getfield 95, 3) := by decide +kernel
theorem dX12_clearBank_116 : decode cX12_clearBank 116 = .ok (.aload_n 0, 1) := by decide +kernel
theorem dX12_clearBank_117 : decode cX12_clearBank 117 = .ok (.getfield 377, 3) := by decide +kernel
theorem dX12_clearBank_120 : decode cX12_clearBank 120 = .ok (.iconst 0, 1) := by decide +kernel
theorem dX12_clearBank_121 : decode cX12_clearBank 121 = .ok (.iastore, 1) := by decide +kernel
theorem dX12_clearBank_122 : decode cX12_clearBank 122 = .ok (.aload_n 0, 1) := by decide +kernel
theorem dX12_clearBank_123 : decode cX12_clearBank 123 = .ok (.sipush 400, 3) := by decide +kernel
theorem dX12_clearBank_126 : decode cX12_clearBank 126 = .ok (.aload_n 0, 1) := by decide +kernel
theorem dX12_clearBank_127 : decode cX12_clearBank 127 = .ok (.getfield 377, 3) := by decide +kernel
theorem dX12_clearBank_130 : decode cX12_clearBank 130 = .ok (.imul, 1) := by decide +kernel
theorem dX12_clearBank_131 : decode cX12_clearBank 131 = .ok (.putfield 380, 3) := by decide +kernel
theorem dX12_clearBank_134 : decode cX12_clearBank 134 = .ok (.aload_n 0, 1) := by decide +kernel
theorem dX12_clearBank_135 : decode cX12_clearBank 135 = .ok (.getfield 98, 3) := by decide +kernel
theorem dX12_clearBank_138 : decode cX12_clearBank 138 = .ok (.aload_n 0, 1) := by decide +kernel
theorem dX12_clearBank_139 : decode cX12_clearBank 139 = .ok (.getfield 377, 3) := by decide +kernel
theorem dX12_clearBank_142 : decode cX12_clearBank 142 = .ok (.iconst 0, 1) := by decide +kernel
theorem dX12_clearBank_143 : decode cX12_clearBank 143 = .ok (.iastore, 1) := by decide +kernel
theorem dX12_clearBank_144 : decode cX12_clearBank 144 = .ok (.bipush 60, 2) := by decide +kernel
theorem dX12_clearBank_146 : decode cX12_clearBank 146 = .ok (.aload_n 0, 1) := by decide +kernel
theorem dX12_clearBank_147 : decode cX12_clearBank 147 = .ok (.getfield 377, 3) := by decide +kernel
theorem dX12_clearBank_150 : decode cX12_clearBank 150 = .ok (.imul, 1) := by decide +kernel
theorem dX12_clearBank_151 : decode cX12_clearBank 151 = .ok (.istore_n 1, 1) := by decide +kernel
theorem dX12_clearBank_152 : decode cX12_clearBank 152 = .ok (.iload_n 1, 1) := by decide +kernel
theorem dX12_clearBank_153 : decode cX12_clearBank 153 = .ok (.bipush 60, 2) := by decide +kernel
theorem dX12_clearBank_155 : decode cX12_clearBank 155 = .ok (.aload_n 0, 1) := by decide +kernel
theorem dX12_clearBank_156 : decode cX12_clearBank 156 = .ok (.getfield 377, 3) := by decide +kernel
theorem dX12_clearBank_159 : decode cX12_clearBank 159 = .ok (.imul, 1) := by decide +kernel
theorem dX12_clearBank_160 : decode cX12_clearBank 160 = .ok (.bipush 60, 2) := by decide +kernel
theorem dX12_clearBank_162 : decode cX12_clearBank 162 = .ok (.iadd, 1) := by decide +kernel
theorem dX12_clearBank_163 : decode cX12_clearBank 163 = .ok (.if_icmp .ge 23, 3) := by decide +kernel
theorem dX12_clearBank_166 : decode cX12_clearBank 166 = .ok (.aload_n 0, 1) := by decide +kernel
theorem dX12_clearBank_167 : decode cX12_clearBank 167 = .ok (.getfield 74, 3) := by decide +kernel
theorem dX12_clearBank_170 : decode cX12_clearBank 170 = .ok (.iload_n 1, 1) := by decide +kernel
theorem dX12_clearBank_171 : decode cX12_clearBank 171 = .ok (.iconst 0, 1) := by decide +kernel
theorem dX12_clearBank_172 : decode cX12_clearBank 172 = .ok (.iastore, 1) := by decide +kernel
theorem dX12_clearBank_173 : decode cX12_clearBank 173 = .ok (.aload_n 0, 1) := by decide +kernel
theorem dX12_clearBank_174 : decode cX12_clearBank 174 = .ok (.getfield 77, 3) := by decide +kernel
theorem dX12_clearBank_177 : decode cX12_clearBank 177 = .ok (.iload_n 1, 1) := by decide +kernel
theorem dX12_clearBank_178 : decode cX12_clearBank 178 = .ok (.iconst (-1), 1) := by decide +kernel
theorem dX12_clearBank_179 : decode cX12_clearBank 179 = .ok (.iastore, 1) := by decide +kernel
theorem dX12_clearBank_180 : decode cX12_clearBank 180 = .ok (.iinc 1 1, 3) := by decide +kernel
theorem dX12_clearBank_183 : decode cX12_clearBank 183 = .ok (.goto (-31), 3) := by decide +kernel
theorem dX12_clearBank_186 : decode cX12_clearBank 186 = .ok (.sipush 240, 3) := by decide +kernel
theorem dX12_clearBank_189 : decode cX12_clearBank 189 = .ok (.aload_n 0, 1) := by decide +kernel
theorem dX12_clearBank_190 : decode cX12_clearBank 190 = .ok (.getfield 377, 3) := by decide +kernel
theorem dX12_clearBank_193 : decode cX12_clearBank 193 = .ok (.imul, 1) := by decide +kernel
theorem dX12_clearBank_194 : decode cX12_clearBank 194 = .ok (.istore_n 1, 1) := by decide +kernel
theorem dX12_clearBank_195 : decode cX12_clearBank 195 = .ok (.iload_n 1, 1) := by decide +kernel
theorem dX12_clearBank_196 : decode cX12_clearBank 196 = .ok (.sipush 240, 3) := by decide +kernel
theorem dX12_clearBank_199 : decode cX12_clearBank 199 = .ok (.aload_n 0, 1) := by decide +kernel
theorem dX12_clearBank_200 : decode cX12_clearBank 200 = .ok (.getfield 377, 3) := by decide +kernel
theorem dX12_clearBank_203 : decode cX12_clearBank 203 = .ok (.imul, 1) := by decide +kernel
theorem dX12_clearBank_204 : decode cX12_clearBank 204 = .ok (.sipush 240, 3) := by decide +kernel
theorem dX12_clearBank_207 : decode cX12_clearBank 207 = .ok (.iadd, 1) := by decide +kernel
theorem dX12_clearBank_208 : decode cX12_clearBank 208 = .ok (.if_icmp .ge 16, 3) := by decide +kernel
theorem dX12_clearBank_211 : decode cX12_clearBank 211 = .ok (.aload_n 0, 1) := by decide +kernel
theorem dX12_clearBank_212 : decode cX12_clearBank 212 = .ok (.getfield 49, 3) := by decide +kernel
theorem dX12_clearBank_215 : decode cX12_clearBank 215 = .ok (.iload_n 1, 1) := by decide +kernel
theorem dX12_clearBank_216 : decode cX12_clearBank 216 = .ok (.iconst 0, 1) := by decide +kernel
theorem dX12_clearBank_217 : decode cX12_clearBank 217 = .ok (.bastore, 1) := by decide +kernel
theorem dX12_clearBank_218 : decode cX12_clearBank 218 = .ok (.iinc 1 1, 3) := by decide +kernel
theorem dX12_clearBank_221 : decode cX12_clearBank 221 = .ok (.goto (-26), 3) := by decide +kernel
theorem dX12_clearBank_224 : decode cX12_clearBank 224 = .ok (.return_, 1) := by decide +kernel
theorem dX12_coast_0 : decode cX12_coast 0 = .ok (.bipush 10, 2) := by decide +kernel
theorem dX12_coast_2 : decode cX12_coast 2 = .ok (.iload_n 1, 1) := by decide +kernel
theorem dX12_coast_3 : decode cX12_coast 3 = .ok (.imul, 1) := by decide +kernel
theorem dX12_coast_4 : decode cX12_coast 4 = .ok (.istore_n 3, 1) := by decide +kernel
theorem dX12_coast_5 : decode cX12_coast 5 = .ok (.iload_n 2, 1) := by decide +kernel
theorem dX12_coast_6 : decode cX12_coast 6 = .ok (.istore 4, 2) := by decide +kernel
theorem dX12_coast_8 : decode cX12_coast 8 = .ok (.iconst 1, 1) := by decide +kernel
theorem dX12_coast_9 : decode cX12_coast 9 = .ok (.istore 5, 2) := by decide +kernel
theorem dX12_coast_11 : decode cX12_coast 11 = .ok (.aload_n 0, 1) := by decide +kernel
theorem dX12_coast_12 : decode cX12_coast 12 = .ok (.iconst 0, 1) := by decide +kernel
theorem dX12_coast_13 : decode cX12_coast 13 = .ok (.putfield 653, 3) := by decide +kernel
theorem dX12_coast_16 : decode cX12_coast 16 = .ok (.aload_n 0, 1) := by decide +kernel
theorem dX12_coast_17 : decode cX12_coast 17 = .ok (.iconst 0, 1) := by decide +kernel
theorem dX12_coast_18 : decode cX12_coast 18 = .ok (.putfield 656, 3) := by decide +kernel
theorem dX12_coast_21 : decode cX12_coast 21 = .ok (.iload 5, 2) := by decide +kernel
theorem dX12_coast_23 : decode cX12_coast 23 = .ok (.ifCond .eq 139, 3) := by decide +kernel
theorem dX12_coast_26 : decode cX12_coast 26 = .ok (.aload_n 0, 1) := by decide +kernel
theorem dX12_coast_27 : decode cX12_coast 27 = .ok (.getfield 653, 3) := by decide +kernel
theorem dX12_coast_30 : decode cX12_coast 30 = .ok (.sipush 500, 3) := by decide +kernel
theorem dX12_coast_33 : decode cX12_coast 33 = .ok (.if_icmp .ge 129, 3) := by decide +kernel
theorem dX12_coast_36 : decode cX12_coast 36 = .ok (.aload_n 0, 1) := by decide +kernel
theorem dX12_coast_37 : decode cX12_coast 37 = .ok (.iload 4, 2) := by decide +kernel
theorem dX12_coast_39 : decode cX12_coast 39 = .ok (.iload_n 3, 1) := by decide +kernel
theorem dX12_coast_40 : decode cX12_coast 40 = .ok (.bipush 10, 2) := by decide +kernel
theorem dX12_coast_42 : decode cX12_coast 42 = .ok (.idiv, 1) := by decide +kernel
theorem dX12_coast_43 : decode cX12_coast 43 = .ok (.invokevirtual 584, 3) := by decide +kernel
theorem dX12_coast_46 : decode cX12_coast 46 = .ok (.istore 4, 2) := by decide +kernel
theorem dX12_coast_48 : decode cX12_coast 48 = .ok (.iload_n 3, 1) := by decide +kernel
theorem dX12_coast_49 : decode cX12_coast 49 = .ok (.iload 4, 2) := by decide +kernel
theorem dX12_coast_51 : decode cX12_coast 51 = .ok (.iadd, 1) := by decide +kernel
theorem dX12_coast_52 : decode cX12_coast 52 = .ok (.istore_n 3, 1) := by decide +kernel
theorem dX12_coast_53 : decode cX12_coast 53 = .ok (.aload_n 0, 1) := by decide +kernel
theorem dX12_coast_54 : decode cX12_coast 54 = .ok (.dup, 1) := by decide +kernel
theorem dX12_coast_55 : decode cX12_coast 55 = .ok (.getfield 653, 3) := by decide +kernel
theorem dX12_coast_58 : decode cX12_coast 58 = .ok (.iconst 1, 1) := by decide +kernel
theorem dX12_coast_59 : decode cX12_coast 59 = .ok (.iadd, 1) := by decide +kernel
theorem dX12_coast_60 : decode cX12_coast 60 = .ok (.putfield 653, 3) := by decide +kernel
theorem dX12_coast_63 : decode cX12_coast 63 = .ok (.iload_n 3, 1) := by decide +kernel
theorem dX12_coast_64 : decode cX12_coast 64 = .ok (.ifCond .lt 10, 3) := by decide +kernel
theorem dX12_coast_67 : decode cX12_coast 67 = .ok (.iload_n 3, 1) := by decide +kernel
theorem dX12_coast_68 : decode cX12_coast 68 = .ok (.sipush 600, 3) := by decide +kernel
theorem dX12_coast_71 : decode cX12_coast 71 = .ok (.if_icmp .lt 7, 3) := by decide +kernel
theorem dX12_coast_74 : decode cX12_coast 74 = .ok (.iconst 1, 1) := by decide +kernel
theorem dX12_coast_75 : decode cX12_coast 75 = .ok (.goto 4, 3) := by decide +kernel
theorem dX12_coast_78 : decode cX12_coast 78 = .ok (.iconst 0, 1) := by decide +kernel
theorem dX12_coast_79 : decode cX12_coast 79 = .ok (.istore 6, 2) := by decide +kernel
theorem dX12_coast_81 : decode cX12_coast 81 = .ok (.aload_n 0, 1) := by decide +kernel
theorem dX12_coast_82 : decode cX12_coast 82 = .ok (.iload 6, 2) := by decide +kernel
theorem dX12_coast_84 : decode cX12_coast 84 = .ok (.ifCond .eq 7, 3) := by decide +kernel
theorem dX12_coast_87 : decode cX12_coast 87 = .ok (.iconst (-1), 1) := by decide +kernel
theorem dX12_coast_88 : decode cX12_coast 88 = .ok (.goto 7, 3) := by decide +kernel
theorem dX12_coast_91 : decode cX12_coast 91 = .ok (.iload_n 3, 1) := by decide +kernel
theorem dX12_coast_92 : decode cX12_coast 92 = .ok (.bipush 10, 2) := by decide +kernel
theorem dX12_coast_94 : decode cX12_coast 94 = .ok (.idiv, 1) := by decide +kernel
theorem dX12_coast_95 : decode cX12_coast 95 = .ok (.putfield 660, 3) := by decide +kernel
theorem dX12_coast_98 : decode cX12_coast 98 = .ok (.aload_n 0, 1) := by decide +kernel
theorem dX12_coast_99 : decode cX12_coast 99 = .ok (.iload 6, 2) := by decide +kernel
theorem dX12_coast_101 : decode cX12_coast 101 = .ok (.ifCond .ne 18, 3) := by decide +kernel
theorem dX12_coast_104 : decode cX12_coast 104 = .ok (.aload_n 0, 1) := by decide +kernel
theorem dX12_coast_105 : decode cX12_coast 105 = .ok (.aload_n 0, 1) := by decide +kernel
theorem dX12_coast_106 : decode cX12_coast 106 = .ok (.getfield 660, 3) := by decide +kernel
theorem dX12_coast_109 : decode cX12_coast 109 = .ok (.invokevirtual 556, 3) := by decide +kernel
theorem dX12_coast_112 : decode cX12_coast 112 = .ok (.ifCond .lt 7, 3) := by decide +kernel
theorem dX12_coast_115 : decode cX12_coast 115 = .ok (.iconst 1, 1) := by decide +kernel
theorem dX12_coast_116 : decode cX12_coast 116 = .ok (.goto 4, 3) := by decide +kernel
theorem dX12_coast_119 : decode cX12_coast 119 = .ok (.iconst 0, 1) := by decide +kernel
theorem dX12_coast_120 : decode cX12_coast 120 = .ok (.putfield 656, 3) := by decide +kernel
theorem dX12_coast_123 : decode cX12_coast 123 = .ok (.iload 6, 2) := by decide +kernel
theorem dX12_coast_125 : decode cX12_coast 125 = .ok (.ifCond .ne 31, 3) := by decide +kernel
theorem dX12_coast_128 : decode cX12_coast 128 = .ok (.aload_n 0, 1) := by decide +kernel
theorem dX12_coast_129 : decode cX12_coast 129 = .ok (.getfield 656, 3) := by decide +kernel
theorem dX12_coast_132 : decode cX12_coast 132 = .ok (.ifCond .ne 24, 3) := by decide +kernel
theorem dX12_coast_135 : decode cX12_coast 135 = .ok (.iload 4, 2) := by decide +kernel
theorem dX12_coast_137 : decode cX12_coast 137 = .ok (.ifCond .eq 19, 3) := by decide +kernel
theorem dX12_coast_140 : decode cX12_coast 140 = .ok (.iload 4, 2) := by decide +kernel
theorem dX12_coast_142 : decode cX12_coast 142 = .ok (.invokestatic 663, 3) := by decide +kernel
theorem dX12_coast_145 : decode cX12_coast 145 = .ok (.iload_n 2, 1) := by decide +kernel
theorem dX12_coast_146 : decode cX12_coast 146 = .ok (.invokestatic 663, 3) := by decide +kernel
theorem dX12_coast_149 : decode cX12_coast 149 = .ok (.if_icmp .ne 7, 3) := by decide +kernel
theorem dX12_coast_152 : decode cX12_coast 152 = .ok (.iconst 1, 1) := by decide +kernel
theorem dX12_coast_153 : decode cX12_coast 153 = .ok (.goto 4, 3) := by decide +kernel
theorem dX12_coast_156 : decode cX12_coast 156 = .ok (.iconst 0, 1) := by decide +kernel
theorem dX12_coast_157 : decode cX12_coast 157 = .ok (.istore 5, 2) := by decide +kernel
theorem dX12_coast_159 : decode cX12_coast 159 = .ok (.goto (-138), 3) := by decide +kernel
theorem dX12_coast_162 : decode cX12_coast 162 = .ok (.return_, 1) := by decide +kernel
theorem dX12_coasting_0 : decode cX12_coasting 0 = .ok (.iload_n 1, 1) := by decide +kernel
theorem dX12_coasting_1 : decode cX12_coasting 1 = .ok (.aload_n 0, 1) := by decide +kernel
theorem dX12_coasting_2 : decode cX12_coasting 2 = .ok (.iload_n 2, 1) := by decide +kernel
theorem dX12_coasting_3 : decode cX12_coasting 3 = .ok (.invokevirtual 559, 3) := by decide +kernel
theorem dX12_coasting_6 : decode cX12_coasting 6 = .ok (.isub, 1) := by decide +kernel
theorem dX12_coasting_7 : decode cX12_coasting 7 = .ok (.istore_n 3, 1) := by decide +kernel
theorem dX12_coasting_8 : decode cX12_coasting 8 = .ok (.aload_n 0, 1) := by decide +kernel
theorem dX12_coasting_9 : decode cX12_coasting 9 = .ok (.getfield 36, 3) := by decide +kernel
theorem dX12_coasting_12 : decode cX12_coasting 12 = .ok (.aload_n 0, 1) := by decide +kernel
theorem dX12_coasting_13 : decode cX12_coasting 13 = .ok (.getfield 386, 3) := by decide +kernel
theorem dX12_coasting_16 : decode cX12_coasting 16 = .ok (.iaload, 1) := by decide +kernel
theorem dX12_coasting_17 : decode cX12_coasting 17 = .ok (.istore 4, 2) := by decide +kernel
theorem dX12_coasting_19 : decode cX12_coasting 19 = .ok (.iload_n 3, 1) := by decide +kernel
theorem dX12_coasting_20 : decode cX12_coasting 20 = .ok (.iload 4, 2) := by decide +kernel
theorem dX12_coasting_22 : decode cX12_coasting 22 = .ok (.if_icmp .le 10, 3) := by decide +kernel
theorem dX12_coasting_25 : decode cX12_coasting 25 = .ok (.iload_n 3, 1) := by decide +kernel
theorem dX12_coasting_26 : decode cX12_coasting 26 = .ok (.iload 4, 2) := by decide +kernel
theorem dX12_coasting_28 : decode cX12_coasting 28 = .ok (.isub, 1) := by decide +kernel
theorem dX12_coasting_29 : decode cX12_coasting 29 = .ok (.goto 18, 3) := by decide +kernel
theorem dX12_coasting_32 : decode cX12_coasting 32 = .ok (.iload_n 3, 1) := by decide +kernel
theorem dX12_coasting_33 : decode cX12_coasting 33 = .ok (.iload 4, 2) := by decide +kernel
theorem dX12_coasting_35 : decode cX12_coasting 35 = .ok (.ineg, 1) := by decide +kernel
theorem dX12_coasting_36 : decode cX12_coasting 36 = .ok (.if_icmp .ge 10, 3) := by decide +kernel
theorem dX12_coasting_39 : decode cX12_coasting 39 = .ok (.iload_n 3, 1) := by decide +kernel
theorem dX12_coasting_40 : decode cX12_coasting 40 = .ok (.iload 4, 2) := by decide +kernel
theorem dX12_coasting_42 : decode cX12_coasting 42 = .ok (.iadd, 1) := by decide +kernel
theorem dX12_coasting_43 : decode cX12_coasting 43 = .ok (.goto 4, 3) := by decide +kernel
theorem dX12_coasting_46 : decode cX12_coasting 46 = .ok (.iconst 0, 1) := by decide +kernel
theorem dX12_coasting_47 : decode cX12_coasting 47 = .ok (.ireturn, 1) := by decide +kernel
theorem dX12_coasts_0 : decode cX12_coasts 0 = .ok (.iload_n 1, 1) := by decide +kernel
theorem dX12_coasts_1 : decode cX12_coasts 1 = .ok (.invokestatic 647, 3) := by decide +kernel
theorem dX12_coasts_4 : decode cX12_coasts 4 = .ok (.ifCond .eq 23, 3) := by decide +kernel
theorem dX12_coasts_7 : decode cX12_coasts 7 = .ok (.iload_n 2, 1) := by decide +kernel
theorem dX12_coasts_8 : decode cX12_coasts 8 = .ok (.bipush (-60), 2) := by decide +kernel
theorem dX12_coasts_10 : decode cX12_coasts 10 = .ok (.bipush 60, 2) := by decide +kernel
theorem dX12_coasts_12 : decode cX12_coasts 12 = .ok (.invokestatic 503, 3) := by decide +kernel
theorem dX12_coasts_15 : decode cX12_coasts 15 = .ok (.ifCond .eq 12, 3) := by decide +kernel
theorem dX12_coasts_18 : decode cX12_coasts 18 = .ok (.iload_n 3, 1) := by decide +kernel
theorem dX12_coasts_19 : decode cX12_coasts 19 = .ok (.iconst 0, 1) := by decide +kernel
theorem dX12_coasts_20 : decode cX12_coasts 20 = .ok (.iconst 2, 1) := by decide +kernel
theorem dX12_coasts_21 : decode cX12_coasts 21 = .ok (.invokestatic 503, 3) := by decide +kernel
theorem dX12_coasts_24 : decode cX12_coasts 24 = .ok (.ifCond .ne 6, 3) := by decide +kernel
theorem dX12_coasts_27 : decode cX12_coasts 27 = .ok (.bipush (-2), 2) := by decide +kernel
theorem dX12_coasts_29 : decode cX12_coasts 29 = .ok (.ireturn, 1) := by decide +kernel
theorem dX12_coasts_30 : decode cX12_coasts 30 = .ok (.aload_n 0, 1) := by decide +kernel
theorem dX12_coasts_31 : decode cX12_coasts 31 = .ok (.iload_n 1, 1) := by decide +kernel
theorem dX12_coasts_32 : decode cX12_coasts 32 = .ok (.iload_n 2, 1) := by decide +kernel
theorem dX12_coasts_33 : decode cX12_coasts 33 = .ok (.invokevirtual 666, 3) := by decide +kernel
theorem dX12_coasts_36 : decode cX12_coasts 36 = .ok (.iload_n 3, 1) := by decide +kernel
theorem dX12_coasts_37 : decode cX12_coasts 37 = .ok (.ifCond .ne 10, 3) := by decide +kernel
theorem dX12_coasts_40 : decode cX12_coasts 40 = .ok (.aload_n 0, 1) := by decide +kernel
theorem dX12_coasts_41 : decode cX12_coasts 41 = .ok (.getfield 660, 3) := by decide +kernel
theorem dX12_coasts_44 : decode cX12_coasts 44 = .ok (.goto 27, 3) := by decide +kernel
theorem dX12_coasts_47 : decode cX12_coasts 47 = .ok (.iload_n 3, 1) := by decide +kernel
theorem dX12_coasts_48 : decode cX12_coasts 48 = .ok (.iconst 1, 1) := by decide +kernel
theorem dX12_coasts_49 : decode cX12_coasts 49 = .ok (.if_icmp .ne 18, 3) := by decide +kernel
theorem dX12_coasts_52 : decode cX12_coasts 52 = .ok (.aload_n 0, 1) := by decide +kernel
theorem dX12_coasts_53 : decode cX12_coasts 53 = .ok (.getfield 656, 3) := by decide +kernel
theorem dX12_coasts_56 : decode cX12_coasts 56 = .ok (.ifCond .eq 7, 3) := by decide +kernel
theorem dX12_coasts_59 : decode cX12_coasts 59 = .ok (.iconst 1, 1) := by decide +kernel
theorem dX12_coasts_60 : decode cX12_coasts 60 = .ok (.goto 11, 3) := by decide +kernel
theorem dX12_coasts_63 : decode cX12_coasts 63 = .ok (.iconst 0, 1) := by decide +kernel
theorem dX12_coasts_64 : decode cX12_coasts 64 = .ok (.goto 7, 3) := by decide +kernel
theorem dX12_coasts_67 : decode cX12_coasts 67 = .ok (.aload_n 0, 1) := by decide +kernel
theorem dX12_coasts_68 : decode cX12_coasts 68 = .ok (.getfield 653, 3) := by decide +kernel
theorem dX12_coasts_71 : decode cX12_coasts 71 = .ok (.ireturn, 1) := by decide +kernel
theorem dX12_comes_0 : decode cX12_comes 0 = .ok (.iconst 0, 1) := by decide +kernel
theorem dX12_comes_1 : decode cX12_comes 1 = .ok (.istore_n 3, 1) := by decide +kernel
theorem dX12_comes_2 : decode cX12_comes 2 = .ok (.aload_n 0, 1) := by decide +kernel
theorem dX12_comes_3 : decode cX12_comes 3 = .ok (.getfield 113, 3) := by decide +kernel
theorem dX12_comes_6 : decode cX12_comes 6 = .ok (.iload_n 1, 1) := by decide +kernel
theorem dX12_comes_7 : decode cX12_comes 7 = .ok (.iaload, 1) := by decide +kernel
theorem dX12_comes_8 : decode cX12_comes 8 = .ok (.istore 4, 2) := by decide +kernel
theorem dX12_comes_10 : decode cX12_comes 10 = .ok (.iload 4, 2) := by decide +kernel
theorem dX12_comes_12 : decode cX12_comes 12 = .ok (.aload_n 0, 1) := by decide +kernel
theorem dX12_comes_13 : decode cX12_comes 13 = .ok (.getfield 116, 3) := by decide +kernel
theorem dX12_comes_16 : decode cX12_comes 16 = .ok (.iload_n 1, 1) := by decide +kernel
theorem dX12_comes_17 : decode cX12_comes 17 = .ok (.iaload, 1) := by decide +kernel
theorem dX12_comes_18 : decode cX12_comes 18 = .ok (.if_icmp .ge 115, 3) := by decide +kernel
theorem dX12_comes_21 : decode cX12_comes 21 = .ok (.aload_n 0, 1) := by decide +kernel
theorem dX12_comes_22 : decode cX12_comes 22 = .ok (.getfield 122, 3) := by decide +kernel
theorem dX12_comes_25 : decode cX12_comes 25 = .ok (.iload 4, 2) := by decide +kernel
theorem dX12_comes_27 : decode cX12_comes 27 = .ok (.iaload, 1) := by decide +kernel
theorem dX12_comes_28 : decode cX12_comes 28 = .ok (.bipush 126, 2) := by decide +kernel
theorem dX12_comes_30 : decode cX12_comes 30 = .ok (.if_icmp .ne 30, 3) := by decide +kernel
theorem dX12_comes_33 : decode cX12_comes 33 = .ok (.aload_n 0, 1) := by decide +kernel
theorem dX12_comes_34 : decode cX12_comes 34 = .ok (.getfield 134, 3) := by decide +kernel
theorem dX12_comes_37 : decode cX12_comes 37 = .ok (.iload_n 3, 1) := by decide +kernel
theorem dX12_comes_38 : decode cX12_comes 38 = .ok (.iconst 1, 1) := by decide +kernel
theorem dX12_comes_39 : decode cX12_comes 39 = .ok (.isub, 1) := by decide +kernel
theorem dX12_comes_40 : decode cX12_comes 40 = .ok (.aload_n 0, 1) := by decide +kernel
theorem dX12_comes_41 : decode cX12_comes 41 = .ok (.getfield 134, 3) := by decide +kernel
theorem dX12_comes_44 : decode cX12_comes 44 = .ok (.iload_n 3, 1) := by decide +kernel
theorem dX12_comes_45 : decode cX12_comes 45 = .ok (.iconst 1, 1) := by decide +kernel
theorem dX12_comes_46 : decode cX12_comes 46 = .ok (.isub, 1) := by decide +kernel
theorem dX12_comes_47 : decode cX12_comes 47 = .ok (.iaload, 1) := by decide +kernel
theorem dX12_comes_48 : decode cX12_comes 48 = .ok (.ifCond .ne 7, 3) := by decide +kernel
theorem dX12_comes_51 : decode cX12_comes 51 = .ok (.iconst 1, 1) := by decide +kernel
theorem dX12_comes_52 : decode cX12_comes 52 = .ok (.goto 4, 3) := by decide +kernel
theorem dX12_comes_55 : decode cX12_comes 55 = .ok (.iconst 0, 1) := by decide +kernel
theorem dX12_comes_56 : decode cX12_comes 56 = .ok (.iastore, 1) := by decide +kernel
theorem dX12_comes_57 : decode cX12_comes 57 = .ok (.goto 70, 3) := by decide +kernel
theorem dX12_comes_60 : decode cX12_comes 60 = .ok (.aload_n 0, 1) := by decide +kernel
theorem dX12_comes_61 : decode cX12_comes 61 = .ok (.getfield 122, 3) := by decide +kernel
theorem dX12_comes_64 : decode cX12_comes 64 = .ok (.iload 4, 2) := by decide +kernel
theorem dX12_comes_66 : decode cX12_comes 66 = .ok (.iaload, 1) := by decide +kernel
theorem dX12_comes_67 : decode cX12_comes 67 = .ok (.invokestatic 339, 3) := by decide +kernel
theorem dX12_comes_70 : decode cX12_comes 70 = .ok (.ifCond .eq 22, 3) := by decide +kernel
theorem dX12_comes_73 : decode cX12_comes 73 = .ok (.aload_n 0, 1) := by decide +kernel
theorem dX12_comes_74 : decode cX12_comes 74 = .ok (.getfield 134, 3) := by decide +kernel
theorem dX12_comes_77 : decode cX12_comes 77 = .ok (.iload_n 3, 1) := by decide +kernel
theorem dX12_comes_78 : decode cX12_comes 78 = .ok (.aload_n 0, 1) := by decide +kernel
theorem dX12_comes_79 : decode cX12_comes 79 = .ok (.iload 4, 2) := by decide +kernel
theorem dX12_comes_81 : decode cX12_comes 81 = .ok (.iload_n 2, 1) := by decide +kernel
theorem dX12_comes_82 : decode cX12_comes 82 = .ok (.invokevirtual 493, 3) := by decide +kernel
theorem dX12_comes_85 : decode cX12_comes 85 = .ok (.iastore, 1) := by decide +kernel
theorem dX12_comes_86 : decode cX12_comes 86 = .ok (.iinc 3 1, 3) := by decide +kernel
theorem dX12_comes_89 : decode cX12_comes 89 = .ok (.goto 38, 3) := by decide +kernel
theorem dX12_comes_92 : decode cX12_comes 92 = .ok (.iinc 3 (-1), 3) := by decide +kernel
theorem dX12_comes_95 : decode cX12_comes 95 = .ok (.aload_n 0, 1) := by decide +kernel
theorem dX12_comes_96 : decode cX12_comes 96 = .ok (.getfield 134, 3) := by decide +kernel
theorem dX12_comes_99 : decode cX12_comes 99 = .ok (.iload_n 3, 1) := by decide +kernel
theorem dX12_comes_100 : decode cX12_comes 100 = .ok (.iconst 1, 1) := by decide +kernel
theorem dX12_comes_101 : decode cX12_comes 101 = .ok (.isub, 1) := by decide +kernel
theorem dX12_comes_102 : decode cX12_comes 102 = .ok (.aload_n 0, 1) := by decide +kernel
theorem dX12_comes_103 : decode cX12_comes 103 = .ok (.getfield 122, 3) := by decide +kernel
theorem dX12_comes_106 : decode cX12_comes 106 = .ok (.iload 4, 2) := by decide +kernel
theorem dX12_comes_108 : decode cX12_comes 108 = .ok (.iaload, 1) := by decide +kernel
theorem dX12_comes_109 : decode cX12_comes 109 = .ok (.aload_n 0, 1) := by decide +kernel
theorem dX12_comes_110 : decode cX12_comes 110 = .ok (.getfield 134, 3) := by decide +kernel
theorem dX12_comes_113 : decode cX12_comes 113 = .ok (.iload_n 3, 1) := by decide +kernel
theorem dX12_comes_114 : decode cX12_comes 114 = .ok (.iconst 1, 1) := by decide +kernel
theorem dX12_comes_115 : decode cX12_comes 115 = .ok (.isub, 1) := by decide +kernel
theorem dX12_comes_116 : decode cX12_comes 116 = .ok (.iaload, 1) := by decide +kernel
theorem dX12_comes_117 : decode cX12_comes 117 = .ok (.aload_n 0, 1) := by decide +kernel
theorem dX12_comes_118 : decode cX12_comes 118 = .ok (.getfield 134, 3) := by decide +kernel
theorem dX12_comes_121 : decode cX12_comes 121 = .ok (.iload_n 3, 1) := by decide +kernel
theorem dX12_comes_122 : decode cX12_comes 122 = .ok (.iaload, 1) := by decide +kernel
theorem dX12_comes_123 : decode cX12_comes 123 = .ok (.invokestatic 496, 3) := by decide +kernel
theorem dX12_comes_126 : decode cX12_comes 126 = .ok (.iastore, 1) := by decide +kernel
theorem dX12_comes_127 : decode cX12_comes 127 = .ok (.iinc 4 1, 3) := by decide +kernel
theorem dX12_comes_130 : decode cX12_comes 130 = .ok (.goto (-120), 3) := by decide +kernel
theorem dX12_comes_133 : decode cX12_comes 133 = .ok (.aload_n 0, 1) := by decide +kernel
theorem dX12_comes_134 : decode cX12_comes 134 = .ok (.getfield 134, 3) := by decide +kernel
theorem dX12_comes_137 : decode cX12_comes 137 = .ok (.iconst 0, 1) := by decide +kernel
theorem dX12_comes_138 : decode cX12_comes 138 = .ok (.iaload, 1) := by decide +kernel
theorem dX12_comes_139 : decode cX12_comes 139 = .ok (.ireturn, 1) := by decide +kernel
theorem dX12_comesBack_0 : decode cX12_comesBack 0 = .ok (.aload_n 0, 1) := by decide +kernel
theorem dX12_comesBack_1 : decode cX12_comesBack 1 = .ok (.getfield 137, 3) := by decide +kernel
theorem dX12_comesBack_4 : decode cX12_comesBack 4 = .ok (.iload_n 1, 1) := by decide +kernel
theorem dX12_comesBack_5 : decode cX12_comesBack 5 = .ok (.iconst 0, 1) := by decide +kernel
theorem dX12_comesBack_6 : decode cX12_comesBack 6 = .ok (.iastore, 1) := by decide +kernel
theorem dX12_comesBack_7 : decode cX12_comesBack 7 = .ok (.aload_n 0, 1) := by decide +kernel
theorem dX12_comesBack_8 : decode cX12_comesBack 8 = .ok (.getfield 140, 3) := by decide +kernel
theorem dX12_comesBack_11 : decode cX12_comesBack 11 = .ok (.iload_n 1, 1) := by decide +kernel
theorem dX12_comesBack_12 : decode cX12_comesBack 12 = .ok (.iconst 0, 1) := by decide +kernel
theorem dX12_comesBack_13 : decode cX12_comesBack 13 = .ok (.iastore, 1) := by decide +kernel
theorem dX12_comesBack_14 : decode cX12_comesBack 14 = .ok (.aload_n 0, 1) := by decide +kernel
theorem dX12_comesBack_15 : decode cX12_comesBack 15 = .ok (.getfield 143, 3) := by decide +kernel
theorem dX12_comesBack_18 : decode cX12_comesBack 18 = .ok (.iload_n 1, 1) := by decide +kernel
theorem dX12_comesBack_19 : decode cX12_comesBack 19 = .ok (.iconst 0, 1) := by decide +kernel
theorem dX12_comesBack_20 : decode cX12_comesBack 20 = .ok (.iastore, 1) := by decide +kernel
theorem dX12_comesBack_21 : decode cX12_comesBack 21 = .ok (.aload_n 0, 1) := by decide +kernel
theorem dX12_comesBack_22 : decode cX12_comesBack 22 = .ok (.getfield 149, 3) := by decide +kernel
theorem dX12_comesBack_25 : decode cX12_comesBack 25 = .ok (.iload_n 1, 1) := by decide +kernel
theorem dX12_comesBack_26 : decode cX12_comesBack 26 = .ok (.iconst (-1), 1) := by decide +kernel
theorem dX12_comesBack_27 : decode cX12_comesBack 27 = .ok (.iastore, 1) := by decide +kernel
theorem dX12_comesBack_28 : decode cX12_comesBack 28 = .ok (.aload_n 0, 1) := by decide +kernel
theorem dX12_comesBack_29 : decode cX12_comesBack 29 = .ok (.getfield 155, 3) := by decide +kernel
theorem dX12_comesBack_32 : decode cX12_comesBack 32 = .ok (.iload_n 1, 1) := by decide +kernel
theorem dX12_comesBack_33 : decode cX12_comesBack 33 = .ok (.iconst 0, 1) := by decide +kernel
theorem dX12_comesBack_34 : decode cX12_comesBack 34 = .ok (.bastore, 1) := by decide +kernel
theorem dX12_comesBack_35 : decode cX12_comesBack 35 = .ok (.aload_n 0, 1) := by decide +kernel
theorem dX12_comesBack_36 : decode cX12_comesBack 36 = .ok (.getfield 158, 3) := by decide +kernel
theorem dX12_comesBack_39 : decode cX12_comesBack 39 = .ok (.iload_n 1, 1) := by decide +kernel
theorem dX12_comesBack_40 : decode cX12_comesBack 40 = .ok (.iconst 1, 1) := by decide +kernel
theorem dX12_comesBack_41 : decode cX12_comesBack 41 = .ok (.bastore, 1) := by decide +kernel
theorem dX12_comesBack_42 : decode cX12_comesBack 42 = .ok (.aload_n 0, 1) := by decide +kernel
theorem dX12_comesBack_43 : decode cX12_comesBack 43 = .ok (.getfield 167, 3) := by decide +kernel
theorem dX12_comesBack_46 : decode cX12_comesBack 46 = .ok (.iload_n 1, 1) := by decide +kernel
theorem dX12_comesBack_47 : decode cX12_comesBack 47 = .ok (.dup2, 1) := by decide +kernel
theorem dX12_comesBack_48 : decode cX12_comesBack 48 = .ok (.iaload, 1) := by decide +kernel
theorem dX12_comesBack_49 : decode cX12_comesBack 49 = .ok (.iconst 1, 1) := by decide +kernel
theorem dX12_comesBack_50 : decode cX12_comesBack 50 = .ok (.iadd, 1) := by decide +kernel
theorem dX12_comesBack_51 : decode cX12_comesBack 51 = .ok (.iastore, 1) := by decide +kernel
theorem dX12_comesBack_52 : decode cX12_comesBack 52 = .ok (.aload_n 0, 1) := by decide +kernel
theorem dX12_comesBack_53 : decode cX12_comesBack 53 = .ok (.dup, 1) := by decide +kernel
theorem dX12_comesBack_54 : decode cX12_comesBack 54 = .ok (.getfield 537, 3) := by decide +kernel
theorem dX12_comesBack_57 : decode cX12_comesBack 57 = .ok (.iconst 1, 1) := by decide +kernel
theorem dX12_comesBack_58 : decode cX12_comesBack 58 = .ok (.iadd, 1) := by decide +kernel
theorem dX12_comesBack_59 : decode cX12_comesBack 59 = .ok (.putfield 537, 3) := by decide +kernel
theorem dX12_comesBack_62 : decode cX12_comesBack 62 = .ok (.aload_n 0, 1) := by decide +kernel
theorem dX12_comesBack_63 : decode cX12_comesBack 63 = .ok (.iconst (-1), 1) := by decide +kernel
theorem dX12_comesBack_64 : decode cX12_comesBack 64 = .ok (.putfield 540, 3) := by decide +kernel
theorem dX12_comesBack_67 : decode cX12_comesBack 67 = .ok (.aload_n 0, 1) := by decide +kernel
theorem dX12_comesBack_68 : decode cX12_comesBack 68 = .ok (.bipush 8, 2) := by decide +kernel
theorem dX12_comesBack_70 : decode cX12_comesBack 70 = .ok (.iload_n 1, 1) := by decide +kernel
theorem dX12_comesBack_71 : decode cX12_comesBack 71 = .ok (.iconst (-1), 1) := by decide +kernel
theorem dX12_comesBack_72 : decode cX12_comesBack 72 = .ok (.iconst (-1), 1) := by decide +kernel
theorem dX12_comesBack_73 : decode cX12_comesBack 73 = .ok (.invokevirtual 549, 3) := by decide +kernel
theorem dX12_comesBack_76 : decode cX12_comesBack 76 = .ok (.istore_n 2, 1) := by decide +kernel
theorem dX12_comesBack_77 : decode cX12_comesBack 77 = .ok (.return_, 1) := by decide +kernel
theorem dX12_cost_0 : decode cX12_cost 0 = .ok (.iload_n 1, 1) := by decide +kernel
theorem dX12_cost_1 : decode cX12_cost 1 = .ok (.invokestatic 647, 3) := by decide +kernel
theorem dX12_cost_4 : decode cX12_cost 4 = .ok (.ifCond .eq 23, 3) := by decide +kernel
theorem dX12_cost_7 : decode cX12_cost 7 = .ok (.aload_n 0, 1) := by decide +kernel
theorem dX12_cost_8 : decode cX12_cost 8 = .ok (.iconst 2, 1) := by decide +kernel
theorem dX12_cost_9 : decode cX12_cost 9 = .ok (.iload_n 1, 1) := by decide +kernel
theorem dX12_cost_10 : decode cX12_cost 10 = .ok (.invokevirtual 596, 3) := by decide +kernel
theorem dX12_cost_13 : decode cX12_cost 13 = .ok (.ifCond .eq 14, 3) := by decide +kernel
theorem dX12_cost_16 : decode cX12_cost 16 = .ok (.iload_n 2, 1) := by decide +kernel
theorem dX12_cost_17 : decode cX12_cost 17 = .ok (.iconst 1, 1) := by decide +kernel
theorem dX12_cost_18 : decode cX12_cost 18 = .ok (.sipush 300, 3) := by decide +kernel
theorem dX12_cost_21 : decode cX12_cost 21 = .ok (.invokestatic 503, 3) := by decide +kernel
theorem dX12_cost_24 : decode cX12_cost 24 = .ok (.ifCond .ne 7, 3) := by decide +kernel
theorem dX12_cost_27 : decode cX12_cost 27 = .ok (.ldc_w 637, 3) := by decide +kernel
theorem dX12_cost_30 : decode cX12_cost 30 = .ok (.ireturn, 1) := by decide +kernel
theorem dX12_cost_31 : decode cX12_cost 31 = .ok (.aload_n 0, 1) := by decide +kernel
theorem dX12_cost_32 : decode cX12_cost 32 = .ok (.iload_n 2, 1) := by decide +kernel
theorem dX12_cost_33 : decode cX12_cost 33 = .ok (.iconst 0, 1) := by decide +kernel
theorem dX12_cost_34 : decode cX12_cost 34 = .ok (.invokevirtual 650, 3) := by decide +kernel
theorem dX12_cost_37 : decode cX12_cost 37 = .ok (.istore_n 3, 1) := by decide +kernel
theorem dX12_cost_38 : decode cX12_cost 38 = .ok (.sipush 240, 3) := by decide +kernel
theorem dX12_cost_41 : decode cX12_cost 41 = .ok (.aload_n 0, 1) := by decide +kernel
theorem dX12_cost_42 : decode cX12_cost 42 = .ok (.getfield 386, 3) := by decide +kernel
theorem dX12_cost_45 : decode cX12_cost 45 = .ok (.imul, 1) := by decide +kernel
theorem dX12_cost_46 : decode cX12_cost 46 = .ok (.bipush 120, 2) := by decide +kernel
theorem dX12_cost_48 : decode cX12_cost 48 = .ok (.iadd, 1) := by decide +kernel
theorem dX12_cost_49 : decode cX12_cost 49 = .ok (.iload_n 1, 1) := by decide +kernel
theorem dX12_cost_50 : decode cX12_cost 50 = .ok (.iadd, 1) := by decide +kernel
theorem dX12_cost_51 : decode cX12_cost 51 = .ok (.istore 4, 2) := by decide +kernel
theorem dX12_cost_53 : decode cX12_cost 53 = .ok (.aload_n 0, 1) := by decide +kernel
theorem dX12_cost_54 : decode cX12_cost 54 = .ok (.getfield 49, 3) := by decide +kernel
theorem dX12_cost_57 : decode cX12_cost 57 = .ok (.iload 4, 2) := by decide +kernel
theorem dX12_cost_59 : decode cX12_cost 59 = .ok (.iconst 0, 1) := by decide +kernel
theorem dX12_cost_60 : decode cX12_cost 60 = .ok (.bastore, 1) := by decide +kernel
theorem dX12_cost_61 : decode cX12_cost 61 = .ok (.aload_n 0, 1) := by decide +kernel
theorem dX12_cost_62 : decode cX12_cost 62 = .ok (.iload_n 2, 1) := by decide +kernel
theorem dX12_cost_63 : decode cX12_cost 63 = .ok (.iconst 0, 1) := by decide +kernel
theorem dX12_cost_64 : decode cX12_cost 64 = .ok (.invokevirtual 650, 3) := by decide +kernel
theorem dX12_cost_67 : decode cX12_cost 67 = .ok (.istore 5, 2) := by decide +kernel
theorem dX12_cost_69 : decode cX12_cost 69 = .ok (.aload_n 0, 1) := by decide +kernel
theorem dX12_cost_70 : decode cX12_cost 70 = .ok (.getfield 49, 3) := by decide +kernel
theorem dX12_cost_73 : decode cX12_cost 73 = .ok (.iload 4, 2) := by decide +kernel
theorem dX12_cost_75 : decode cX12_cost 75 = .ok (.iconst 1, 1) := by decide +kernel
theorem dX12_cost_76 : decode cX12_cost 76 = .ok (.bastore, 1) := by decide +kernel
theorem dX12_cost_77 : decode cX12_cost 77 = .ok (.iload_n 3, 1) := by decide +kernel
theorem dX12_cost_78 : decode cX12_cost 78 = .ok (.iload 5, 2) := by decide +kernel
theorem dX12_cost_80 : decode cX12_cost 80 = .ok (.isub, 1) := by decide +kernel
theorem dX12_cost_81 : decode cX12_cost 81 = .ok (.ireturn, 1) := by decide +kernel
theorem dX12_count_0 : decode cX12_count 0 = .ok (.iload_n 1, 1) := by decide +kernel
theorem dX12_count_1 : decode cX12_count 1 = .ok (.tableswitch 87 0 7 #[47, 52, 57, 62, 67, 72, 77, 82], 47) := by decide +kernel
theorem dX12_count_48 : decode cX12_count 48 = .ok (.aload_n 0, 1) := by decide +kernel
theorem dX12_count_49 : decode cX12_count 49 = .ok (.getfield 513, 3) := by decide +kernel
theorem dX12_count_52 : decode cX12_count 52 = .ok (.ireturn, 1) := by decide +kernel
theorem dX12_count_53 : decode cX12_count 53 = .ok (.aload_n 0, 1) := by decide +kernel
theorem dX12_count_54 : decode cX12_count 54 = .ok (.getfield 516, 3) := by decide +kernel
theorem dX12_count_57 : decode cX12_count 57 = .ok (.ireturn, 1) := by decide +kernel
theorem dX12_count_58 : decode cX12_count 58 = .ok (.aload_n 0, 1) := by decide +kernel
theorem dX12_count_59 : decode cX12_count 59 = .ok (.getfield 519, 3) := by decide +kernel
theorem dX12_count_62 : decode cX12_count 62 = .ok (.ireturn, 1) := by decide +kernel
theorem dX12_count_63 : decode cX12_count 63 = .ok (.aload_n 0, 1) := by decide +kernel
theorem dX12_count_64 : decode cX12_count 64 = .ok (.getfield 522, 3) := by decide +kernel
