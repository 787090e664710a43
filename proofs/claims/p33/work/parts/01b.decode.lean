theorem dX4_advance_85 : decode cX4_advance 85 = .ok (.aload_n 0, 1) := by decide +kernel
theorem dX4_advance_86 : decode cX4_advance 86 = .ok (.getfield 28, 3) := by decide +kernel
theorem dX4_advance_89 : decode cX4_advance 89 = .ok (.invokevirtual 43, 3) := by decide +kernel
theorem dX4_advance_92 : decode cX4_advance 92 = .ok (.ifCond .eq 33, 3) := by decide +kernel
theorem dX4_advance_95 : decode cX4_advance 95 = .ok (.aload_n 0, 1) := by decide +kernel
theorem dX4_advance_96 : decode cX4_advance 96 = .ok (.invokevirtual 47, 3) := by decide +kernel
theorem dX4_advance_99 : decode cX4_advance 99 = .ok (.aload_n 0, 1) := by decide +kernel
theorem dX4_advance_100 : decode cX4_advance 100 = .ok (.aload_n 0, 1) := by decide +kernel
theorem dX4_advance_101 : decode cX4_advance 101 = .ok (.getfield 40, 3) := by decide +kernel
theorem dX4_advance_104 : decode cX4_advance 104 = .ok (.iconst 2, 1) := by decide +kernel
theorem dX4_advance_105 : decode cX4_advance 105 = .ok (.if_icmp .ne 13, 3) := by decide +kernel
theorem dX4_advance_108 : decode cX4_advance 108 = .ok (.aload_n 0, 1) := by decide +kernel
theorem dX4_advance_109 : decode cX4_advance 109 = .ok (.getfield 50, 3) := by decide +kernel
theorem dX4_advance_112 : decode cX4_advance 112 = .ok (.invokestatic 54, 3) := by decide +kernel
theorem dX4_advance_115 : decode cX4_advance 115 = .ok (.goto 4, 3) := by decide +kernel
theorem dX4_advance_118 : decode cX4_advance 118 = .ok (.iconst (-1), 1) := by decide +kernel
theorem dX4_advance_119 : decode cX4_advance 119 = .ok (.putfield 37, 3) := by decide +kernel
theorem dX4_advance_122 : decode cX4_advance 122 = .ok (.goto 70, 3) := by decide +kernel
theorem dX4_advance_125 : decode cX4_advance 125 = .ok (.aload_n 0, 1) := by decide +kernel
theorem dX4_advance_126 : decode cX4_advance 126 = .ok (.aload_n 0, 1) := by decide +kernel
theorem dX4_advance_127 : decode cX4_advance 127 = .ok (.getfield 28, 3) := by decide +kernel
theorem dX4_advance_130 : decode cX4_advance 130 = .ok (.invokevirtual 58, 3) := by decide +kernel
theorem dX4_advance_133 : decode cX4_advance 133 = .ok (.ifCond .eq 10, 3) := by decide +kernel
theorem dX4_advance_136 : decode cX4_advance 136 = .ok (.aload_n 0, 1) := by decide +kernel
theorem dX4_advance_137 : decode cX4_advance 137 = .ok (.invokevirtual 61, 3) := by decide +kernel
theorem dX4_advance_140 : decode cX4_advance 140 = .ok (.goto 52, 3) := by decide +kernel
theorem dX4_advance_143 : decode cX4_advance 143 = .ok (.aload_n 0, 1) := by decide +kernel
theorem dX4_advance_144 : decode cX4_advance 144 = .ok (.aload_n 0, 1) := by decide +kernel
theorem dX4_advance_145 : decode cX4_advance 145 = .ok (.getfield 9, 3) := by decide +kernel
theorem dX4_advance_148 : decode cX4_advance 148 = .ok (.aload_n 0, 1) := by decide +kernel
theorem dX4_advance_149 : decode cX4_advance 149 = .ok (.getfield 28, 3) := by decide +kernel
theorem dX4_advance_152 : decode cX4_advance 152 = .ok (.baload, 1) := by decide +kernel
theorem dX4_advance_153 : decode cX4_advance 153 = .ok (.sipush 255, 3) := by decide +kernel
theorem dX4_advance_156 : decode cX4_advance 156 = .ok (.iand, 1) := by decide +kernel
theorem dX4_advance_157 : decode cX4_advance 157 = .ok (.putfield 64, 3) := by decide +kernel
theorem dX4_advance_160 : decode cX4_advance 160 = .ok (.aload_n 0, 1) := by decide +kernel
theorem dX4_advance_163 : decode cX4_advance 163 = .ok (.aload_n 0, 1) := by decide +kernel
theorem dX4_advance_164 : decode cX4_advance 164 = .ok (.getfield 64, 3) := by decide +kernel
theorem dX4_advance_167 : decode cX4_advance 167 = .ok (.i2c, 1) := by decide +kernel
theorem dX4_advance_171 : decode cX4_advance 171 = .ok (.ifCond .lt 7, 3) := by decide +kernel
theorem dX4_advance_174 : decode cX4_advance 174 = .ok (.iconst 4, 1) := by decide +kernel
theorem dX4_advance_175 : decode cX4_advance 175 = .ok (.goto 4, 3) := by decide +kernel
theorem dX4_advance_178 : decode cX4_advance 178 = .ok (.iconst 1, 1) := by decide +kernel
theorem dX4_advance_179 : decode cX4_advance 179 = .ok (.putfield 40, 3) := by decide +kernel
theorem dX4_advance_182 : decode cX4_advance 182 = .ok (.aload_n 0, 1) := by decide +kernel
theorem dX4_advance_183 : decode cX4_advance 183 = .ok (.dup, 1) := by decide +kernel
theorem dX4_advance_184 : decode cX4_advance 184 = .ok (.getfield 28, 3) := by decide +kernel
theorem dX4_advance_187 : decode cX4_advance 187 = .ok (.iconst 1, 1) := by decide +kernel
theorem dX4_advance_188 : decode cX4_advance 188 = .ok (.iadd, 1) := by decide +kernel
theorem dX4_advance_189 : decode cX4_advance 189 = .ok (.putfield 28, 3) := by decide +kernel
theorem dX4_advance_192 : decode cX4_advance 192 = .ok (.return_, 1) := by decide +kernel
theorem dX4_isDigit_0 : decode cX4_isDigit 0 = .ok (.iload_n 1, 1) := by decide +kernel
theorem dX4_isDigit_1 : decode cX4_isDigit 1 = .ok (.aload_n 0, 1) := by decide +kernel
theorem dX4_isDigit_2 : decode cX4_isDigit 2 = .ok (.getfield 24, 3) := by decide +kernel
theorem dX4_isDigit_5 : decode cX4_isDigit 5 = .ok (.if_icmp .ge 29, 3) := by decide +kernel
theorem dX4_isDigit_8 : decode cX4_isDigit 8 = .ok (.aload_n 0, 1) := by decide +kernel
theorem dX4_isDigit_9 : decode cX4_isDigit 9 = .ok (.getfield 9, 3) := by decide +kernel
theorem dX4_isDigit_12 : decode cX4_isDigit 12 = .ok (.iload_n 1, 1) := by decide +kernel
theorem dX4_isDigit_13 : decode cX4_isDigit 13 = .ok (.baload, 1) := by decide +kernel
theorem dX4_isDigit_14 : decode cX4_isDigit 14 = .ok (.bipush 48, 2) := by decide +kernel
theorem dX4_isDigit_16 : decode cX4_isDigit 16 = .ok (.if_icmp .lt 18, 3) := by decide +kernel
theorem dX4_isDigit_19 : decode cX4_isDigit 19 = .ok (.aload_n 0, 1) := by decide +kernel
theorem dX4_isDigit_20 : decode cX4_isDigit 20 = .ok (.getfield 9, 3) := by decide +kernel
theorem dX4_isDigit_23 : decode cX4_isDigit 23 = .ok (.iload_n 1, 1) := by decide +kernel
theorem dX4_isDigit_24 : decode cX4_isDigit 24 = .ok (.baload, 1) := by decide +kernel
theorem dX4_isDigit_25 : decode cX4_isDigit 25 = .ok (.bipush 57, 2) := by decide +kernel
theorem dX4_isDigit_27 : decode cX4_isDigit 27 = .ok (.if_icmp .gt 7, 3) := by decide +kernel
theorem dX4_isDigit_30 : decode cX4_isDigit 30 = .ok (.iconst 1, 1) := by decide +kernel
theorem dX4_isDigit_31 : decode cX4_isDigit 31 = .ok (.goto 4, 3) := by decide +kernel
theorem dX4_isDigit_34 : decode cX4_isDigit 34 = .ok (.iconst 0, 1) := by decide +kernel
theorem dX4_isDigit_35 : decode cX4_isDigit 35 = .ok (.ireturn, 1) := by decide +kernel
theorem dX4_isLetter_0 : decode cX4_isLetter 0 = .ok (.iload_n 1, 1) := by decide +kernel
theorem dX4_isLetter_1 : decode cX4_isLetter 1 = .ok (.aload_n 0, 1) := by decide +kernel
theorem dX4_isLetter_2 : decode cX4_isLetter 2 = .ok (.getfield 24, 3) := by decide +kernel
theorem dX4_isLetter_5 : decode cX4_isLetter 5 = .ok (.if_icmp .ge 29, 3) := by decide +kernel
theorem dX4_isLetter_8 : decode cX4_isLetter 8 = .ok (.aload_n 0, 1) := by decide +kernel
theorem dX4_isLetter_9 : decode cX4_isLetter 9 = .ok (.getfield 9, 3) := by decide +kernel
theorem dX4_isLetter_12 : decode cX4_isLetter 12 = .ok (.iload_n 1, 1) := by decide +kernel
theorem dX4_isLetter_13 : decode cX4_isLetter 13 = .ok (.baload, 1) := by decide +kernel
theorem dX4_isLetter_14 : decode cX4_isLetter 14 = .ok (.bipush 97, 2) := by decide +kernel
theorem dX4_isLetter_16 : decode cX4_isLetter 16 = .ok (.if_icmp .lt 18, 3) := by decide +kernel
theorem dX4_isLetter_19 : decode cX4_isLetter 19 = .ok (.aload_n 0, 1) := by decide +kernel
theorem dX4_isLetter_20 : decode cX4_isLetter 20 = .ok (.getfield 9, 3) := by decide +kernel
theorem dX4_isLetter_23 : decode cX4_isLetter 23 = .ok (.iload_n 1, 1) := by decide +kernel
theorem dX4_isLetter_24 : decode cX4_isLetter 24 = .ok (.baload, 1) := by decide +kernel
theorem dX4_isLetter_25 : decode cX4_isLetter 25 = .ok (.bipush 122, 2) := by decide +kernel
theorem dX4_isLetter_27 : decode cX4_isLetter 27 = .ok (.if_icmp .gt 7, 3) := by decide +kernel
theorem dX4_isLetter_30 : decode cX4_isLetter 30 = .ok (.iconst 1, 1) := by decide +kernel
theorem dX4_isLetter_31 : decode cX4_isLetter 31 = .ok (.goto 4, 3) := by decide +kernel
theorem dX4_isLetter_34 : decode cX4_isLetter 34 = .ok (.iconst 0, 1) := by decide +kernel
theorem dX4_isLetter_35 : decode cX4_isLetter 35 = .ok (.ireturn, 1) := by decide +kernel
theorem dX4_open_0 : decode cX4_open 0 = .ok (.aload_n 0, 1) := by decide +kernel
theorem dX4_open_1 : decode cX4_open 1 = .ok (.aload_n 1, 1) := by decide +kernel
theorem dX4_open_2 : decode cX4_open 2 = .ok (.putfield 9, 3) := by decide +kernel
theorem dX4_open_5 : decode cX4_open 5 = .ok (.aload_n 0, 1) := by decide +kernel
theorem dX4_open_6 : decode cX4_open 6 = .ok (.iconst 0, 1) := by decide +kernel
theorem dX4_open_7 : decode cX4_open 7 = .ok (.iload_n 2, 1) := by decide +kernel
theorem dX4_open_8 : decode cX4_open 8 = .ok (.aload_n 0, 1) := by decide +kernel
theorem dX4_open_9 : decode cX4_open 9 = .ok (.getfield 9, 3) := by decide +kernel
theorem dX4_open_12 : decode cX4_open 12 = .ok (.arraylength, 1) := by decide +kernel
theorem dX4_open_13 : decode cX4_open 13 = .ok (.invokestatic 15, 3) := by decide +kernel
theorem dX4_open_16 : decode cX4_open 16 = .ok (.invokestatic 21, 3) := by decide +kernel
theorem dX4_open_19 : decode cX4_open 19 = .ok (.putfield 24, 3) := by decide +kernel
theorem dX4_open_22 : decode cX4_open 22 = .ok (.aload_n 0, 1) := by decide +kernel
theorem dX4_open_23 : decode cX4_open 23 = .ok (.iconst 0, 1) := by decide +kernel
theorem dX4_open_24 : decode cX4_open 24 = .ok (.putfield 28, 3) := by decide +kernel
theorem dX4_open_27 : decode cX4_open 27 = .ok (.aload_n 0, 1) := by decide +kernel
theorem dX4_open_28 : decode cX4_open 28 = .ok (.invokevirtual 31, 3) := by decide +kernel
theorem dX4_open_31 : decode cX4_open 31 = .ok (.return_, 1) := by decide +kernel
theorem dX4_readNumber_0 : decode cX4_readNumber 0 = .ok (.aload_n 0, 1) := by decide +kernel
theorem dX4_readNumber_1 : decode cX4_readNumber 1 = .ok (.iconst 0, 1) := by decide +kernel
theorem dX4_readNumber_2 : decode cX4_readNumber 2 = .ok (.putfield 64, 3) := by decide +kernel
theorem dX4_readNumber_5 : decode cX4_readNumber 5 = .ok (.aload_n 0, 1) := by decide +kernel
theorem dX4_readNumber_6 : decode cX4_readNumber 6 = .ok (.getfield 28, 3) := by decide +kernel
theorem dX4_readNumber_9 : decode cX4_readNumber 9 = .ok (.aload_n 0, 1) := by decide +kernel
theorem dX4_readNumber_10 : decode cX4_readNumber 10 = .ok (.getfield 24, 3) := by decide +kernel
theorem dX4_readNumber_13 : decode cX4_readNumber 13 = .ok (.if_icmp .ge 51, 3) := by decide +kernel
theorem dX4_readNumber_16 : decode cX4_readNumber 16 = .ok (.aload_n 0, 1) := by decide +kernel
theorem dX4_readNumber_17 : decode cX4_readNumber 17 = .ok (.aload_n 0, 1) := by decide +kernel
theorem dX4_readNumber_18 : decode cX4_readNumber 18 = .ok (.getfield 28, 3) := by decide +kernel
theorem dX4_readNumber_21 : decode cX4_readNumber 21 = .ok (.invokevirtual 58, 3) := by decide +kernel
theorem dX4_readNumber_24 : decode cX4_readNumber 24 = .ok (.ifCond .eq 40, 3) := by decide +kernel
theorem dX4_readNumber_27 : decode cX4_readNumber 27 = .ok (.aload_n 0, 1) := by decide +kernel
theorem dX4_readNumber_28 : decode cX4_readNumber 28 = .ok (.aload_n 0, 1) := by decide +kernel
theorem dX4_readNumber_29 : decode cX4_readNumber 29 = .ok (.getfield 64, 3) := by decide +kernel
theorem dX4_readNumber_32 : decode cX4_readNumber 32 = .ok (.bipush 10, 2) := by decide +kernel
theorem dX4_readNumber_34 : decode cX4_readNumber 34 = .ok (.imul, 1) := by decide +kernel
theorem dX4_readNumber_35 : decode cX4_readNumber 35 = .ok (.aload_n 0, 1) := by decide +kernel
theorem dX4_readNumber_36 : decode cX4_readNumber 36 = .ok (.getfield 9, 3) := by decide +kernel
theorem dX4_readNumber_39 : decode cX4_readNumber 39 = .ok (.aload_n 0, 1) := by decide +kernel
theorem dX4_readNumber_40 : decode cX4_readNumber 40 = .ok (.getfield 28, 3) := by decide +kernel
theorem dX4_readNumber_43 : decode cX4_readNumber 43 = .ok (.baload, 1) := by decide +kernel
theorem dX4_readNumber_44 : decode cX4_readNumber 44 = .ok (.bipush 48, 2) := by decide +kernel
theorem dX4_readNumber_46 : decode cX4_readNumber 46 = .ok (.isub, 1) := by decide +kernel
theorem dX4_readNumber_47 : decode cX4_readNumber 47 = .ok (.iadd, 1) := by decide +kernel
theorem dX4_readNumber_48 : decode cX4_readNumber 48 = .ok (.putfield 64, 3) := by decide +kernel
theorem dX4_readNumber_51 : decode cX4_readNumber 51 = .ok (.aload_n 0, 1) := by decide +kernel
theorem dX4_readNumber_52 : decode cX4_readNumber 52 = .ok (.dup, 1) := by decide +kernel
theorem dX4_readNumber_53 : decode cX4_readNumber 53 = .ok (.getfield 28, 3) := by decide +kernel
theorem dX4_readNumber_56 : decode cX4_readNumber 56 = .ok (.iconst 1, 1) := by decide +kernel
theorem dX4_readNumber_57 : decode cX4_readNumber 57 = .ok (.iadd, 1) := by decide +kernel
theorem dX4_readNumber_58 : decode cX4_readNumber 58 = .ok (.putfield 28, 3) := by decide +kernel
theorem dX4_readNumber_61 : decode cX4_readNumber 61 = .ok (.goto (-56), 3) := by decide +kernel
theorem dX4_readNumber_64 : decode cX4_readNumber 64 = .ok (.aload_n 0, 1) := by decide +kernel
theorem dX4_readNumber_65 : decode cX4_readNumber 65 = .ok (.getfield 28, 3) := by decide +kernel
theorem dX4_readNumber_68 : decode cX4_readNumber 68 = .ok (.aload_n 0, 1) := by decide +kernel
theorem dX4_readNumber_69 : decode cX4_readNumber 69 = .ok (.getfield 34, 3) := by decide +kernel
theorem dX4_readNumber_72 : decode cX4_readNumber 72 = .ok (.isub, 1) := by decide +kernel
theorem dX4_readNumber_73 : decode cX4_readNumber 73 = .ok (.iconst 4, 1) := by decide +kernel
theorem dX4_readNumber_74 : decode cX4_readNumber 74 = .ok (.if_icmp .gt 18, 3) := by decide +kernel
theorem dX4_readNumber_77 : decode cX4_readNumber 77 = .ok (.aload_n 0, 1) := by decide +kernel
theorem dX4_readNumber_78 : decode cX4_readNumber 78 = .ok (.aload_n 0, 1) := by decide +kernel
theorem dX4_readNumber_79 : decode cX4_readNumber 79 = .ok (.getfield 28, 3) := by decide +kernel
theorem dX4_readNumber_82 : decode cX4_readNumber 82 = .ok (.invokevirtual 43, 3) := by decide +kernel
theorem dX4_readNumber_85 : decode cX4_readNumber 85 = .ok (.ifCond .ne 7, 3) := by decide +kernel
theorem dX4_readNumber_88 : decode cX4_readNumber 88 = .ok (.iconst 1, 1) := by decide +kernel
theorem dX4_readNumber_89 : decode cX4_readNumber 89 = .ok (.goto 4, 3) := by decide +kernel
theorem dX4_readNumber_92 : decode cX4_readNumber 92 = .ok (.iconst 0, 1) := by decide +kernel
theorem dX4_readNumber_93 : decode cX4_readNumber 93 = .ok (.istore_n 1, 1) := by decide +kernel
theorem dX4_readNumber_94 : decode cX4_readNumber 94 = .ok (.aload_n 0, 1) := by decide +kernel
theorem dX4_readNumber_95 : decode cX4_readNumber 95 = .ok (.iload_n 1, 1) := by decide +kernel
theorem dX4_readNumber_96 : decode cX4_readNumber 96 = .ok (.ifCond .eq 7, 3) := by decide +kernel
theorem dX4_readNumber_99 : decode cX4_readNumber 99 = .ok (.iconst 3, 1) := by decide +kernel
theorem dX4_readNumber_100 : decode cX4_readNumber 100 = .ok (.goto 4, 3) := by decide +kernel
theorem dX4_readNumber_103 : decode cX4_readNumber 103 = .ok (.iconst 1, 1) := by decide +kernel
theorem dX4_readNumber_104 : decode cX4_readNumber 104 = .ok (.putfield 40, 3) := by decide +kernel
theorem dX4_readNumber_107 : decode cX4_readNumber 107 = .ok (.return_, 1) := by decide +kernel
theorem dX4_readWord_0 : decode cX4_readWord 0 = .ok (.aload_n 0, 1) := by decide +kernel
theorem dX4_readWord_1 : decode cX4_readWord 1 = .ok (.lconst 0, 1) := by decide +kernel
theorem dX4_readWord_2 : decode cX4_readWord 2 = .ok (.putfield 50, 3) := by decide +kernel
theorem dX4_readWord_5 : decode cX4_readWord 5 = .ok (.aload_n 0, 1) := by decide +kernel
theorem dX4_readWord_6 : decode cX4_readWord 6 = .ok (.getfield 28, 3) := by decide +kernel
theorem dX4_readWord_9 : decode cX4_readWord 9 = .ok (.aload_n 0, 1) := by decide +kernel
theorem dX4_readWord_10 : decode cX4_readWord 10 = .ok (.getfield 24, 3) := by decide +kernel
theorem dX4_readWord_13 : decode cX4_readWord 13 = .ok (.if_icmp .ge 55, 3) := by decide +kernel
theorem dX4_readWord_16 : decode cX4_readWord 16 = .ok (.aload_n 0, 1) := by decide +kernel
theorem dX4_readWord_17 : decode cX4_readWord 17 = .ok (.aload_n 0, 1) := by decide +kernel
theorem dX4_readWord_18 : decode cX4_readWord 18 = .ok (.getfield 28, 3) := by decide +kernel
theorem dX4_readWord_21 : decode cX4_readWord 21 = .ok (.invokevirtual 43, 3) := by decide +kernel
theorem dX4_readWord_24 : decode cX4_readWord 24 = .ok (.ifCond .eq 44, 3) := by decide +kernel
theorem dX4_readWord_27 : decode cX4_readWord 27 = .ok (.aload_n 0, 1) := by decide +kernel
theorem dX4_readWord_28 : decode cX4_readWord 28 = .ok (.aload_n 0, 1) := by decide +kernel
theorem dX4_readWord_29 : decode cX4_readWord 29 = .ok (.getfield 50, 3) := by decide +kernel
theorem dX4_readWord_32 : decode cX4_readWord 32 = .ok (.ldc2_w 75, 3) := by decide +kernel
theorem dX4_readWord_35 : decode cX4_readWord 35 = .ok (.lmul, 1) := by decide +kernel
theorem dX4_readWord_36 : decode cX4_readWord 36 = .ok (.aload_n 0, 1) := by decide +kernel
theorem dX4_readWord_37 : decode cX4_readWord 37 = .ok (.getfield 9, 3) := by decide +kernel
theorem dX4_readWord_40 : decode cX4_readWord 40 = .ok (.aload_n 0, 1) := by decide +kernel
theorem dX4_readWord_41 : decode cX4_readWord 41 = .ok (.getfield 28, 3) := by decide +kernel
theorem dX4_readWord_44 : decode cX4_readWord 44 = .ok (.baload, 1) := by decide +kernel
theorem dX4_readWord_45 : decode cX4_readWord 45 = .ok (.bipush 97, 2) := by decide +kernel
theorem dX4_readWord_47 : decode cX4_readWord 47 = .ok (.isub, 1) := by decide +kernel
theorem dX4_readWord_48 : decode cX4_readWord 48 = .ok (.iconst 1, 1) := by decide +kernel
theorem dX4_readWord_49 : decode cX4_readWord 49 = .ok (.iadd, 1) := by decide +kernel
theorem dX4_readWord_50 : decode cX4_readWord 50 = .ok (.i2l, 1) := by decide +kernel
theorem dX4_readWord_51 : decode cX4_readWord 51 = .ok (.ladd, 1) := by decide +kernel
theorem dX4_readWord_52 : decode cX4_readWord 52 = .ok (.putfield 50, 3) := by decide +kernel
theorem dX4_readWord_55 : decode cX4_readWord 55 = .ok (.aload_n 0, 1) := by decide +kernel
theorem dX4_readWord_56 : decode cX4_readWord 56 = .ok (.dup, 1) := by decide +kernel
theorem dX4_readWord_57 : decode cX4_readWord 57 = .ok (.getfield 28, 3) := by decide +kernel
theorem dX4_readWord_60 : decode cX4_readWord 60 = .ok (.iconst 1, 1) := by decide +kernel
theorem dX4_readWord_61 : decode cX4_readWord 61 = .ok (.iadd, 1) := by decide +kernel
theorem dX4_readWord_62 : decode cX4_readWord 62 = .ok (.putfield 28, 3) := by decide +kernel
theorem dX4_readWord_65 : decode cX4_readWord 65 = .ok (.goto (-60), 3) := by decide +kernel
theorem dX4_readWord_68 : decode cX4_readWord 68 = .ok (.aload_n 0, 1) := by decide +kernel
theorem dX4_readWord_69 : decode cX4_readWord 69 = .ok (.aload_n 0, 1) := by decide +kernel
theorem dX4_readWord_70 : decode cX4_readWord 70 = .ok (.getfield 28, 3) := by decide +kernel
theorem dX4_readWord_73 : decode cX4_readWord 73 = .ok (.aload_n 0, 1) := by decide +kernel
theorem dX4_readWord_74 : decode cX4_readWord 74 = .ok (.getfield 34, 3) := by decide +kernel
theorem dX4_readWord_77 : decode cX4_readWord 77 = .ok (.isub, 1) := by decide +kernel
theorem dX4_readWord_78 : decode cX4_readWord 78 = .ok (.bipush 8, 2) := by decide +kernel
theorem dX4_readWord_80 : decode cX4_readWord 80 = .ok (.if_icmp .gt 7, 3) := by decide +kernel
theorem dX4_readWord_83 : decode cX4_readWord 83 = .ok (.iconst 2, 1) := by decide +kernel
theorem dX4_readWord_84 : decode cX4_readWord 84 = .ok (.goto 4, 3) := by decide +kernel
theorem dX4_readWord_87 : decode cX4_readWord 87 = .ok (.iconst 1, 1) := by decide +kernel
theorem dX4_readWord_88 : decode cX4_readWord 88 = .ok (.putfield 40, 3) := by decide +kernel
theorem dX4_readWord_91 : decode cX4_readWord 91 = .ok (.return_, 1) := by decide +kernel
theorem dX4_wordNumber_0 : decode cX4_wordNumber 0 = .ok (.iconst 0, 1) := by decide +kernel
theorem dX4_wordNumber_1 : decode cX4_wordNumber 1 = .ok (.istore_n 2, 1) := by decide +kernel
theorem dX4_wordNumber_2 : decode cX4_wordNumber 2 = .ok (.lconst 0, 1) := by decide +kernel
theorem dX4_wordNumber_3 : decode cX4_wordNumber 3 = .ok (.lstore_n 3, 1) := by decide +kernel
theorem dX4_wordNumber_4 : decode cX4_wordNumber 4 = .ok (.iconst 0, 1) := by decide +kernel
theorem dX4_wordNumber_5 : decode cX4_wordNumber 5 = .ok (.istore 5, 2) := by decide +kernel
theorem dX4_wordNumber_7 : decode cX4_wordNumber 7 = .ok (.iload 5, 2) := by decide +kernel
theorem dX4_wordNumber_14 : decode cX4_wordNumber 14 = .ok (.if_icmp .ge 56, 3) := by decide +kernel
theorem dX4_wordNumber_19 : decode cX4_wordNumber 19 = .ok (.iload 5, 2) := by decide +kernel
theorem dX4_wordNumber_24 : decode cX4_wordNumber 24 = .ok (.istore 6, 2) := by decide +kernel
theorem dX4_wordNumber_26 : decode cX4_wordNumber 26 = .ok (.iload 6, 2) := by decide +kernel
theorem dX4_wordNumber_28 : decode cX4_wordNumber 28 = .ok (.bipush 32, 2) := by decide +kernel
theorem dX4_wordNumber_30 : decode cX4_wordNumber 30 = .ok (.if_icmp .eq 21, 3) := by decide +kernel
theorem dX4_wordNumber_33 : decode cX4_wordNumber 33 = .ok (.lload_n 3, 1) := by decide +kernel
theorem dX4_wordNumber_34 : decode cX4_wordNumber 34 = .ok (.ldc2_w 75, 3) := by decide +kernel
theorem dX4_wordNumber_37 : decode cX4_wordNumber 37 = .ok (.lmul, 1) := by decide +kernel
theorem dX4_wordNumber_38 : decode cX4_wordNumber 38 = .ok (.iload 6, 2) := by decide +kernel
theorem dX4_wordNumber_40 : decode cX4_wordNumber 40 = .ok (.bipush 97, 2) := by decide +kernel
theorem dX4_wordNumber_42 : decode cX4_wordNumber 42 = .ok (.isub, 1) := by decide +kernel
theorem dX4_wordNumber_43 : decode cX4_wordNumber 43 = .ok (.iconst 1, 1) := by decide +kernel
theorem dX4_wordNumber_44 : decode cX4_wordNumber 44 = .ok (.iadd, 1) := by decide +kernel
theorem dX4_wordNumber_45 : decode cX4_wordNumber 45 = .ok (.i2l, 1) := by decide +kernel
theorem dX4_wordNumber_46 : decode cX4_wordNumber 46 = .ok (.ladd, 1) := by decide +kernel
theorem dX4_wordNumber_47 : decode cX4_wordNumber 47 = .ok (.lstore_n 3, 1) := by decide +kernel
theorem dX4_wordNumber_48 : decode cX4_wordNumber 48 = .ok (.goto 16, 3) := by decide +kernel
theorem dX4_wordNumber_51 : decode cX4_wordNumber 51 = .ok (.lload_n 3, 1) := by decide +kernel
theorem dX4_wordNumber_52 : decode cX4_wordNumber 52 = .ok (.lload_n 0, 1) := by decide +kernel
theorem dX4_wordNumber_53 : decode cX4_wordNumber 53 = .ok (.lcmp, 1) := by decide +kernel
theorem dX4_wordNumber_54 : decode cX4_wordNumber 54 = .ok (.ifCond .ne 5, 3) := by decide +kernel
theorem dX4_wordNumber_57 : decode cX4_wordNumber 57 = .ok (.iload_n 2, 1) := by decide +kernel
theorem dX4_wordNumber_58 : decode cX4_wordNumber 58 = .ok (.ireturn, 1) := by decide +kernel
theorem dX4_wordNumber_59 : decode cX4_wordNumber 59 = .ok (.iinc 2 1, 3) := by decide +kernel
theorem dX4_wordNumber_62 : decode cX4_wordNumber 62 = .ok (.lconst 0, 1) := by decide +kernel
theorem dX4_wordNumber_63 : decode cX4_wordNumber 63 = .ok (.lstore_n 3, 1) := by decide +kernel
theorem dX4_wordNumber_64 : decode cX4_wordNumber 64 = .ok (.iinc 5 1, 3) := by decide +kernel
theorem dX4_wordNumber_67 : decode cX4_wordNumber 67 = .ok (.goto (-60), 3) := by decide +kernel
theorem dX4_wordNumber_70 : decode cX4_wordNumber 70 = .ok (.iconst (-1), 1) := by decide +kernel
theorem dX4_wordNumber_71 : decode cX4_wordNumber 71 = .ok (.ireturn, 1) := by decide +kernel
theorem dX5_init_0 : decode cX5_init 0 = .ok (.aload_n 0, 1) := by decide +kernel
theorem dX5_init_1 : decode cX5_init 1 = .ok (.invokespecial 3, 3) := by decide +kernel
theorem dX5_init_4 : decode cX5_init 4 = .ok (.aload_n 0, 1) := by decide +kernel
theorem dX5_init_5 : decode cX5_init 5 = .ok (.iconst 0, 1) := by decide +kernel
theorem dX5_init_6 : decode cX5_init 6 = .ok (.putfield 9, 3) := by decide +kernel
theorem dX5_init_9 : decode cX5_init 9 = .ok (.aload_n 0, 1) := by decide +kernel
theorem dX5_init_10 : decode cX5_init 10 = .ok (.iconst 0, 1) := by decide +kernel
theorem dX5_init_11 : decode cX5_init 11 = .ok (.putfield 15, 3) := by decide +kernel
theorem dX5_init_14 : decode cX5_init 14 = .ok (.aload_n 0, 1) := by decide +kernel
theorem dX5_init_15 : decode cX5_init 15 = .ok (.bipush 60, 2) := by decide +kernel
theorem dX5_init_17 : decode cX5_init 17 = .ok (.newarray .int, 2) := by decide +kernel
theorem dX5_init_19 : decode cX5_init 19 = .ok (.putfield 18, 3) := by decide +kernel
theorem dX5_init_22 : decode cX5_init 22 = .ok (.aload_n 0, 1) := by decide +kernel
theorem dX5_init_23 : decode cX5_init 23 = .ok (.bipush 60, 2) := by decide +kernel
theorem dX5_init_25 : decode cX5_init 25 = .ok (.newarray .int, 2) := by decide +kernel
theorem dX5_init_27 : decode cX5_init 27 = .ok (.putfield 22, 3) := by decide +kernel
theorem dX5_init_30 : decode cX5_init 30 = .ok (.aload_n 0, 1) := by decide +kernel
theorem dX5_init_31 : decode cX5_init 31 = .ok (.bipush 60, 2) := by decide +kernel
theorem dX5_init_33 : decode cX5_init 33 = .ok (.newarray .int, 2) := by decide +kernel
theorem dX5_init_35 : decode cX5_init 35 = .ok (.putfield 25, 3) := by decide +kernel
theorem dX5_init_38 : decode cX5_init 38 = .ok (.aload_n 0, 1) := by decide +kernel
theorem dX5_init_39 : decode cX5_init 39 = .ok (.bipush 60, 2) := by decide +kernel
theorem dX5_init_41 : decode cX5_init 41 = .ok (.newarray .int, 2) := by decide +kernel
theorem dX5_init_43 : decode cX5_init 43 = .ok (.putfield 28, 3) := by decide +kernel
theorem dX5_init_46 : decode cX5_init 46 = .ok (.aload_n 0, 1) := by decide +kernel
theorem dX5_init_47 : decode cX5_init 47 = .ok (.bipush 60, 2) := by decide +kernel
theorem dX5_init_49 : decode cX5_init 49 = .ok (.newarray .int, 2) := by decide +kernel
theorem dX5_init_51 : decode cX5_init 51 = .ok (.putfield 31, 3) := by decide +kernel
theorem dX5_init_54 : decode cX5_init 54 = .ok (.aload_n 0, 1) := by decide +kernel
theorem dX5_init_55 : decode cX5_init 55 = .ok (.sipush 1000, 3) := by decide +kernel
theorem dX5_init_58 : decode cX5_init 58 = .ok (.newarray .int, 2) := by decide +kernel
theorem dX5_init_60 : decode cX5_init 60 = .ok (.putfield 34, 3) := by decide +kernel
theorem dX5_init_63 : decode cX5_init 63 = .ok (.aload_n 0, 1) := by decide +kernel
theorem dX5_init_64 : decode cX5_init 64 = .ok (.iconst 0, 1) := by decide +kernel
theorem dX5_init_65 : decode cX5_init 65 = .ok (.putfield 37, 3) := by decide +kernel
theorem dX5_init_68 : decode cX5_init 68 = .ok (.return_, 1) := by decide +kernel
theorem dX5_counts_0 : decode cX5_counts 0 = .ok (.aload_n 0, 1) := by decide +kernel
theorem dX5_counts_1 : decode cX5_counts 1 = .ok (.getfield 28, 3) := by decide +kernel
theorem dX5_counts_4 : decode cX5_counts 4 = .ok (.iload_n 1, 1) := by decide +kernel
theorem dX5_counts_5 : decode cX5_counts 5 = .ok (.iaload, 1) := by decide +kernel
theorem dX5_counts_6 : decode cX5_counts 6 = .ok (.iload_n 2, 1) := by decide +kernel
theorem dX5_counts_7 : decode cX5_counts 7 = .ok (.if_icmp .gt 27, 3) := by decide +kernel
theorem dX5_counts_10 : decode cX5_counts 10 = .ok (.aload_n 0, 1) := by decide +kernel
theorem dX5_counts_11 : decode cX5_counts 11 = .ok (.getfield 31, 3) := by decide +kernel
theorem dX5_counts_14 : decode cX5_counts 14 = .ok (.iload_n 1, 1) := by decide +kernel
theorem dX5_counts_15 : decode cX5_counts 15 = .ok (.iaload, 1) := by decide +kernel
theorem dX5_counts_16 : decode cX5_counts 16 = .ok (.iconst (-1), 1) := by decide +kernel
theorem dX5_counts_17 : decode cX5_counts 17 = .ok (.if_icmp .eq 13, 3) := by decide +kernel
theorem dX5_counts_20 : decode cX5_counts 20 = .ok (.aload_n 0, 1) := by decide +kernel
theorem dX5_counts_21 : decode cX5_counts 21 = .ok (.getfield 31, 3) := by decide +kernel
theorem dX5_counts_24 : decode cX5_counts 24 = .ok (.iload_n 1, 1) := by decide +kernel
theorem dX5_counts_25 : decode cX5_counts 25 = .ok (.iaload, 1) := by decide +kernel
theorem dX5_counts_26 : decode cX5_counts 26 = .ok (.iload_n 2, 1) := by decide +kernel
theorem dX5_counts_27 : decode cX5_counts 27 = .ok (.if_icmp .le 7, 3) := by decide +kernel
theorem dX5_counts_30 : decode cX5_counts 30 = .ok (.iconst 1, 1) := by decide +kernel
theorem dX5_counts_31 : decode cX5_counts 31 = .ok (.goto 4, 3) := by decide +kernel
theorem dX5_counts_34 : decode cX5_counts 34 = .ok (.iconst 0, 1) := by decide +kernel
theorem dX5_counts_35 : decode cX5_counts 35 = .ok (.ireturn, 1) := by decide +kernel
theorem dX5_falseOnes_0 : decode cX5_falseOnes 0 = .ok (.iconst 0, 1) := by decide +kernel
theorem dX5_falseOnes_1 : decode cX5_falseOnes 1 = .ok (.istore_n 2, 1) := by decide +kernel
theorem dX5_falseOnes_2 : decode cX5_falseOnes 2 = .ok (.iconst 0, 1) := by decide +kernel
theorem dX5_falseOnes_3 : decode cX5_falseOnes 3 = .ok (.istore_n 3, 1) := by decide +kernel
theorem dX5_falseOnes_4 : decode cX5_falseOnes 4 = .ok (.iload_n 3, 1) := by decide +kernel
theorem dX5_falseOnes_5 : decode cX5_falseOnes 5 = .ok (.aload_n 0, 1) := by decide +kernel
theorem dX5_falseOnes_6 : decode cX5_falseOnes 6 = .ok (.getfield 15, 3) := by decide +kernel
theorem dX5_falseOnes_9 : decode cX5_falseOnes 9 = .ok (.if_icmp .ge 29, 3) := by decide +kernel
theorem dX5_falseOnes_12 : decode cX5_falseOnes 12 = .ok (.aload_n 0, 1) := by decide +kernel
theorem dX5_falseOnes_13 : decode cX5_falseOnes 13 = .ok (.iload_n 3, 1) := by decide +kernel
theorem dX5_falseOnes_14 : decode cX5_falseOnes 14 = .ok (.iload_n 1, 1) := by decide +kernel
theorem dX5_falseOnes_15 : decode cX5_falseOnes 15 = .ok (.invokevirtual 41, 3) := by decide +kernel
theorem dX5_falseOnes_18 : decode cX5_falseOnes 18 = .ok (.ifCond .eq 14, 3) := by decide +kernel
theorem dX5_falseOnes_21 : decode cX5_falseOnes 21 = .ok (.aload_n 0, 1) := by decide +kernel
theorem dX5_falseOnes_22 : decode cX5_falseOnes 22 = .ok (.iload_n 3, 1) := by decide +kernel
theorem dX5_falseOnes_23 : decode cX5_falseOnes 23 = .ok (.invokevirtual 45, 3) := by decide +kernel
theorem dX5_falseOnes_26 : decode cX5_falseOnes 26 = .ok (.ifCond .eq 6, 3) := by decide +kernel
theorem dX5_falseOnes_29 : decode cX5_falseOnes 29 = .ok (.iinc 2 1, 3) := by decide +kernel
theorem dX5_falseOnes_32 : decode cX5_falseOnes 32 = .ok (.iinc 3 1, 3) := by decide +kernel
theorem dX5_falseOnes_35 : decode cX5_falseOnes 35 = .ok (.goto (-31), 3) := by decide +kernel
theorem dX5_falseOnes_38 : decode cX5_falseOnes 38 = .ok (.iload_n 2, 1) := by decide +kernel
theorem dX5_falseOnes_39 : decode cX5_falseOnes 39 = .ok (.ireturn, 1) := by decide +kernel
theorem dX5_firstFalse_0 : decode cX5_firstFalse 0 = .ok (.iconst 0, 1) := by decide +kernel
theorem dX5_firstFalse_1 : decode cX5_firstFalse 1 = .ok (.istore_n 2, 1) := by decide +kernel
theorem dX5_firstFalse_2 : decode cX5_firstFalse 2 = .ok (.iload_n 2, 1) := by decide +kernel
theorem dX5_firstFalse_3 : decode cX5_firstFalse 3 = .ok (.aload_n 0, 1) := by decide +kernel
theorem dX5_firstFalse_4 : decode cX5_firstFalse 4 = .ok (.getfield 15, 3) := by decide +kernel
theorem dX5_firstFalse_7 : decode cX5_firstFalse 7 = .ok (.if_icmp .ge 28, 3) := by decide +kernel
theorem dX5_firstFalse_10 : decode cX5_firstFalse 10 = .ok (.aload_n 0, 1) := by decide +kernel
theorem dX5_firstFalse_11 : decode cX5_firstFalse 11 = .ok (.iload_n 2, 1) := by decide +kernel
theorem dX5_firstFalse_12 : decode cX5_firstFalse 12 = .ok (.iload_n 1, 1) := by decide +kernel
theorem dX5_firstFalse_13 : decode cX5_firstFalse 13 = .ok (.invokevirtual 41, 3) := by decide +kernel
theorem dX5_firstFalse_16 : decode cX5_firstFalse 16 = .ok (.ifCond .eq 13, 3) := by decide +kernel
theorem dX5_firstFalse_19 : decode cX5_firstFalse 19 = .ok (.aload_n 0, 1) := by decide +kernel
theorem dX5_firstFalse_20 : decode cX5_firstFalse 20 = .ok (.iload_n 2, 1) := by decide +kernel
theorem dX5_firstFalse_21 : decode cX5_firstFalse 21 = .ok (.invokevirtual 45, 3) := by decide +kernel
theorem dX5_firstFalse_24 : decode cX5_firstFalse 24 = .ok (.ifCond .eq 5, 3) := by decide +kernel
theorem dX5_firstFalse_27 : decode cX5_firstFalse 27 = .ok (.iload_n 2, 1) := by decide +kernel
theorem dX5_firstFalse_28 : decode cX5_firstFalse 28 = .ok (.ireturn, 1) := by decide +kernel
theorem dX5_firstFalse_29 : decode cX5_firstFalse 29 = .ok (.iinc 2 1, 3) := by decide +kernel
theorem dX5_firstFalse_32 : decode cX5_firstFalse 32 = .ok (.goto (-30), 3) := by decide +kernel
theorem dX5_firstFalse_35 : decode cX5_firstFalse 35 = .ok (.iconst (-1), 1) := by decide +kernel
theorem dX5_firstFalse_36 : decode cX5_firstFalse 36 = .ok (.ireturn, 1) := by decide +kernel
theorem dX5_forget_0 : decode cX5_forget 0 = .ok (.aload_n 0, 1) := by decide +kernel
theorem dX5_forget_1 : decode cX5_forget 1 = .ok (.iconst 0, 1) := by decide +kernel
theorem dX5_forget_2 : decode cX5_forget 2 = .ok (.putfield 15, 3) := by decide +kernel
theorem dX5_forget_5 : decode cX5_forget 5 = .ok (.aload_n 0, 1) := by decide +kernel
theorem dX5_forget_6 : decode cX5_forget 6 = .ok (.iconst 0, 1) := by decide +kernel
theorem dX5_forget_7 : decode cX5_forget 7 = .ok (.putfield 37, 3) := by decide +kernel
theorem dX5_forget_10 : decode cX5_forget 10 = .ok (.return_, 1) := by decide +kernel
theorem dX5_isFalse_0 : decode cX5_isFalse 0 = .ok (.aload_n 0, 1) := by decide +kernel
theorem dX5_isFalse_1 : decode cX5_isFalse 1 = .ok (.getfield 22, 3) := by decide +kernel
theorem dX5_isFalse_4 : decode cX5_isFalse 4 = .ok (.iload_n 1, 1) := by decide +kernel
theorem dX5_isFalse_5 : decode cX5_isFalse 5 = .ok (.iaload, 1) := by decide +kernel
theorem dX5_isFalse_6 : decode cX5_isFalse 6 = .ok (.iconst 1, 1) := by decide +kernel
theorem dX5_isFalse_7 : decode cX5_isFalse 7 = .ok (.isub, 1) := by decide +kernel
theorem dX5_isFalse_8 : decode cX5_isFalse 8 = .ok (.iconst 5, 1) := by decide +kernel
theorem dX5_isFalse_9 : decode cX5_isFalse 9 = .ok (.imul, 1) := by decide +kernel
theorem dX5_isFalse_10 : decode cX5_isFalse 10 = .ok (.aload_n 0, 1) := by decide +kernel
theorem dX5_isFalse_11 : decode cX5_isFalse 11 = .ok (.getfield 18, 3) := by decide +kernel
theorem dX5_isFalse_14 : decode cX5_isFalse 14 = .ok (.iload_n 1, 1) := by decide +kernel
theorem dX5_isFalse_15 : decode cX5_isFalse 15 = .ok (.iaload, 1) := by decide +kernel
theorem dX5_isFalse_16 : decode cX5_isFalse 16 = .ok (.iadd, 1) := by decide +kernel
theorem dX5_isFalse_17 : decode cX5_isFalse 17 = .ok (.istore_n 2, 1) := by decide +kernel
theorem dX5_isFalse_18 : decode cX5_isFalse 18 = .ok (.iload_n 2, 1) := by decide +kernel
theorem dX5_isFalse_19 : decode cX5_isFalse 19 = .ok (.ifCond .lt 31, 3) := by decide +kernel
theorem dX5_isFalse_22 : decode cX5_isFalse 22 = .ok (.iload_n 2, 1) := by decide +kernel
theorem dX5_isFalse_23 : decode cX5_isFalse 23 = .ok (.aload_n 0, 1) := by decide +kernel
theorem dX5_isFalse_24 : decode cX5_isFalse 24 = .ok (.getfield 34, 3) := by decide +kernel
theorem dX5_isFalse_27 : decode cX5_isFalse 27 = .ok (.arraylength, 1) := by decide +kernel
theorem dX5_isFalse_28 : decode cX5_isFalse 28 = .ok (.if_icmp .ge 22, 3) := by decide +kernel
theorem dX5_isFalse_31 : decode cX5_isFalse 31 = .ok (.aload_n 0, 1) := by decide +kernel
theorem dX5_isFalse_32 : decode cX5_isFalse 32 = .ok (.getfield 34, 3) := by decide +kernel
theorem dX5_isFalse_35 : decode cX5_isFalse 35 = .ok (.iload_n 2, 1) := by decide +kernel
theorem dX5_isFalse_36 : decode cX5_isFalse 36 = .ok (.iaload, 1) := by decide +kernel
theorem dX5_isFalse_37 : decode cX5_isFalse 37 = .ok (.aload_n 0, 1) := by decide +kernel
theorem dX5_isFalse_38 : decode cX5_isFalse 38 = .ok (.getfield 25, 3) := by decide +kernel
theorem dX5_isFalse_41 : decode cX5_isFalse 41 = .ok (.iload_n 1, 1) := by decide +kernel
theorem dX5_isFalse_42 : decode cX5_isFalse 42 = .ok (.iaload, 1) := by decide +kernel
theorem dX5_isFalse_43 : decode cX5_isFalse 43 = .ok (.if_icmp .eq 7, 3) := by decide +kernel
theorem dX5_isFalse_46 : decode cX5_isFalse 46 = .ok (.iconst 1, 1) := by decide +kernel
theorem dX5_isFalse_47 : decode cX5_isFalse 47 = .ok (.goto 4, 3) := by decide +kernel
theorem dX5_isFalse_50 : decode cX5_isFalse 50 = .ok (.iconst 0, 1) := by decide +kernel
theorem dX5_isFalse_51 : decode cX5_isFalse 51 = .ok (.ireturn, 1) := by decide +kernel
theorem dX5_latestBelow_0 : decode cX5_latestBelow 0 = .ok (.iconst (-1), 1) := by decide +kernel
theorem dX5_latestBelow_1 : decode cX5_latestBelow 1 = .ok (.istore 4, 2) := by decide +kernel
theorem dX5_latestBelow_3 : decode cX5_latestBelow 3 = .ok (.iconst 0, 1) := by decide +kernel
theorem dX5_latestBelow_4 : decode cX5_latestBelow 4 = .ok (.istore 5, 2) := by decide +kernel
theorem dX5_latestBelow_6 : decode cX5_latestBelow 6 = .ok (.iload 5, 2) := by decide +kernel
theorem dX5_latestBelow_8 : decode cX5_latestBelow 8 = .ok (.aload_n 0, 1) := by decide +kernel
theorem dX5_latestBelow_9 : decode cX5_latestBelow 9 = .ok (.getfield 15, 3) := by decide +kernel
theorem dX5_latestBelow_12 : decode cX5_latestBelow 12 = .ok (.if_icmp .ge 80, 3) := by decide +kernel
theorem dX5_latestBelow_15 : decode cX5_latestBelow 15 = .ok (.aload_n 0, 1) := by decide +kernel
theorem dX5_latestBelow_16 : decode cX5_latestBelow 16 = .ok (.iload 5, 2) := by decide +kernel
theorem dX5_latestBelow_18 : decode cX5_latestBelow 18 = .ok (.iload_n 2, 1) := by decide +kernel
theorem dX5_latestBelow_19 : decode cX5_latestBelow 19 = .ok (.invokevirtual 41, 3) := by decide +kernel
theorem dX5_latestBelow_22 : decode cX5_latestBelow 22 = .ok (.ifCond .eq 29, 3) := by decide +kernel
theorem dX5_latestBelow_25 : decode cX5_latestBelow 25 = .ok (.aload_n 0, 1) := by decide +kernel
theorem dX5_latestBelow_26 : decode cX5_latestBelow 26 = .ok (.getfield 18, 3) := by decide +kernel
theorem dX5_latestBelow_29 : decode cX5_latestBelow 29 = .ok (.iload 5, 2) := by decide +kernel
theorem dX5_latestBelow_31 : decode cX5_latestBelow 31 = .ok (.iaload, 1) := by decide +kernel
theorem dX5_latestBelow_32 : decode cX5_latestBelow 32 = .ok (.iload_n 1, 1) := by decide +kernel
theorem dX5_latestBelow_33 : decode cX5_latestBelow 33 = .ok (.if_icmp .ne 18, 3) := by decide +kernel
theorem dX5_latestBelow_36 : decode cX5_latestBelow 36 = .ok (.aload_n 0, 1) := by decide +kernel
theorem dX5_latestBelow_37 : decode cX5_latestBelow 37 = .ok (.getfield 22, 3) := by decide +kernel
theorem dX5_latestBelow_40 : decode cX5_latestBelow 40 = .ok (.iload 5, 2) := by decide +kernel
theorem dX5_latestBelow_42 : decode cX5_latestBelow 42 = .ok (.iaload, 1) := by decide +kernel
theorem dX5_latestBelow_43 : decode cX5_latestBelow 43 = .ok (.iload_n 3, 1) := by decide +kernel
theorem dX5_latestBelow_44 : decode cX5_latestBelow 44 = .ok (.if_icmp .ge 7, 3) := by decide +kernel
theorem dX5_latestBelow_47 : decode cX5_latestBelow 47 = .ok (.iconst 1, 1) := by decide +kernel
theorem dX5_latestBelow_48 : decode cX5_latestBelow 48 = .ok (.goto 4, 3) := by decide +kernel
theorem dX5_latestBelow_51 : decode cX5_latestBelow 51 = .ok (.iconst 0, 1) := by decide +kernel
theorem dX5_latestBelow_52 : decode cX5_latestBelow 52 = .ok (.istore 6, 2) := by decide +kernel
theorem dX5_latestBelow_54 : decode cX5_latestBelow 54 = .ok (.iload 6, 2) := by decide +kernel
theorem dX5_latestBelow_56 : decode cX5_latestBelow 56 = .ok (.ifCond .eq 30, 3) := by decide +kernel
theorem dX5_latestBelow_59 : decode cX5_latestBelow 59 = .ok (.iload 4, 2) := by decide +kernel
theorem dX5_latestBelow_61 : decode cX5_latestBelow 61 = .ok (.iconst (-1), 1) := by decide +kernel
theorem dX5_latestBelow_62 : decode cX5_latestBelow 62 = .ok (.if_icmp .eq 20, 3) := by decide +kernel
theorem dX5_latestBelow_65 : decode cX5_latestBelow 65 = .ok (.aload_n 0, 1) := by decide +kernel
theorem dX5_latestBelow_66 : decode cX5_latestBelow 66 = .ok (.getfield 22, 3) := by decide +kernel
theorem dX5_latestBelow_69 : decode cX5_latestBelow 69 = .ok (.iload 5, 2) := by decide +kernel
theorem dX5_latestBelow_71 : decode cX5_latestBelow 71 = .ok (.iaload, 1) := by decide +kernel
theorem dX5_latestBelow_72 : decode cX5_latestBelow 72 = .ok (.aload_n 0, 1) := by decide +kernel
theorem dX5_latestBelow_73 : decode cX5_latestBelow 73 = .ok (.getfield 22, 3) := by decide +kernel
theorem dX5_latestBelow_76 : decode cX5_latestBelow 76 = .ok (.iload 4, 2) := by decide +kernel
theorem dX5_latestBelow_78 : decode cX5_latestBelow 78 = .ok (.iaload, 1) := by decide +kernel
theorem dX5_latestBelow_79 : decode cX5_latestBelow 79 = .ok (.if_icmp .lt 7, 3) := by decide +kernel
theorem dX5_latestBelow_82 : decode cX5_latestBelow 82 = .ok (.iload 5, 2) := by decide +kernel
theorem dX5_latestBelow_84 : decode cX5_latestBelow 84 = .ok (.istore 4, 2) := by decide +kernel
theorem dX5_latestBelow_86 : decode cX5_latestBelow 86 = .ok (.iinc 5 1, 3) := by decide +kernel
theorem dX5_latestBelow_89 : decode cX5_latestBelow 89 = .ok (.goto (-83), 3) := by decide +kernel
theorem dX5_latestBelow_92 : decode cX5_latestBelow 92 = .ok (.iload 4, 2) := by decide +kernel
theorem dX5_latestBelow_94 : decode cX5_latestBelow 94 = .ok (.ireturn, 1) := by decide +kernel
theorem dX5_speedOf_0 : decode cX5_speedOf 0 = .ok (.aload_n 0, 1) := by decide +kernel
theorem dX5_speedOf_1 : decode cX5_speedOf 1 = .ok (.iload_n 1, 1) := by decide +kernel
theorem dX5_speedOf_2 : decode cX5_speedOf 2 = .ok (.iload_n 2, 1) := by decide +kernel
theorem dX5_speedOf_3 : decode cX5_speedOf 3 = .ok (.sipush 201, 3) := by decide +kernel
theorem dX5_speedOf_6 : decode cX5_speedOf 6 = .ok (.invokevirtual 49, 3) := by decide +kernel
theorem dX5_speedOf_9 : decode cX5_speedOf 9 = .ok (.istore_n 3, 1) := by decide +kernel
theorem dX5_speedOf_10 : decode cX5_speedOf 10 = .ok (.iload_n 3, 1) := by decide +kernel
theorem dX5_speedOf_11 : decode cX5_speedOf 11 = .ok (.iconst (-1), 1) := by decide +kernel
theorem dX5_speedOf_12 : decode cX5_speedOf 12 = .ok (.if_icmp .ne 7, 3) := by decide +kernel
theorem dX5_speedOf_15 : decode cX5_speedOf 15 = .ok (.iconst (-1), 1) := by decide +kernel
theorem dX5_speedOf_16 : decode cX5_speedOf 16 = .ok (.goto 15, 3) := by decide +kernel
theorem dX5_speedOf_19 : decode cX5_speedOf 19 = .ok (.aload_n 0, 1) := by decide +kernel
theorem dX5_speedOf_20 : decode cX5_speedOf 20 = .ok (.iload_n 1, 1) := by decide +kernel
theorem dX5_speedOf_21 : decode cX5_speedOf 21 = .ok (.iload_n 2, 1) := by decide +kernel
theorem dX5_speedOf_22 : decode cX5_speedOf 22 = .ok (.aload_n 0, 1) := by decide +kernel
theorem dX5_speedOf_23 : decode cX5_speedOf 23 = .ok (.getfield 22, 3) := by decide +kernel
theorem dX5_speedOf_26 : decode cX5_speedOf 26 = .ok (.iload_n 3, 1) := by decide +kernel
theorem dX5_speedOf_27 : decode cX5_speedOf 27 = .ok (.iaload, 1) := by decide +kernel
theorem dX5_speedOf_28 : decode cX5_speedOf 28 = .ok (.invokevirtual 49, 3) := by decide +kernel
theorem dX5_speedOf_31 : decode cX5_speedOf 31 = .ok (.istore 4, 2) := by decide +kernel
theorem dX5_speedOf_33 : decode cX5_speedOf 33 = .ok (.iload 4, 2) := by decide +kernel
theorem dX5_speedOf_35 : decode cX5_speedOf 35 = .ok (.iconst (-1), 1) := by decide +kernel
theorem dX5_speedOf_36 : decode cX5_speedOf 36 = .ok (.if_icmp .eq 19, 3) := by decide +kernel
theorem dX5_speedOf_39 : decode cX5_speedOf 39 = .ok (.aload_n 0, 1) := by decide +kernel
theorem dX5_speedOf_40 : decode cX5_speedOf 40 = .ok (.getfield 22, 3) := by decide +kernel
theorem dX5_speedOf_43 : decode cX5_speedOf 43 = .ok (.iload_n 3, 1) := by decide +kernel
theorem dX5_speedOf_44 : decode cX5_speedOf 44 = .ok (.iaload, 1) := by decide +kernel
theorem dX5_speedOf_45 : decode cX5_speedOf 45 = .ok (.aload_n 0, 1) := by decide +kernel
theorem dX5_speedOf_46 : decode cX5_speedOf 46 = .ok (.getfield 22, 3) := by decide +kernel
theorem dX5_speedOf_49 : decode cX5_speedOf 49 = .ok (.iload 4, 2) := by decide +kernel
theorem dX5_speedOf_51 : decode cX5_speedOf 51 = .ok (.iaload, 1) := by decide +kernel
theorem dX5_speedOf_52 : decode cX5_speedOf 52 = .ok (.if_icmp .gt 7, 3) := by decide +kernel
theorem dX5_speedOf_55 : decode cX5_speedOf 55 = .ok (.sipush (-1000), 3) := by decide +kernel
theorem dX5_speedOf_58 : decode cX5_speedOf 58 = .ok (.ireturn, 1) := by decide +kernel
theorem dX5_speedOf_59 : decode cX5_speedOf 59 = .ok (.aload_n 0, 1) := by decide +kernel
theorem dX5_speedOf_60 : decode cX5_speedOf 60 = .ok (.getfield 25, 3) := by decide +kernel
theorem dX5_speedOf_63 : decode cX5_speedOf 63 = .ok (.iload_n 3, 1) := by decide +kernel
theorem dX5_speedOf_64 : decode cX5_speedOf 64 = .ok (.iaload, 1) := by decide +kernel
theorem dX5_speedOf_65 : decode cX5_speedOf 65 = .ok (.aload_n 0, 1) := by decide +kernel
theorem dX5_speedOf_66 : decode cX5_speedOf 66 = .ok (.getfield 25, 3) := by decide +kernel
theorem dX5_speedOf_69 : decode cX5_speedOf 69 = .ok (.iload 4, 2) := by decide +kernel
theorem dX5_speedOf_71 : decode cX5_speedOf 71 = .ok (.iaload, 1) := by decide +kernel
theorem dX5_speedOf_72 : decode cX5_speedOf 72 = .ok (.isub, 1) := by decide +kernel
theorem dX5_speedOf_73 : decode cX5_speedOf 73 = .ok (.bipush 10, 2) := by decide +kernel
theorem dX5_speedOf_75 : decode cX5_speedOf 75 = .ok (.imul, 1) := by decide +kernel
theorem dX5_speedOf_76 : decode cX5_speedOf 76 = .ok (.aload_n 0, 1) := by decide +kernel
theorem dX5_speedOf_77 : decode cX5_speedOf 77 = .ok (.getfield 22, 3) := by decide +kernel
theorem dX5_speedOf_80 : decode cX5_speedOf 80 = .ok (.iload_n 3, 1) := by decide +kernel
theorem dX5_speedOf_81 : decode cX5_speedOf 81 = .ok (.iaload, 1) := by decide +kernel
theorem dX5_speedOf_82 : decode cX5_speedOf 82 = .ok (.aload_n 0, 1) := by decide +kernel
theorem dX5_speedOf_83 : decode cX5_speedOf 83 = .ok (.getfield 22, 3) := by decide +kernel
theorem dX5_speedOf_86 : decode cX5_speedOf 86 = .ok (.iload 4, 2) := by decide +kernel
theorem dX5_speedOf_88 : decode cX5_speedOf 88 = .ok (.iaload, 1) := by decide +kernel
theorem dX5_speedOf_89 : decode cX5_speedOf 89 = .ok (.isub, 1) := by decide +kernel
theorem dX5_speedOf_90 : decode cX5_speedOf 90 = .ok (.idiv, 1) := by decide +kernel
theorem dX5_speedOf_91 : decode cX5_speedOf 91 = .ok (.ireturn, 1) := by decide +kernel
theorem dX5_takeBack_0 : decode cX5_takeBack 0 = .ok (.iload_n 1, 1) := by decide +kernel
theorem dX5_takeBack_1 : decode cX5_takeBack 1 = .ok (.ifCond .lt 21, 3) := by decide +kernel
theorem dX5_takeBack_4 : decode cX5_takeBack 4 = .ok (.iload_n 1, 1) := by decide +kernel
theorem dX5_takeBack_5 : decode cX5_takeBack 5 = .ok (.aload_n 0, 1) := by decide +kernel
theorem dX5_takeBack_6 : decode cX5_takeBack 6 = .ok (.getfield 15, 3) := by decide +kernel
theorem dX5_takeBack_9 : decode cX5_takeBack 9 = .ok (.if_icmp .ge 13, 3) := by decide +kernel
theorem dX5_takeBack_12 : decode cX5_takeBack 12 = .ok (.aload_n 0, 1) := by decide +kernel
theorem dX5_takeBack_13 : decode cX5_takeBack 13 = .ok (.getfield 31, 3) := by decide +kernel
theorem dX5_takeBack_16 : decode cX5_takeBack 16 = .ok (.iload_n 1, 1) := by decide +kernel
theorem dX5_takeBack_17 : decode cX5_takeBack 17 = .ok (.iaload, 1) := by decide +kernel
theorem dX5_takeBack_18 : decode cX5_takeBack 18 = .ok (.iconst (-1), 1) := by decide +kernel
theorem dX5_takeBack_19 : decode cX5_takeBack 19 = .ok (.if_icmp .eq 5, 3) := by decide +kernel
theorem dX5_takeBack_22 : decode cX5_takeBack 22 = .ok (.iconst 0, 1) := by decide +kernel
theorem dX5_takeBack_23 : decode cX5_takeBack 23 = .ok (.ireturn, 1) := by decide +kernel
theorem dX5_takeBack_24 : decode cX5_takeBack 24 = .ok (.aload_n 0, 1) := by decide +kernel
theorem dX5_takeBack_25 : decode cX5_takeBack 25 = .ok (.getfield 31, 3) := by decide +kernel
theorem dX5_takeBack_28 : decode cX5_takeBack 28 = .ok (.iload_n 1, 1) := by decide +kernel
theorem dX5_takeBack_29 : decode cX5_takeBack 29 = .ok (.aload_n 0, 1) := by decide +kernel
theorem dX5_takeBack_30 : decode cX5_takeBack 30 = .ok (.getfield 9, 3) := by decide +kernel
theorem dX5_takeBack_33 : decode cX5_takeBack 33 = .ok (.iastore, 1) := by decide +kernel
theorem dX5_takeBack_34 : decode cX5_takeBack 34 = .ok (.iconst 1, 1) := by decide +kernel
theorem dX5_takeBack_35 : decode cX5_takeBack 35 = .ok (.ireturn, 1) := by decide +kernel
theorem dX5_tell_0 : decode cX5_tell 0 = .ok (.aload_n 0, 1) := by decide +kernel
theorem dX5_tell_1 : decode cX5_tell 1 = .ok (.getfield 15, 3) := by decide +kernel
theorem dX5_tell_4 : decode cX5_tell 4 = .ok (.bipush 60, 2) := by decide +kernel
theorem dX5_tell_6 : decode cX5_tell 6 = .ok (.if_icmp .lt 5, 3) := by decide +kernel
theorem dX5_tell_9 : decode cX5_tell 9 = .ok (.iconst (-1), 1) := by decide +kernel
theorem dX5_tell_10 : decode cX5_tell 10 = .ok (.ireturn, 1) := by decide +kernel
theorem dX5_tell_11 : decode cX5_tell 11 = .ok (.aload_n 0, 1) := by decide +kernel
theorem dX5_tell_12 : decode cX5_tell 12 = .ok (.getfield 18, 3) := by decide +kernel
theorem dX5_tell_15 : decode cX5_tell 15 = .ok (.aload_n 0, 1) := by decide +kernel
theorem dX5_tell_16 : decode cX5_tell 16 = .ok (.getfield 15, 3) := by decide +kernel
theorem dX5_tell_19 : decode cX5_tell 19 = .ok (.iload_n 1, 1) := by decide +kernel
theorem dX5_tell_20 : decode cX5_tell 20 = .ok (.iastore, 1) := by decide +kernel
theorem dX5_tell_21 : decode cX5_tell 21 = .ok (.aload_n 0, 1) := by decide +kernel
theorem dX5_tell_22 : decode cX5_tell 22 = .ok (.getfield 22, 3) := by decide +kernel
theorem dX5_tell_25 : decode cX5_tell 25 = .ok (.aload_n 0, 1) := by decide +kernel
theorem dX5_tell_26 : decode cX5_tell 26 = .ok (.getfield 15, 3) := by decide +kernel
theorem dX5_tell_29 : decode cX5_tell 29 = .ok (.iload_n 2, 1) := by decide +kernel
theorem dX5_tell_30 : decode cX5_tell 30 = .ok (.iastore, 1) := by decide +kernel
theorem dX5_tell_31 : decode cX5_tell 31 = .ok (.aload_n 0, 1) := by decide +kernel
theorem dX5_tell_32 : decode cX5_tell 32 = .ok (.getfield 25, 3) := by decide +kernel
theorem dX5_tell_35 : decode cX5_tell 35 = .ok (.aload_n 0, 1) := by decide +kernel
theorem dX5_tell_36 : decode cX5_tell 36 = .ok (.getfield 15, 3) := by decide +kernel
theorem dX5_tell_39 : decode cX5_tell 39 = .ok (.iload_n 3, 1) := by decide +kernel
theorem dX5_tell_40 : decode cX5_tell 40 = .ok (.iastore, 1) := by decide +kernel
theorem dX5_tell_41 : decode cX5_tell 41 = .ok (.aload_n 0, 1) := by decide +kernel
theorem dX5_tell_42 : decode cX5_tell 42 = .ok (.getfield 28, 3) := by decide +kernel
theorem dX5_tell_45 : decode cX5_tell 45 = .ok (.aload_n 0, 1) := by decide +kernel
theorem dX5_tell_46 : decode cX5_tell 46 = .ok (.getfield 15, 3) := by decide +kernel
theorem dX5_tell_49 : decode cX5_tell 49 = .ok (.aload_n 0, 1) := by decide +kernel
theorem dX5_tell_50 : decode cX5_tell 50 = .ok (.getfield 9, 3) := by decide +kernel
theorem dX5_tell_53 : decode cX5_tell 53 = .ok (.iastore, 1) := by decide +kernel
theorem dX5_tell_54 : decode cX5_tell 54 = .ok (.aload_n 0, 1) := by decide +kernel
theorem dX5_tell_55 : decode cX5_tell 55 = .ok (.getfield 31, 3) := by decide +kernel
theorem dX5_tell_58 : decode cX5_tell 58 = .ok (.aload_n 0, 1) := by decide +kernel
theorem dX5_tell_59 : decode cX5_tell 59 = .ok (.getfield 15, 3) := by decide +kernel
theorem dX5_tell_62 : decode cX5_tell 62 = .ok (.iconst (-1), 1) := by decide +kernel
theorem dX5_tell_63 : decode cX5_tell 63 = .ok (.iastore, 1) := by decide +kernel
theorem dX5_tell_64 : decode cX5_tell 64 = .ok (.aload_n 0, 1) := by decide +kernel
theorem dX5_tell_65 : decode cX5_tell 65 = .ok (.dup, 1) := by decide +kernel
theorem dX5_tell_66 : decode cX5_tell 66 = .ok (.getfield 15, 3) := by decide +kernel
theorem dX5_tell_69 : decode cX5_tell 69 = .ok (.iconst 1, 1) := by decide +kernel
theorem dX5_tell_70 : decode cX5_tell 70 = .ok (.iadd, 1) := by decide +kernel
theorem dX5_tell_71 : decode cX5_tell 71 = .ok (.putfield 15, 3) := by decide +kernel
theorem dX5_tell_74 : decode cX5_tell 74 = .ok (.aload_n 0, 1) := by decide +kernel
theorem dX5_tell_75 : decode cX5_tell 75 = .ok (.getfield 15, 3) := by decide +kernel
theorem dX5_tell_78 : decode cX5_tell 78 = .ok (.iconst 1, 1) := by decide +kernel
theorem dX5_tell_79 : decode cX5_tell 79 = .ok (.isub, 1) := by decide +kernel
theorem dX5_tell_80 : decode cX5_tell 80 = .ok (.ireturn, 1) := by decide +kernel
theorem dX6_init_0 : decode cX6_init 0 = .ok (.aload_n 0, 1) := by decide +kernel
theorem dX6_init_1 : decode cX6_init 1 = .ok (.invokespecial 3, 3) := by decide +kernel
theorem dX6_init_4 : decode cX6_init 4 = .ok (.aload_n 0, 1) := by decide +kernel
theorem dX6_init_5 : decode cX6_init 5 = .ok (.iconst 3, 1) := by decide +kernel
theorem dX6_init_6 : decode cX6_init 6 = .ok (.newarray .int, 2) := by decide +kernel
theorem dX6_init_8 : decode cX6_init 8 = .ok (.putfield 9, 3) := by decide +kernel
theorem dX6_init_11 : decode cX6_init 11 = .ok (.aload_n 0, 1) := by decide +kernel
theorem dX6_init_12 : decode cX6_init 12 = .ok (.bipush 41, 2) := by decide +kernel
theorem dX6_init_14 : decode cX6_init 14 = .ok (.newarray .int, 2) := by decide +kernel
theorem dX6_init_16 : decode cX6_init 16 = .ok (.putfield 15, 3) := by decide +kernel
theorem dX6_init_19 : decode cX6_init 19 = .ok (.return_, 1) := by decide +kernel
theorem dX6_ask_0 : decode cX6_ask 0 = .ok (.aload_n 0, 1) := by decide +kernel
theorem dX6_ask_1 : decode cX6_ask 1 = .ok (.aload_n 1, 1) := by decide +kernel
theorem dX6_ask_2 : decode cX6_ask 2 = .ok (.putfield 18, 3) := by decide +kernel
theorem dX6_ask_5 : decode cX6_ask 5 = .ok (.aload_n 0, 1) := by decide +kernel
theorem dX6_ask_6 : decode cX6_ask 6 = .ok (.aload_n 2, 1) := by decide +kernel
theorem dX6_ask_7 : decode cX6_ask 7 = .ok (.putfield 22, 3) := by decide +kernel
theorem dX6_ask_10 : decode cX6_ask 10 = .ok (.aload_n 0, 1) := by decide +kernel
theorem dX6_ask_11 : decode cX6_ask 11 = .ok (.iload_n 3, 1) := by decide +kernel
theorem dX6_ask_12 : decode cX6_ask 12 = .ok (.iload 4, 2) := by decide +kernel
theorem dX6_ask_14 : decode cX6_ask 14 = .ok (.aload_n 0, 1) := by decide +kernel
theorem dX6_ask_15 : decode cX6_ask 15 = .ok (.getfield 22, 3) := by decide +kernel
theorem dX6_ask_18 : decode cX6_ask 18 = .ok (.getfield 26, 3) := by decide +kernel
theorem dX6_ask_21 : decode cX6_ask 21 = .ok (.iconst 1, 1) := by decide +kernel
theorem dX6_ask_22 : decode cX6_ask 22 = .ok (.iadd, 1) := by decide +kernel
theorem dX6_ask_23 : decode cX6_ask 23 = .ok (.invokevirtual 224, 3) := by decide +kernel
theorem dX6_ask_26 : decode cX6_ask 26 = .ok (.ireturn, 1) := by decide +kernel
theorem dX6_bringBack_0 : decode cX6_bringBack 0 = .ok (.aload_n 0, 1) := by decide +kernel
theorem dX6_bringBack_1 : decode cX6_bringBack 1 = .ok (.getfield 22, 3) := by decide +kernel
theorem dX6_bringBack_4 : decode cX6_bringBack 4 = .ok (.getfield 46, 3) := by decide +kernel
theorem dX6_bringBack_7 : decode cX6_bringBack 7 = .ok (.iload_n 1, 1) := by decide +kernel
theorem dX6_bringBack_8 : decode cX6_bringBack 8 = .ok (.aaload, 1) := by decide +kernel
theorem dX6_bringBack_9 : decode cX6_bringBack 9 = .ok (.astore_n 2, 1) := by decide +kernel
theorem dX6_bringBack_10 : decode cX6_bringBack 10 = .ok (.aload_n 2, 1) := by decide +kernel
theorem dX6_bringBack_11 : decode cX6_bringBack 11 = .ok (.iconst 0, 1) := by decide +kernel
theorem dX6_bringBack_12 : decode cX6_bringBack 12 = .ok (.putfield 212, 3) := by decide +kernel
theorem dX6_bringBack_15 : decode cX6_bringBack 15 = .ok (.aload_n 2, 1) := by decide +kernel
theorem dX6_bringBack_16 : decode cX6_bringBack 16 = .ok (.iconst 0, 1) := by decide +kernel
theorem dX6_bringBack_17 : decode cX6_bringBack 17 = .ok (.putfield 65, 3) := by decide +kernel
theorem dX6_bringBack_20 : decode cX6_bringBack 20 = .ok (.aload_n 2, 1) := by decide +kernel
theorem dX6_bringBack_21 : decode cX6_bringBack 21 = .ok (.iconst 0, 1) := by decide +kernel
theorem dX6_bringBack_22 : decode cX6_bringBack 22 = .ok (.putfield 49, 3) := by decide +kernel
theorem dX6_bringBack_25 : decode cX6_bringBack 25 = .ok (.aload_n 2, 1) := by decide +kernel
theorem dX6_bringBack_26 : decode cX6_bringBack 26 = .ok (.iconst (-1), 1) := by decide +kernel
theorem dX6_bringBack_27 : decode cX6_bringBack 27 = .ok (.putfield 204, 3) := by decide +kernel
theorem dX6_bringBack_30 : decode cX6_bringBack 30 = .ok (.aload_n 2, 1) := by decide +kernel
theorem dX6_bringBack_31 : decode cX6_bringBack 31 = .ok (.iconst 0, 1) := by decide +kernel
theorem dX6_bringBack_32 : decode cX6_bringBack 32 = .ok (.putfield 145, 3) := by decide +kernel
theorem dX6_bringBack_35 : decode cX6_bringBack 35 = .ok (.aload_n 2, 1) := by decide +kernel
theorem dX6_bringBack_36 : decode cX6_bringBack 36 = .ok (.iconst 1, 1) := by decide +kernel
theorem dX6_bringBack_37 : decode cX6_bringBack 37 = .ok (.putfield 175, 3) := by decide +kernel
theorem dX6_bringBack_40 : decode cX6_bringBack 40 = .ok (.aload_n 2, 1) := by decide +kernel
theorem dX6_bringBack_41 : decode cX6_bringBack 41 = .ok (.dup, 1) := by decide +kernel
theorem dX6_bringBack_42 : decode cX6_bringBack 42 = .ok (.getfield 248, 3) := by decide +kernel
theorem dX6_bringBack_45 : decode cX6_bringBack 45 = .ok (.iconst 1, 1) := by decide +kernel
theorem dX6_bringBack_46 : decode cX6_bringBack 46 = .ok (.iadd, 1) := by decide +kernel
theorem dX6_bringBack_47 : decode cX6_bringBack 47 = .ok (.putfield 248, 3) := by decide +kernel
theorem dX6_bringBack_50 : decode cX6_bringBack 50 = .ok (.aload_n 0, 1) := by decide +kernel
theorem dX6_bringBack_51 : decode cX6_bringBack 51 = .ok (.getfield 22, 3) := by decide +kernel
theorem dX6_bringBack_54 : decode cX6_bringBack 54 = .ok (.getfield 88, 3) := by decide +kernel
theorem dX6_bringBack_57 : decode cX6_bringBack 57 = .ok (.getfield 114, 3) := by decide +kernel
theorem dX6_bringBack_60 : decode cX6_bringBack 60 = .ok (.bipush 7, 2) := by decide +kernel
theorem dX6_bringBack_62 : decode cX6_bringBack 62 = .ok (.dup2, 1) := by decide +kernel
theorem dX6_bringBack_63 : decode cX6_bringBack 63 = .ok (.iaload, 1) := by decide +kernel
theorem dX6_bringBack_64 : decode cX6_bringBack 64 = .ok (.iconst 1, 1) := by decide +kernel
theorem dX6_bringBack_65 : decode cX6_bringBack 65 = .ok (.iadd, 1) := by decide +kernel
theorem dX6_bringBack_66 : decode cX6_bringBack 66 = .ok (.iastore, 1) := by decide +kernel
theorem dX6_bringBack_67 : decode cX6_bringBack 67 = .ok (.aload_n 0, 1) := by decide +kernel
theorem dX6_bringBack_68 : decode cX6_bringBack 68 = .ok (.bipush 8, 2) := by decide +kernel
theorem dX6_bringBack_70 : decode cX6_bringBack 70 = .ok (.iload_n 1, 1) := by decide +kernel
theorem dX6_bringBack_71 : decode cX6_bringBack 71 = .ok (.iconst (-1), 1) := by decide +kernel
theorem dX6_bringBack_72 : decode cX6_bringBack 72 = .ok (.iconst (-1), 1) := by decide +kernel
theorem dX6_bringBack_73 : decode cX6_bringBack 73 = .ok (.invokevirtual 117, 3) := by decide +kernel
theorem dX6_bringBack_76 : decode cX6_bringBack 76 = .ok (.pop, 1) := by decide +kernel
theorem dX6_bringBack_77 : decode cX6_bringBack 77 = .ok (.return_, 1) := by decide +kernel
theorem dX6_countBumps_0 : decode cX6_countBumps 0 = .ok (.iconst 0, 1) := by decide +kernel
theorem dX6_countBumps_1 : decode cX6_countBumps 1 = .ok (.istore_n 1, 1) := by decide +kernel
theorem dX6_countBumps_2 : decode cX6_countBumps 2 = .ok (.iload_n 1, 1) := by decide +kernel
theorem dX6_countBumps_3 : decode cX6_countBumps 3 = .ok (.aload_n 0, 1) := by decide +kernel
theorem dX6_countBumps_4 : decode cX6_countBumps 4 = .ok (.getfield 18, 3) := by decide +kernel
theorem dX6_countBumps_7 : decode cX6_countBumps 7 = .ok (.getfield 41, 3) := by decide +kernel
theorem dX6_countBumps_10 : decode cX6_countBumps 10 = .ok (.if_icmp .ge 101, 3) := by decide +kernel
theorem dX6_countBumps_13 : decode cX6_countBumps 13 = .ok (.iload_n 1, 1) := by decide +kernel
theorem dX6_countBumps_14 : decode cX6_countBumps 14 = .ok (.iconst 1, 1) := by decide +kernel
theorem dX6_countBumps_15 : decode cX6_countBumps 15 = .ok (.iadd, 1) := by decide +kernel
theorem dX6_countBumps_16 : decode cX6_countBumps 16 = .ok (.istore_n 2, 1) := by decide +kernel
theorem dX6_countBumps_17 : decode cX6_countBumps 17 = .ok (.iload_n 2, 1) := by decide +kernel
theorem dX6_countBumps_18 : decode cX6_countBumps 18 = .ok (.aload_n 0, 1) := by decide +kernel
theorem dX6_countBumps_19 : decode cX6_countBumps 19 = .ok (.getfield 18, 3) := by decide +kernel
theorem dX6_countBumps_22 : decode cX6_countBumps 22 = .ok (.getfield 41, 3) := by decide +kernel
theorem dX6_countBumps_25 : decode cX6_countBumps 25 = .ok (.if_icmp .ge 80, 3) := by decide +kernel
theorem dX6_countBumps_28 : decode cX6_countBumps 28 = .ok (.aload_n 0, 1) := by decide +kernel
theorem dX6_countBumps_29 : decode cX6_countBumps 29 = .ok (.getfield 22, 3) := by decide +kernel
theorem dX6_countBumps_32 : decode cX6_countBumps 32 = .ok (.getfield 46, 3) := by decide +kernel
theorem dX6_countBumps_35 : decode cX6_countBumps 35 = .ok (.iload_n 1, 1) := by decide +kernel
theorem dX6_countBumps_36 : decode cX6_countBumps 36 = .ok (.aaload, 1) := by decide +kernel
theorem dX6_countBumps_37 : decode cX6_countBumps 37 = .ok (.astore_n 3, 1) := by decide +kernel
theorem dX6_countBumps_38 : decode cX6_countBumps 38 = .ok (.aload_n 0, 1) := by decide +kernel
theorem dX6_countBumps_39 : decode cX6_countBumps 39 = .ok (.getfield 22, 3) := by decide +kernel
theorem dX6_countBumps_42 : decode cX6_countBumps 42 = .ok (.getfield 46, 3) := by decide +kernel
theorem dX6_countBumps_45 : decode cX6_countBumps 45 = .ok (.iload_n 2, 1) := by decide +kernel
theorem dX6_countBumps_46 : decode cX6_countBumps 46 = .ok (.aaload, 1) := by decide +kernel
theorem dX6_countBumps_47 : decode cX6_countBumps 47 = .ok (.astore 4, 2) := by decide +kernel
theorem dX6_countBumps_49 : decode cX6_countBumps 49 = .ok (.aload_n 3, 1) := by decide +kernel
theorem dX6_countBumps_50 : decode cX6_countBumps 50 = .ok (.getfield 49, 3) := by decide +kernel
theorem dX6_countBumps_53 : decode cX6_countBumps 53 = .ok (.iconst 3, 1) := by decide +kernel
theorem dX6_countBumps_54 : decode cX6_countBumps 54 = .ok (.if_icmp .eq 45, 3) := by decide +kernel
theorem dX6_countBumps_57 : decode cX6_countBumps 57 = .ok (.aload 4, 2) := by decide +kernel
theorem dX6_countBumps_59 : decode cX6_countBumps 59 = .ok (.getfield 49, 3) := by decide +kernel
theorem dX6_countBumps_62 : decode cX6_countBumps 62 = .ok (.iconst 3, 1) := by decide +kernel
theorem dX6_countBumps_63 : decode cX6_countBumps 63 = .ok (.if_icmp .eq 36, 3) := by decide +kernel
theorem dX6_countBumps_66 : decode cX6_countBumps 66 = .ok (.aload_n 3, 1) := by decide +kernel
theorem dX6_countBumps_67 : decode cX6_countBumps 67 = .ok (.getfield 212, 3) := by decide +kernel
theorem dX6_countBumps_70 : decode cX6_countBumps 70 = .ok (.aload 4, 2) := by decide +kernel
theorem dX6_countBumps_72 : decode cX6_countBumps 72 = .ok (.getfield 212, 3) := by decide +kernel
theorem dX6_countBumps_75 : decode cX6_countBumps 75 = .ok (.isub, 1) := by decide +kernel
theorem dX6_countBumps_76 : decode cX6_countBumps 76 = .ok (.invokestatic 230, 3) := by decide +kernel
theorem dX6_countBumps_79 : decode cX6_countBumps 79 = .ok (.iconst 5, 1) := by decide +kernel
theorem dX6_countBumps_80 : decode cX6_countBumps 80 = .ok (.if_icmp .gt 19, 3) := by decide +kernel
theorem dX6_countBumps_83 : decode cX6_countBumps 83 = .ok (.aload_n 0, 1) := by decide +kernel
theorem dX6_countBumps_84 : decode cX6_countBumps 84 = .ok (.getfield 22, 3) := by decide +kernel
theorem dX6_countBumps_87 : decode cX6_countBumps 87 = .ok (.getfield 88, 3) := by decide +kernel
theorem dX6_countBumps_90 : decode cX6_countBumps 90 = .ok (.getfield 114, 3) := by decide +kernel
theorem dX6_countBumps_93 : decode cX6_countBumps 93 = .ok (.iconst 4, 1) := by decide +kernel
theorem dX6_countBumps_94 : decode cX6_countBumps 94 = .ok (.dup2, 1) := by decide +kernel
theorem dX6_countBumps_95 : decode cX6_countBumps 95 = .ok (.iaload, 1) := by decide +kernel
theorem dX6_countBumps_96 : decode cX6_countBumps 96 = .ok (.iconst 1, 1) := by decide +kernel
theorem dX6_countBumps_97 : decode cX6_countBumps 97 = .ok (.iadd, 1) := by decide +kernel
theorem dX6_countBumps_98 : decode cX6_countBumps 98 = .ok (.iastore, 1) := by decide +kernel
theorem dX6_countBumps_99 : decode cX6_countBumps 99 = .ok (.iinc 2 1, 3) := by decide +kernel
theorem dX6_countBumps_102 : decode cX6_countBumps 102 = .ok (.goto (-85), 3) := by decide +kernel
theorem dX6_countBumps_105 : decode cX6_countBumps 105 = .ok (.iinc 1 1, 3) := by decide +kernel
theorem dX6_countBumps_108 : decode cX6_countBumps 108 = .ok (.goto (-106), 3) := by decide +kernel
theorem dX6_countBumps_111 : decode cX6_countBumps 111 = .ok (.return_, 1) := by decide +kernel
theorem dX6_cutRope_0 : decode cX6_cutRope 0 = .ok (.aload_n 0, 1) := by decide +kernel
theorem dX6_cutRope_1 : decode cX6_cutRope 1 = .ok (.getfield 18, 3) := by decide +kernel
theorem dX6_cutRope_4 : decode cX6_cutRope 4 = .ok (.iload_n 1, 1) := by decide +kernel
theorem dX6_cutRope_5 : decode cX6_cutRope 5 = .ok (.invokevirtual 124, 3) := by decide +kernel
theorem dX6_cutRope_8 : decode cX6_cutRope 8 = .ok (.ifCond .eq 50, 3) := by decide +kernel
theorem dX6_cutRope_11 : decode cX6_cutRope 11 = .ok (.aload_n 0, 1) := by decide +kernel
theorem dX6_cutRope_12 : decode cX6_cutRope 12 = .ok (.getfield 22, 3) := by decide +kernel
theorem dX6_cutRope_15 : decode cX6_cutRope 15 = .ok (.getfield 128, 3) := by decide +kernel
theorem dX6_cutRope_18 : decode cX6_cutRope 18 = .ok (.iload_n 1, 1) := by decide +kernel
theorem dX6_cutRope_19 : decode cX6_cutRope 19 = .ok (.baload, 1) := by decide +kernel
theorem dX6_cutRope_20 : decode cX6_cutRope 20 = .ok (.ifCond .ne 38, 3) := by decide +kernel
theorem dX6_cutRope_23 : decode cX6_cutRope 23 = .ok (.aload_n 0, 1) := by decide +kernel
theorem dX6_cutRope_24 : decode cX6_cutRope 24 = .ok (.getfield 22, 3) := by decide +kernel
theorem dX6_cutRope_27 : decode cX6_cutRope 27 = .ok (.getfield 128, 3) := by decide +kernel
theorem dX6_cutRope_30 : decode cX6_cutRope 30 = .ok (.iload_n 1, 1) := by decide +kernel
theorem dX6_cutRope_31 : decode cX6_cutRope 31 = .ok (.iconst 1, 1) := by decide +kernel
theorem dX6_cutRope_32 : decode cX6_cutRope 32 = .ok (.bastore, 1) := by decide +kernel
theorem dX6_cutRope_33 : decode cX6_cutRope 33 = .ok (.aload_n 0, 1) := by decide +kernel
theorem dX6_cutRope_34 : decode cX6_cutRope 34 = .ok (.getfield 22, 3) := by decide +kernel
theorem dX6_cutRope_37 : decode cX6_cutRope 37 = .ok (.getfield 88, 3) := by decide +kernel
theorem dX6_cutRope_40 : decode cX6_cutRope 40 = .ok (.getfield 114, 3) := by decide +kernel
theorem dX6_cutRope_43 : decode cX6_cutRope 43 = .ok (.iconst 2, 1) := by decide +kernel
theorem dX6_cutRope_44 : decode cX6_cutRope 44 = .ok (.dup2, 1) := by decide +kernel
theorem dX6_cutRope_45 : decode cX6_cutRope 45 = .ok (.iaload, 1) := by decide +kernel
theorem dX6_cutRope_46 : decode cX6_cutRope 46 = .ok (.iconst 1, 1) := by decide +kernel
theorem dX6_cutRope_47 : decode cX6_cutRope 47 = .ok (.iadd, 1) := by decide +kernel
theorem dX6_cutRope_48 : decode cX6_cutRope 48 = .ok (.iastore, 1) := by decide +kernel
theorem dX6_cutRope_49 : decode cX6_cutRope 49 = .ok (.aload_n 0, 1) := by decide +kernel
theorem dX6_cutRope_50 : decode cX6_cutRope 50 = .ok (.iconst 2, 1) := by decide +kernel
theorem dX6_cutRope_51 : decode cX6_cutRope 51 = .ok (.iload_n 2, 1) := by decide +kernel
theorem dX6_cutRope_52 : decode cX6_cutRope 52 = .ok (.iload_n 1, 1) := by decide +kernel
theorem dX6_cutRope_53 : decode cX6_cutRope 53 = .ok (.iload_n 3, 1) := by decide +kernel
theorem dX6_cutRope_54 : decode cX6_cutRope 54 = .ok (.invokevirtual 117, 3) := by decide +kernel
theorem dX6_cutRope_57 : decode cX6_cutRope 57 = .ok (.pop, 1) := by decide +kernel
theorem dX6_cutRope_58 : decode cX6_cutRope 58 = .ok (.return_, 1) := by decide +kernel
theorem dX6_dipRopes_0 : decode cX6_dipRopes 0 = .ok (.iconst 0, 1) := by decide +kernel
theorem dX6_dipRopes_1 : decode cX6_dipRopes 1 = .ok (.istore_n 1, 1) := by decide +kernel
theorem dX6_dipRopes_2 : decode cX6_dipRopes 2 = .ok (.iload_n 1, 1) := by decide +kernel
theorem dX6_dipRopes_3 : decode cX6_dipRopes 3 = .ok (.aload_n 0, 1) := by decide +kernel
theorem dX6_dipRopes_4 : decode cX6_dipRopes 4 = .ok (.getfield 18, 3) := by decide +kernel
theorem dX6_dipRopes_7 : decode cX6_dipRopes 7 = .ok (.getfield 98, 3) := by decide +kernel
theorem dX6_dipRopes_10 : decode cX6_dipRopes 10 = .ok (.if_icmp .ge 77, 3) := by decide +kernel
theorem dX6_dipRopes_13 : decode cX6_dipRopes 13 = .ok (.aload_n 0, 1) := by decide +kernel
theorem dX6_dipRopes_14 : decode cX6_dipRopes 14 = .ok (.getfield 9, 3) := by decide +kernel
theorem dX6_dipRopes_17 : decode cX6_dipRopes 17 = .ok (.iload_n 1, 1) := by decide +kernel
theorem dX6_dipRopes_18 : decode cX6_dipRopes 18 = .ok (.aload_n 0, 1) := by decide +kernel
theorem dX6_dipRopes_19 : decode cX6_dipRopes 19 = .ok (.getfield 18, 3) := by decide +kernel
theorem dX6_dipRopes_22 : decode cX6_dipRopes 22 = .ok (.getfield 101, 3) := by decide +kernel
theorem dX6_dipRopes_25 : decode cX6_dipRopes 25 = .ok (.iload_n 1, 1) := by decide +kernel
theorem dX6_dipRopes_26 : decode cX6_dipRopes 26 = .ok (.aaload, 1) := by decide +kernel
theorem dX6_dipRopes_27 : decode cX6_dipRopes 27 = .ok (.getfield 105, 3) := by decide +kernel
theorem dX6_dipRopes_30 : decode cX6_dipRopes 30 = .ok (.iastore, 1) := by decide +kernel
theorem dX6_dipRopes_31 : decode cX6_dipRopes 31 = .ok (.aload_n 0, 1) := by decide +kernel
theorem dX6_dipRopes_32 : decode cX6_dipRopes 32 = .ok (.getfield 22, 3) := by decide +kernel
theorem dX6_dipRopes_35 : decode cX6_dipRopes 35 = .ok (.aload_n 0, 1) := by decide +kernel
theorem dX6_dipRopes_36 : decode cX6_dipRopes 36 = .ok (.getfield 18, 3) := by decide +kernel
theorem dX6_dipRopes_39 : decode cX6_dipRopes 39 = .ok (.iload_n 1, 1) := by decide +kernel
theorem dX6_dipRopes_40 : decode cX6_dipRopes 40 = .ok (.invokevirtual 110, 3) := by decide +kernel
theorem dX6_dipRopes_43 : decode cX6_dipRopes 43 = .ok (.ifCond .eq 38, 3) := by decide +kernel
theorem dX6_dipRopes_46 : decode cX6_dipRopes 46 = .ok (.aload_n 0, 1) := by decide +kernel
theorem dX6_dipRopes_47 : decode cX6_dipRopes 47 = .ok (.getfield 9, 3) := by decide +kernel
theorem dX6_dipRopes_50 : decode cX6_dipRopes 50 = .ok (.iload_n 1, 1) := by decide +kernel
theorem dX6_dipRopes_51 : decode cX6_dipRopes 51 = .ok (.dup2, 1) := by decide +kernel
theorem dX6_dipRopes_52 : decode cX6_dipRopes 52 = .ok (.iaload, 1) := by decide +kernel
theorem dX6_dipRopes_53 : decode cX6_dipRopes 53 = .ok (.iconst 2, 1) := by decide +kernel
theorem dX6_dipRopes_54 : decode cX6_dipRopes 54 = .ok (.idiv, 1) := by decide +kernel
theorem dX6_dipRopes_55 : decode cX6_dipRopes 55 = .ok (.iastore, 1) := by decide +kernel
theorem dX6_dipRopes_56 : decode cX6_dipRopes 56 = .ok (.aload_n 0, 1) := by decide +kernel
theorem dX6_dipRopes_57 : decode cX6_dipRopes 57 = .ok (.getfield 22, 3) := by decide +kernel
theorem dX6_dipRopes_60 : decode cX6_dipRopes 60 = .ok (.getfield 88, 3) := by decide +kernel
theorem dX6_dipRopes_63 : decode cX6_dipRopes 63 = .ok (.getfield 114, 3) := by decide +kernel
theorem dX6_dipRopes_66 : decode cX6_dipRopes 66 = .ok (.iconst 3, 1) := by decide +kernel
theorem dX6_dipRopes_67 : decode cX6_dipRopes 67 = .ok (.dup2, 1) := by decide +kernel
theorem dX6_dipRopes_68 : decode cX6_dipRopes 68 = .ok (.iaload, 1) := by decide +kernel
theorem dX6_dipRopes_69 : decode cX6_dipRopes 69 = .ok (.iconst 1, 1) := by decide +kernel
theorem dX6_dipRopes_70 : decode cX6_dipRopes 70 = .ok (.iadd, 1) := by decide +kernel
theorem dX6_dipRopes_71 : decode cX6_dipRopes 71 = .ok (.iastore, 1) := by decide +kernel
theorem dX6_dipRopes_72 : decode cX6_dipRopes 72 = .ok (.aload_n 0, 1) := by decide +kernel
theorem dX6_dipRopes_73 : decode cX6_dipRopes 73 = .ok (.iconst 3, 1) := by decide +kernel
theorem dX6_dipRopes_74 : decode cX6_dipRopes 74 = .ok (.iconst (-1), 1) := by decide +kernel
theorem dX6_dipRopes_75 : decode cX6_dipRopes 75 = .ok (.iload_n 1, 1) := by decide +kernel
theorem dX6_dipRopes_76 : decode cX6_dipRopes 76 = .ok (.iconst (-1), 1) := by decide +kernel
theorem dX6_dipRopes_77 : decode cX6_dipRopes 77 = .ok (.invokevirtual 117, 3) := by decide +kernel
theorem dX6_dipRopes_80 : decode cX6_dipRopes 80 = .ok (.pop, 1) := by decide +kernel
theorem dX6_dipRopes_81 : decode cX6_dipRopes 81 = .ok (.iinc 1 1, 3) := by decide +kernel
theorem dX6_dipRopes_84 : decode cX6_dipRopes 84 = .ok (.goto (-82), 3) := by decide +kernel
theorem dX6_dipRopes_87 : decode cX6_dipRopes 87 = .ok (.return_, 1) := by decide +kernel
theorem dX6_gripsOn_0 : decode cX6_gripsOn 0 = .ok (.iconst 0, 1) := by decide +kernel
theorem dX6_gripsOn_1 : decode cX6_gripsOn 1 = .ok (.istore_n 2, 1) := by decide +kernel
theorem dX6_gripsOn_2 : decode cX6_gripsOn 2 = .ok (.iconst 0, 1) := by decide +kernel
theorem dX6_gripsOn_3 : decode cX6_gripsOn 3 = .ok (.istore_n 3, 1) := by decide +kernel
theorem dX6_gripsOn_4 : decode cX6_gripsOn 4 = .ok (.iload_n 3, 1) := by decide +kernel
theorem dX6_gripsOn_5 : decode cX6_gripsOn 5 = .ok (.aload_n 0, 1) := by decide +kernel
theorem dX6_gripsOn_6 : decode cX6_gripsOn 6 = .ok (.getfield 18, 3) := by decide +kernel
theorem dX6_gripsOn_9 : decode cX6_gripsOn 9 = .ok (.getfield 41, 3) := by decide +kernel
theorem dX6_gripsOn_12 : decode cX6_gripsOn 12 = .ok (.if_icmp .ge 43, 3) := by decide +kernel
theorem dX6_gripsOn_15 : decode cX6_gripsOn 15 = .ok (.aload_n 0, 1) := by decide +kernel
theorem dX6_gripsOn_16 : decode cX6_gripsOn 16 = .ok (.getfield 22, 3) := by decide +kernel
theorem dX6_gripsOn_19 : decode cX6_gripsOn 19 = .ok (.getfield 46, 3) := by decide +kernel
theorem dX6_gripsOn_22 : decode cX6_gripsOn 22 = .ok (.iload_n 3, 1) := by decide +kernel
theorem dX6_gripsOn_23 : decode cX6_gripsOn 23 = .ok (.aaload, 1) := by decide +kernel
theorem dX6_gripsOn_24 : decode cX6_gripsOn 24 = .ok (.getfield 49, 3) := by decide +kernel
theorem dX6_gripsOn_27 : decode cX6_gripsOn 27 = .ok (.ifCond .ne 22, 3) := by decide +kernel
theorem dX6_gripsOn_30 : decode cX6_gripsOn 30 = .ok (.aload_n 0, 1) := by decide +kernel
theorem dX6_gripsOn_31 : decode cX6_gripsOn 31 = .ok (.getfield 22, 3) := by decide +kernel
theorem dX6_gripsOn_34 : decode cX6_gripsOn 34 = .ok (.getfield 46, 3) := by decide +kernel
theorem dX6_gripsOn_37 : decode cX6_gripsOn 37 = .ok (.iload_n 3, 1) := by decide +kernel
theorem dX6_gripsOn_38 : decode cX6_gripsOn 38 = .ok (.aaload, 1) := by decide +kernel
theorem dX6_gripsOn_39 : decode cX6_gripsOn 39 = .ok (.invokevirtual 68, 3) := by decide +kernel
theorem dX6_gripsOn_42 : decode cX6_gripsOn 42 = .ok (.iload_n 1, 1) := by decide +kernel
theorem dX6_gripsOn_43 : decode cX6_gripsOn 43 = .ok (.if_icmp .ne 6, 3) := by decide +kernel
theorem dX6_gripsOn_46 : decode cX6_gripsOn 46 = .ok (.iinc 2 1, 3) := by decide +kernel
theorem dX6_gripsOn_49 : decode cX6_gripsOn 49 = .ok (.iinc 3 1, 3) := by decide +kernel
theorem dX6_gripsOn_52 : decode cX6_gripsOn 52 = .ok (.goto (-48), 3) := by decide +kernel
theorem dX6_gripsOn_55 : decode cX6_gripsOn 55 = .ok (.iload_n 2, 1) := by decide +kernel
theorem dX6_gripsOn_56 : decode cX6_gripsOn 56 = .ok (.ireturn, 1) := by decide +kernel
theorem dX6_joined_0 : decode cX6_joined 0 = .ok (.iload_n 0, 1) := by decide +kernel
theorem dX6_joined_1 : decode cX6_joined 1 = .ok (.tableswitch 112 9 15 #[43, 57, 71, 82, 93, 104, 108], 43) := by decide +kernel
theorem dX6_joined_44 : decode cX6_joined 44 = .ok (.iload_n 1, 1) := by decide +kernel
theorem dX6_joined_45 : decode cX6_joined 45 = .ok (.ifCond .ne 7, 3) := by decide +kernel
theorem dX6_joined_48 : decode cX6_joined 48 = .ok (.iload_n 2, 1) := by decide +kernel
theorem dX6_joined_49 : decode cX6_joined 49 = .ok (.ifCond .eq 7, 3) := by decide +kernel
theorem dX6_joined_52 : decode cX6_joined 52 = .ok (.iconst 1, 1) := by decide +kernel
theorem dX6_joined_53 : decode cX6_joined 53 = .ok (.goto 4, 3) := by decide +kernel
theorem dX6_joined_56 : decode cX6_joined 56 = .ok (.iconst 0, 1) := by decide +kernel
theorem dX6_joined_57 : decode cX6_joined 57 = .ok (.ireturn, 1) := by decide +kernel
theorem dX6_joined_58 : decode cX6_joined 58 = .ok (.iload_n 1, 1) := by decide +kernel
theorem dX6_joined_59 : decode cX6_joined 59 = .ok (.ifCond .eq 11, 3) := by decide +kernel
theorem dX6_joined_62 : decode cX6_joined 62 = .ok (.iload_n 2, 1) := by decide +kernel
theorem dX6_joined_63 : decode cX6_joined 63 = .ok (.ifCond .eq 7, 3) := by decide +kernel
theorem dX6_joined_66 : decode cX6_joined 66 = .ok (.iconst 1, 1) := by decide +kernel
theorem dX6_joined_67 : decode cX6_joined 67 = .ok (.goto 4, 3) := by decide +kernel
theorem dX6_joined_70 : decode cX6_joined 70 = .ok (.iconst 0, 1) := by decide +kernel
theorem dX6_joined_71 : decode cX6_joined 71 = .ok (.ireturn, 1) := by decide +kernel
theorem dX6_joined_72 : decode cX6_joined 72 = .ok (.iload_n 1, 1) := by decide +kernel
theorem dX6_joined_73 : decode cX6_joined 73 = .ok (.iload_n 2, 1) := by decide +kernel
theorem dX6_joined_74 : decode cX6_joined 74 = .ok (.if_icmp .ge 7, 3) := by decide +kernel
theorem dX6_joined_77 : decode cX6_joined 77 = .ok (.iconst 1, 1) := by decide +kernel
theorem dX6_joined_78 : decode cX6_joined 78 = .ok (.goto 4, 3) := by decide +kernel
theorem dX6_joined_81 : decode cX6_joined 81 = .ok (.iconst 0, 1) := by decide +kernel
theorem dX6_joined_82 : decode cX6_joined 82 = .ok (.ireturn, 1) := by decide +kernel
theorem dX6_joined_83 : decode cX6_joined 83 = .ok (.iload_n 1, 1) := by decide +kernel
theorem dX6_joined_84 : decode cX6_joined 84 = .ok (.iload_n 2, 1) := by decide +kernel
theorem dX6_joined_85 : decode cX6_joined 85 = .ok (.if_icmp .le 7, 3) := by decide +kernel
theorem dX6_joined_88 : decode cX6_joined 88 = .ok (.iconst 1, 1) := by decide +kernel
theorem dX6_joined_89 : decode cX6_joined 89 = .ok (.goto 4, 3) := by decide +kernel
theorem dX6_joined_92 : decode cX6_joined 92 = .ok (.iconst 0, 1) := by decide +kernel
theorem dX6_joined_93 : decode cX6_joined 93 = .ok (.ireturn, 1) := by decide +kernel
theorem dX6_joined_94 : decode cX6_joined 94 = .ok (.iload_n 1, 1) := by decide +kernel
theorem dX6_joined_95 : decode cX6_joined 95 = .ok (.iload_n 2, 1) := by decide +kernel
theorem dX6_joined_96 : decode cX6_joined 96 = .ok (.if_icmp .ne 7, 3) := by decide +kernel
theorem dX6_joined_99 : decode cX6_joined 99 = .ok (.iconst 1, 1) := by decide +kernel
theorem dX6_joined_100 : decode cX6_joined 100 = .ok (.goto 4, 3) := by decide +kernel
theorem dX6_joined_103 : decode cX6_joined 103 = .ok (.iconst 0, 1) := by decide +kernel
theorem dX6_joined_104 : decode cX6_joined 104 = .ok (.ireturn, 1) := by decide +kernel
theorem dX6_joined_105 : decode cX6_joined 105 = .ok (.iload_n 1, 1) := by decide +kernel
theorem dX6_joined_106 : decode cX6_joined 106 = .ok (.iload_n 2, 1) := by decide +kernel
theorem dX6_joined_107 : decode cX6_joined 107 = .ok (.iadd, 1) := by decide +kernel
theorem dX6_joined_108 : decode cX6_joined 108 = .ok (.ireturn, 1) := by decide +kernel
theorem dX6_joined_109 : decode cX6_joined 109 = .ok (.iload_n 1, 1) := by decide +kernel
theorem dX6_joined_110 : decode cX6_joined 110 = .ok (.iload_n 2, 1) := by decide +kernel
theorem dX6_joined_111 : decode cX6_joined 111 = .ok (.isub, 1) := by decide +kernel
theorem dX6_joined_112 : decode cX6_joined 112 = .ok (.ireturn, 1) := by decide +kernel
theorem dX6_joined_113 : decode cX6_joined 113 = .ok (.iload_n 1, 1) := by decide +kernel
theorem dX6_joined_114 : decode cX6_joined 114 = .ok (.iload_n 2, 1) := by decide +kernel
theorem dX6_joined_115 : decode cX6_joined 115 = .ok (.imul, 1) := by decide +kernel
theorem dX6_joined_116 : decode cX6_joined 116 = .ok (.ireturn, 1) := by decide +kernel
theorem dX6_longestDone_0 : decode cX6_longestDone 0 = .ok (.iconst (-1), 1) := by decide +kernel
theorem dX6_longestDone_1 : decode cX6_longestDone 1 = .ok (.istore_n 1, 1) := by decide +kernel
theorem dX6_longestDone_2 : decode cX6_longestDone 2 = .ok (.iconst 0, 1) := by decide +kernel
theorem dX6_longestDone_3 : decode cX6_longestDone 3 = .ok (.istore_n 2, 1) := by decide +kernel
theorem dX6_longestDone_4 : decode cX6_longestDone 4 = .ok (.iload_n 2, 1) := by decide +kernel
theorem dX6_longestDone_5 : decode cX6_longestDone 5 = .ok (.aload_n 0, 1) := by decide +kernel
theorem dX6_longestDone_6 : decode cX6_longestDone 6 = .ok (.getfield 18, 3) := by decide +kernel
theorem dX6_longestDone_9 : decode cX6_longestDone 9 = .ok (.getfield 41, 3) := by decide +kernel
theorem dX6_longestDone_12 : decode cX6_longestDone 12 = .ok (.if_icmp .ge 53, 3) := by decide +kernel
theorem dX6_longestDone_15 : decode cX6_longestDone 15 = .ok (.aload_n 0, 1) := by decide +kernel
theorem dX6_longestDone_16 : decode cX6_longestDone 16 = .ok (.getfield 22, 3) := by decide +kernel
theorem dX6_longestDone_19 : decode cX6_longestDone 19 = .ok (.getfield 46, 3) := by decide +kernel
theorem dX6_longestDone_22 : decode cX6_longestDone 22 = .ok (.iload_n 2, 1) := by decide +kernel
theorem dX6_longestDone_23 : decode cX6_longestDone 23 = .ok (.aaload, 1) := by decide +kernel
theorem dX6_longestDone_24 : decode cX6_longestDone 24 = .ok (.astore_n 3, 1) := by decide +kernel
theorem dX6_longestDone_25 : decode cX6_longestDone 25 = .ok (.aload_n 3, 1) := by decide +kernel
theorem dX6_longestDone_26 : decode cX6_longestDone 26 = .ok (.getfield 49, 3) := by decide +kernel
theorem dX6_longestDone_29 : decode cX6_longestDone 29 = .ok (.iconst 3, 1) := by decide +kernel
theorem dX6_longestDone_30 : decode cX6_longestDone 30 = .ok (.if_icmp .ne 29, 3) := by decide +kernel
theorem dX6_longestDone_33 : decode cX6_longestDone 33 = .ok (.iload_n 1, 1) := by decide +kernel
theorem dX6_longestDone_34 : decode cX6_longestDone 34 = .ok (.iconst (-1), 1) := by decide +kernel
theorem dX6_longestDone_35 : decode cX6_longestDone 35 = .ok (.if_icmp .eq 22, 3) := by decide +kernel
theorem dX6_longestDone_38 : decode cX6_longestDone 38 = .ok (.aload_n 3, 1) := by decide +kernel
theorem dX6_longestDone_39 : decode cX6_longestDone 39 = .ok (.getfield 227, 3) := by decide +kernel
theorem dX6_longestDone_42 : decode cX6_longestDone 42 = .ok (.aload_n 0, 1) := by decide +kernel
theorem dX6_longestDone_43 : decode cX6_longestDone 43 = .ok (.getfield 22, 3) := by decide +kernel
theorem dX6_longestDone_46 : decode cX6_longestDone 46 = .ok (.getfield 46, 3) := by decide +kernel
