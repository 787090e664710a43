theorem dX8_readRope_21 : decode cX8_readRope 21 = .ok (.iload_n 1, 1) := by decide +kernel
theorem dX8_readRope_22 : decode cX8_readRope 22 = .ok (.aaload, 1) := by decide +kernel
theorem dX8_readRope_23 : decode cX8_readRope 23 = .ok (.astore_n 2, 1) := by decide +kernel
theorem dX8_readRope_24 : decode cX8_readRope 24 = .ok (.aload_n 0, 1) := by decide +kernel
theorem dX8_readRope_25 : decode cX8_readRope 25 = .ok (.aload_n 0, 1) := by decide +kernel
theorem dX8_readRope_26 : decode cX8_readRope 26 = .ok (.getfield 18, 3) := by decide +kernel
theorem dX8_readRope_29 : decode cX8_readRope 29 = .ok (.iload_n 1, 1) := by decide +kernel
theorem dX8_readRope_30 : decode cX8_readRope 30 = .ok (.invokevirtual 135, 3) := by decide +kernel
theorem dX8_readRope_33 : decode cX8_readRope 33 = .ok (.aload_n 2, 1) := by decide +kernel
theorem dX8_readRope_34 : decode cX8_readRope 34 = .ok (.aload_n 0, 1) := by decide +kernel
theorem dX8_readRope_35 : decode cX8_readRope 35 = .ok (.iconst 1, 1) := by decide +kernel
theorem dX8_readRope_36 : decode cX8_readRope 36 = .ok (.iconst 1, 1) := by decide +kernel
theorem dX8_readRope_37 : decode cX8_readRope 37 = .ok (.bipush 30, 2) := by decide +kernel
theorem dX8_readRope_39 : decode cX8_readRope 39 = .ok (.invokevirtual 139, 3) := by decide +kernel
theorem dX8_readRope_42 : decode cX8_readRope 42 = .ok (.putfield 143, 3) := by decide +kernel
theorem dX8_readRope_45 : decode cX8_readRope 45 = .ok (.aload_n 2, 1) := by decide +kernel
theorem dX8_readRope_46 : decode cX8_readRope 46 = .ok (.aload_n 0, 1) := by decide +kernel
theorem dX8_readRope_47 : decode cX8_readRope 47 = .ok (.iconst 2, 1) := by decide +kernel
theorem dX8_readRope_48 : decode cX8_readRope 48 = .ok (.bipush 10, 2) := by decide +kernel
theorem dX8_readRope_50 : decode cX8_readRope 50 = .ok (.sipush 200, 3) := by decide +kernel
theorem dX8_readRope_53 : decode cX8_readRope 53 = .ok (.invokevirtual 139, 3) := by decide +kernel
theorem dX8_readRope_56 : decode cX8_readRope 56 = .ok (.putfield 148, 3) := by decide +kernel
theorem dX8_readRope_59 : decode cX8_readRope 59 = .ok (.aload_n 2, 1) := by decide +kernel
theorem dX8_readRope_60 : decode cX8_readRope 60 = .ok (.aload_n 0, 1) := by decide +kernel
theorem dX8_readRope_61 : decode cX8_readRope 61 = .ok (.iconst 3, 1) := by decide +kernel
theorem dX8_readRope_62 : decode cX8_readRope 62 = .ok (.iconst 0, 1) := by decide +kernel
theorem dX8_readRope_63 : decode cX8_readRope 63 = .ok (.bipush 59, 2) := by decide +kernel
theorem dX8_readRope_65 : decode cX8_readRope 65 = .ok (.invokevirtual 139, 3) := by decide +kernel
theorem dX8_readRope_68 : decode cX8_readRope 68 = .ok (.putfield 151, 3) := by decide +kernel
theorem dX8_readRope_71 : decode cX8_readRope 71 = .ok (.aload_n 0, 1) := by decide +kernel
theorem dX8_readRope_72 : decode cX8_readRope 72 = .ok (.iconst 4, 1) := by decide +kernel
theorem dX8_readRope_73 : decode cX8_readRope 73 = .ok (.invokevirtual 154, 3) := by decide +kernel
theorem dX8_readRope_76 : decode cX8_readRope 76 = .ok (.aload_n 2, 1) := by decide +kernel
theorem dX8_readRope_77 : decode cX8_readRope 77 = .ok (.aload_n 0, 1) := by decide +kernel
theorem dX8_readRope_78 : decode cX8_readRope 78 = .ok (.aload_n 2, 1) := by decide +kernel
theorem dX8_readRope_79 : decode cX8_readRope 79 = .ok (.getfield 151, 3) := by decide +kernel
theorem dX8_readRope_82 : decode cX8_readRope 82 = .ok (.bipush 60, 2) := by decide +kernel
theorem dX8_readRope_84 : decode cX8_readRope 84 = .ok (.aload_n 2, 1) := by decide +kernel
theorem dX8_readRope_85 : decode cX8_readRope 85 = .ok (.getfield 151, 3) := by decide +kernel
theorem dX8_readRope_88 : decode cX8_readRope 88 = .ok (.aload_n 2, 1) := by decide +kernel
theorem dX8_readRope_89 : decode cX8_readRope 89 = .ok (.getfield 148, 3) := by decide +kernel
theorem dX8_readRope_92 : decode cX8_readRope 92 = .ok (.iadd, 1) := by decide +kernel
theorem dX8_readRope_93 : decode cX8_readRope 93 = .ok (.invokestatic 157, 3) := by decide +kernel
theorem dX8_readRope_96 : decode cX8_readRope 96 = .ok (.iconst 1, 1) := by decide +kernel
theorem dX8_readRope_97 : decode cX8_readRope 97 = .ok (.isub, 1) := by decide +kernel
theorem dX8_readRope_98 : decode cX8_readRope 98 = .ok (.invokevirtual 163, 3) := by decide +kernel
theorem dX8_readRope_101 : decode cX8_readRope 101 = .ok (.putfield 166, 3) := by decide +kernel
theorem dX8_readRope_104 : decode cX8_readRope 104 = .ok (.aload_n 2, 1) := by decide +kernel
theorem dX8_readRope_105 : decode cX8_readRope 105 = .ok (.getfield 151, 3) := by decide +kernel
theorem dX8_readRope_108 : decode cX8_readRope 108 = .ok (.istore_n 3, 1) := by decide +kernel
theorem dX8_readRope_109 : decode cX8_readRope 109 = .ok (.aload_n 0, 1) := by decide +kernel
theorem dX8_readRope_110 : decode cX8_readRope 110 = .ok (.getfield 28, 3) := by decide +kernel
theorem dX8_readRope_113 : decode cX8_readRope 113 = .ok (.ifCond .ne 35, 3) := by decide +kernel
theorem dX8_readRope_116 : decode cX8_readRope 116 = .ok (.iload_n 3, 1) := by decide +kernel
theorem dX8_readRope_117 : decode cX8_readRope 117 = .ok (.aload_n 2, 1) := by decide +kernel
theorem dX8_readRope_118 : decode cX8_readRope 118 = .ok (.getfield 166, 3) := by decide +kernel
theorem dX8_readRope_121 : decode cX8_readRope 121 = .ok (.if_icmp .gt 27, 3) := by decide +kernel
theorem dX8_readRope_124 : decode cX8_readRope 124 = .ok (.aload_n 0, 1) := by decide +kernel
theorem dX8_readRope_125 : decode cX8_readRope 125 = .ok (.getfield 35, 3) := by decide +kernel
theorem dX8_readRope_128 : decode cX8_readRope 128 = .ok (.iload_n 3, 1) := by decide +kernel
theorem dX8_readRope_129 : decode cX8_readRope 129 = .ok (.invokevirtual 169, 3) := by decide +kernel
theorem dX8_readRope_132 : decode cX8_readRope 132 = .ok (.iconst (-1), 1) := by decide +kernel
theorem dX8_readRope_133 : decode cX8_readRope 133 = .ok (.if_icmp .eq 9, 3) := by decide +kernel
theorem dX8_readRope_136 : decode cX8_readRope 136 = .ok (.aload_n 0, 1) := by decide +kernel
theorem dX8_readRope_137 : decode cX8_readRope 137 = .ok (.bipush 6, 2) := by decide +kernel
theorem dX8_readRope_139 : decode cX8_readRope 139 = .ok (.invokevirtual 75, 3) := by decide +kernel
theorem dX8_readRope_142 : decode cX8_readRope 142 = .ok (.iinc 3 1, 3) := by decide +kernel
theorem dX8_readRope_145 : decode cX8_readRope 145 = .ok (.goto (-36), 3) := by decide +kernel
theorem dX8_readRope_148 : decode cX8_readRope 148 = .ok (.aload_n 0, 1) := by decide +kernel
theorem dX8_readRope_149 : decode cX8_readRope 149 = .ok (.invokevirtual 173, 3) := by decide +kernel
theorem dX8_readRope_152 : decode cX8_readRope 152 = .ok (.aload_n 2, 1) := by decide +kernel
theorem dX8_readRope_153 : decode cX8_readRope 153 = .ok (.aload_n 0, 1) := by decide +kernel
theorem dX8_readRope_154 : decode cX8_readRope 154 = .ok (.iconst 5, 1) := by decide +kernel
theorem dX8_readRope_155 : decode cX8_readRope 155 = .ok (.iconst 1, 1) := by decide +kernel
theorem dX8_readRope_156 : decode cX8_readRope 156 = .ok (.sipush 9999, 3) := by decide +kernel
theorem dX8_readRope_159 : decode cX8_readRope 159 = .ok (.invokevirtual 139, 3) := by decide +kernel
theorem dX8_readRope_162 : decode cX8_readRope 162 = .ok (.putfield 176, 3) := by decide +kernel
theorem dX8_readRope_165 : decode cX8_readRope 165 = .ok (.aload_n 0, 1) := by decide +kernel
theorem dX8_readRope_166 : decode cX8_readRope 166 = .ok (.getfield 28, 3) := by decide +kernel
theorem dX8_readRope_169 : decode cX8_readRope 169 = .ok (.ifCond .ne 24, 3) := by decide +kernel
theorem dX8_readRope_172 : decode cX8_readRope 172 = .ok (.aload_n 0, 1) := by decide +kernel
theorem dX8_readRope_173 : decode cX8_readRope 173 = .ok (.getfield 35, 3) := by decide +kernel
theorem dX8_readRope_176 : decode cX8_readRope 176 = .ok (.dup, 1) := by decide +kernel
theorem dX8_readRope_177 : decode cX8_readRope 177 = .ok (.getfield 107, 3) := by decide +kernel
theorem dX8_readRope_180 : decode cX8_readRope 180 = .ok (.iconst 1, 1) := by decide +kernel
theorem dX8_readRope_181 : decode cX8_readRope 181 = .ok (.iadd, 1) := by decide +kernel
theorem dX8_readRope_182 : decode cX8_readRope 182 = .ok (.putfield 107, 3) := by decide +kernel
theorem dX8_readRope_185 : decode cX8_readRope 185 = .ok (.aload_n 0, 1) := by decide +kernel
theorem dX8_readRope_186 : decode cX8_readRope 186 = .ok (.getfield 35, 3) := by decide +kernel
theorem dX8_readRope_189 : decode cX8_readRope 189 = .ok (.iload_n 1, 1) := by decide +kernel
theorem dX8_readRope_190 : decode cX8_readRope 190 = .ok (.invokevirtual 179, 3) := by decide +kernel
theorem dX8_readRope_193 : decode cX8_readRope 193 = .ok (.return_, 1) := by decide +kernel
theorem dX8_readSetting_0 : decode cX8_readSetting 0 = .ok (.iload_n 1, 1) := by decide +kernel
theorem dX8_readSetting_1 : decode cX8_readSetting 1 = .ok (.bipush 15, 2) := by decide +kernel
theorem dX8_readSetting_3 : decode cX8_readSetting 3 = .ok (.if_icmp .ne 25, 3) := by decide +kernel
theorem dX8_readSetting_6 : decode cX8_readSetting 6 = .ok (.aload_n 0, 1) := by decide +kernel
theorem dX8_readSetting_7 : decode cX8_readSetting 7 = .ok (.getfield 35, 3) := by decide +kernel
theorem dX8_readSetting_10 : decode cX8_readSetting 10 = .ok (.aload_n 0, 1) := by decide +kernel
theorem dX8_readSetting_11 : decode cX8_readSetting 11 = .ok (.iconst 0, 1) := by decide +kernel
theorem dX8_readSetting_12 : decode cX8_readSetting 12 = .ok (.bipush 9, 2) := by decide +kernel
theorem dX8_readSetting_14 : decode cX8_readSetting 14 = .ok (.invokevirtual 182, 3) := by decide +kernel
theorem dX8_readSetting_17 : decode cX8_readSetting 17 = .ok (.putfield 222, 3) := by decide +kernel
theorem dX8_readSetting_20 : decode cX8_readSetting 20 = .ok (.aload_n 0, 1) := by decide +kernel
theorem dX8_readSetting_21 : decode cX8_readSetting 21 = .ok (.iconst 1, 1) := by decide +kernel
theorem dX8_readSetting_22 : decode cX8_readSetting 22 = .ok (.putfield 44, 3) := by decide +kernel
theorem dX8_readSetting_25 : decode cX8_readSetting 25 = .ok (.goto 51, 3) := by decide +kernel
theorem dX8_readSetting_28 : decode cX8_readSetting 28 = .ok (.iload_n 1, 1) := by decide +kernel
theorem dX8_readSetting_29 : decode cX8_readSetting 29 = .ok (.bipush 16, 2) := by decide +kernel
theorem dX8_readSetting_31 : decode cX8_readSetting 31 = .ok (.if_icmp .ne 26, 3) := by decide +kernel
theorem dX8_readSetting_34 : decode cX8_readSetting 34 = .ok (.aload_n 0, 1) := by decide +kernel
theorem dX8_readSetting_35 : decode cX8_readSetting 35 = .ok (.getfield 35, 3) := by decide +kernel
theorem dX8_readSetting_38 : decode cX8_readSetting 38 = .ok (.aload_n 0, 1) := by decide +kernel
theorem dX8_readSetting_39 : decode cX8_readSetting 39 = .ok (.iconst 1, 1) := by decide +kernel
theorem dX8_readSetting_40 : decode cX8_readSetting 40 = .ok (.sipush 9999, 3) := by decide +kernel
theorem dX8_readSetting_43 : decode cX8_readSetting 43 = .ok (.invokevirtual 182, 3) := by decide +kernel
theorem dX8_readSetting_46 : decode cX8_readSetting 46 = .ok (.putfield 225, 3) := by decide +kernel
theorem dX8_readSetting_49 : decode cX8_readSetting 49 = .ok (.aload_n 0, 1) := by decide +kernel
theorem dX8_readSetting_50 : decode cX8_readSetting 50 = .ok (.iconst 1, 1) := by decide +kernel
theorem dX8_readSetting_51 : decode cX8_readSetting 51 = .ok (.putfield 48, 3) := by decide +kernel
theorem dX8_readSetting_54 : decode cX8_readSetting 54 = .ok (.goto 22, 3) := by decide +kernel
theorem dX8_readSetting_57 : decode cX8_readSetting 57 = .ok (.aload_n 0, 1) := by decide +kernel
theorem dX8_readSetting_58 : decode cX8_readSetting 58 = .ok (.getfield 35, 3) := by decide +kernel
theorem dX8_readSetting_61 : decode cX8_readSetting 61 = .ok (.aload_n 0, 1) := by decide +kernel
theorem dX8_readSetting_62 : decode cX8_readSetting 62 = .ok (.iconst 1, 1) := by decide +kernel
theorem dX8_readSetting_63 : decode cX8_readSetting 63 = .ok (.bipush 99, 2) := by decide +kernel
theorem dX8_readSetting_65 : decode cX8_readSetting 65 = .ok (.invokevirtual 182, 3) := by decide +kernel
theorem dX8_readSetting_68 : decode cX8_readSetting 68 = .ok (.putfield 228, 3) := by decide +kernel
theorem dX8_readSetting_71 : decode cX8_readSetting 71 = .ok (.aload_n 0, 1) := by decide +kernel
theorem dX8_readSetting_72 : decode cX8_readSetting 72 = .ok (.iconst 1, 1) := by decide +kernel
theorem dX8_readSetting_73 : decode cX8_readSetting 73 = .ok (.putfield 51, 3) := by decide +kernel
theorem dX8_readSetting_76 : decode cX8_readSetting 76 = .ok (.return_, 1) := by decide +kernel
theorem dX8_readSplice_0 : decode cX8_readSplice 0 = .ok (.aload_n 0, 1) := by decide +kernel
theorem dX8_readSplice_1 : decode cX8_readSplice 1 = .ok (.getfield 35, 3) := by decide +kernel
theorem dX8_readSplice_4 : decode cX8_readSplice 4 = .ok (.getfield 119, 3) := by decide +kernel
theorem dX8_readSplice_7 : decode cX8_readSplice 7 = .ok (.istore_n 1, 1) := by decide +kernel
theorem dX8_readSplice_8 : decode cX8_readSplice 8 = .ok (.aload_n 0, 1) := by decide +kernel
theorem dX8_readSplice_9 : decode cX8_readSplice 9 = .ok (.aload_n 0, 1) := by decide +kernel
theorem dX8_readSplice_10 : decode cX8_readSplice 10 = .ok (.getfield 25, 3) := by decide +kernel
theorem dX8_readSplice_13 : decode cX8_readSplice 13 = .ok (.iload_n 1, 1) := by decide +kernel
theorem dX8_readSplice_14 : decode cX8_readSplice 14 = .ok (.invokevirtual 135, 3) := by decide +kernel
theorem dX8_readSplice_17 : decode cX8_readSplice 17 = .ok (.aload_n 0, 1) := by decide +kernel
theorem dX8_readSplice_18 : decode cX8_readSplice 18 = .ok (.bipush 18, 2) := by decide +kernel
theorem dX8_readSplice_20 : decode cX8_readSplice 20 = .ok (.invokevirtual 154, 3) := by decide +kernel
theorem dX8_readSplice_23 : decode cX8_readSplice 23 = .ok (.aload_n 0, 1) := by decide +kernel
theorem dX8_readSplice_24 : decode cX8_readSplice 24 = .ok (.invokevirtual 200, 3) := by decide +kernel
theorem dX8_readSplice_27 : decode cX8_readSplice 27 = .ok (.istore_n 2, 1) := by decide +kernel
theorem dX8_readSplice_28 : decode cX8_readSplice 28 = .ok (.aload_n 0, 1) := by decide +kernel
theorem dX8_readSplice_29 : decode cX8_readSplice 29 = .ok (.getfield 35, 3) := by decide +kernel
theorem dX8_readSplice_32 : decode cX8_readSplice 32 = .ok (.iload_n 2, 1) := by decide +kernel
theorem dX8_readSplice_33 : decode cX8_readSplice 33 = .ok (.invokevirtual 204, 3) := by decide +kernel
theorem dX8_readSplice_36 : decode cX8_readSplice 36 = .ok (.ifCond .eq 21, 3) := by decide +kernel
theorem dX8_readSplice_39 : decode cX8_readSplice 39 = .ok (.bipush 10, 2) := by decide +kernel
theorem dX8_readSplice_41 : decode cX8_readSplice 41 = .ok (.aload_n 0, 1) := by decide +kernel
theorem dX8_readSplice_42 : decode cX8_readSplice 42 = .ok (.getfield 35, 3) := by decide +kernel
theorem dX8_readSplice_45 : decode cX8_readSplice 45 = .ok (.getfield 131, 3) := by decide +kernel
theorem dX8_readSplice_48 : decode cX8_readSplice 48 = .ok (.iload_n 2, 1) := by decide +kernel
theorem dX8_readSplice_49 : decode cX8_readSplice 49 = .ok (.aaload, 1) := by decide +kernel
theorem dX8_readSplice_50 : decode cX8_readSplice 50 = .ok (.getfield 148, 3) := by decide +kernel
theorem dX8_readSplice_53 : decode cX8_readSplice 53 = .ok (.imul, 1) := by decide +kernel
theorem dX8_readSplice_54 : decode cX8_readSplice 54 = .ok (.goto 4, 3) := by decide +kernel
theorem dX8_readSplice_57 : decode cX8_readSplice 57 = .ok (.iconst 0, 1) := by decide +kernel
theorem dX8_readSplice_58 : decode cX8_readSplice 58 = .ok (.istore_n 3, 1) := by decide +kernel
theorem dX8_readSplice_59 : decode cX8_readSplice 59 = .ok (.aload_n 0, 1) := by decide +kernel
theorem dX8_readSplice_60 : decode cX8_readSplice 60 = .ok (.bipush 8, 2) := by decide +kernel
theorem dX8_readSplice_62 : decode cX8_readSplice 62 = .ok (.iconst 0, 1) := by decide +kernel
theorem dX8_readSplice_63 : decode cX8_readSplice 63 = .ok (.iload_n 3, 1) := by decide +kernel
theorem dX8_readSplice_64 : decode cX8_readSplice 64 = .ok (.iconst 1, 1) := by decide +kernel
theorem dX8_readSplice_65 : decode cX8_readSplice 65 = .ok (.isub, 1) := by decide +kernel
theorem dX8_readSplice_66 : decode cX8_readSplice 66 = .ok (.invokevirtual 139, 3) := by decide +kernel
theorem dX8_readSplice_69 : decode cX8_readSplice 69 = .ok (.istore 4, 2) := by decide +kernel
theorem dX8_readSplice_71 : decode cX8_readSplice 71 = .ok (.aload_n 0, 1) := by decide +kernel
theorem dX8_readSplice_72 : decode cX8_readSplice 72 = .ok (.bipush 19, 2) := by decide +kernel
theorem dX8_readSplice_74 : decode cX8_readSplice 74 = .ok (.iconst 1, 1) := by decide +kernel
theorem dX8_readSplice_75 : decode cX8_readSplice 75 = .ok (.sipush 9999, 3) := by decide +kernel
theorem dX8_readSplice_78 : decode cX8_readSplice 78 = .ok (.invokevirtual 139, 3) := by decide +kernel
theorem dX8_readSplice_81 : decode cX8_readSplice 81 = .ok (.istore 5, 2) := by decide +kernel
theorem dX8_readSplice_83 : decode cX8_readSplice 83 = .ok (.aload_n 0, 1) := by decide +kernel
theorem dX8_readSplice_84 : decode cX8_readSplice 84 = .ok (.getfield 28, 3) := by decide +kernel
theorem dX8_readSplice_87 : decode cX8_readSplice 87 = .ok (.ifCond .ne 54, 3) := by decide +kernel
theorem dX8_readSplice_90 : decode cX8_readSplice 90 = .ok (.iload_n 1, 1) := by decide +kernel
theorem dX8_readSplice_91 : decode cX8_readSplice 91 = .ok (.bipush 6, 2) := by decide +kernel
theorem dX8_readSplice_93 : decode cX8_readSplice 93 = .ok (.if_icmp .ge 48, 3) := by decide +kernel
theorem dX8_readSplice_96 : decode cX8_readSplice 96 = .ok (.aload_n 0, 1) := by decide +kernel
theorem dX8_readSplice_97 : decode cX8_readSplice 97 = .ok (.getfield 35, 3) := by decide +kernel
theorem dX8_readSplice_100 : decode cX8_readSplice 100 = .ok (.getfield 207, 3) := by decide +kernel
theorem dX8_readSplice_103 : decode cX8_readSplice 103 = .ok (.iload_n 1, 1) := by decide +kernel
theorem dX8_readSplice_104 : decode cX8_readSplice 104 = .ok (.iload_n 2, 1) := by decide +kernel
theorem dX8_readSplice_105 : decode cX8_readSplice 105 = .ok (.iastore, 1) := by decide +kernel
theorem dX8_readSplice_106 : decode cX8_readSplice 106 = .ok (.aload_n 0, 1) := by decide +kernel
theorem dX8_readSplice_107 : decode cX8_readSplice 107 = .ok (.getfield 35, 3) := by decide +kernel
theorem dX8_readSplice_110 : decode cX8_readSplice 110 = .ok (.getfield 210, 3) := by decide +kernel
theorem dX8_readSplice_113 : decode cX8_readSplice 113 = .ok (.iload_n 1, 1) := by decide +kernel
theorem dX8_readSplice_114 : decode cX8_readSplice 114 = .ok (.iload 4, 2) := by decide +kernel
theorem dX8_readSplice_116 : decode cX8_readSplice 116 = .ok (.iastore, 1) := by decide +kernel
theorem dX8_readSplice_117 : decode cX8_readSplice 117 = .ok (.aload_n 0, 1) := by decide +kernel
theorem dX8_readSplice_118 : decode cX8_readSplice 118 = .ok (.getfield 35, 3) := by decide +kernel
theorem dX8_readSplice_121 : decode cX8_readSplice 121 = .ok (.getfield 213, 3) := by decide +kernel
theorem dX8_readSplice_124 : decode cX8_readSplice 124 = .ok (.iload_n 1, 1) := by decide +kernel
theorem dX8_readSplice_125 : decode cX8_readSplice 125 = .ok (.iload 5, 2) := by decide +kernel
theorem dX8_readSplice_127 : decode cX8_readSplice 127 = .ok (.iastore, 1) := by decide +kernel
theorem dX8_readSplice_128 : decode cX8_readSplice 128 = .ok (.aload_n 0, 1) := by decide +kernel
theorem dX8_readSplice_129 : decode cX8_readSplice 129 = .ok (.getfield 35, 3) := by decide +kernel
theorem dX8_readSplice_132 : decode cX8_readSplice 132 = .ok (.dup, 1) := by decide +kernel
theorem dX8_readSplice_133 : decode cX8_readSplice 133 = .ok (.getfield 119, 3) := by decide +kernel
theorem dX8_readSplice_136 : decode cX8_readSplice 136 = .ok (.iconst 1, 1) := by decide +kernel
theorem dX8_readSplice_137 : decode cX8_readSplice 137 = .ok (.iadd, 1) := by decide +kernel
theorem dX8_readSplice_138 : decode cX8_readSplice 138 = .ok (.putfield 119, 3) := by decide +kernel
theorem dX8_readSplice_141 : decode cX8_readSplice 141 = .ok (.return_, 1) := by decide +kernel
theorem dX8_readSum_0 : decode cX8_readSum 0 = .ok (.aload_n 0, 1) := by decide +kernel
theorem dX8_readSum_1 : decode cX8_readSum 1 = .ok (.iload_n 1, 1) := by decide +kernel
theorem dX8_readSum_2 : decode cX8_readSum 2 = .ok (.invokevirtual 267, 3) := by decide +kernel
theorem dX8_readSum_5 : decode cX8_readSum 5 = .ok (.iconst 0, 1) := by decide +kernel
theorem dX8_readSum_6 : decode cX8_readSum 6 = .ok (.istore_n 2, 1) := by decide +kernel
theorem dX8_readSum_7 : decode cX8_readSum 7 = .ok (.iload_n 2, 1) := by decide +kernel
theorem dX8_readSum_8 : decode cX8_readSum 8 = .ok (.sipush 1600, 3) := by decide +kernel
theorem dX8_readSum_11 : decode cX8_readSum 11 = .ok (.if_icmp .ge 57, 3) := by decide +kernel
theorem dX8_readSum_14 : decode cX8_readSum 14 = .ok (.aload_n 0, 1) := by decide +kernel
theorem dX8_readSum_15 : decode cX8_readSum 15 = .ok (.bipush 43, 2) := by decide +kernel
theorem dX8_readSum_17 : decode cX8_readSum 17 = .ok (.invokevirtual 185, 3) := by decide +kernel
theorem dX8_readSum_20 : decode cX8_readSum 20 = .ok (.istore_n 3, 1) := by decide +kernel
theorem dX8_readSum_21 : decode cX8_readSum 21 = .ok (.iload_n 3, 1) := by decide +kernel
theorem dX8_readSum_22 : decode cX8_readSum 22 = .ok (.ifCond .ne 13, 3) := by decide +kernel
theorem dX8_readSum_25 : decode cX8_readSum 25 = .ok (.aload_n 0, 1) := by decide +kernel
theorem dX8_readSum_26 : decode cX8_readSum 26 = .ok (.bipush 45, 2) := by decide +kernel
theorem dX8_readSum_28 : decode cX8_readSum 28 = .ok (.invokevirtual 185, 3) := by decide +kernel
theorem dX8_readSum_31 : decode cX8_readSum 31 = .ok (.ifCond .ne 4, 3) := by decide +kernel
theorem dX8_readSum_34 : decode cX8_readSum 34 = .ok (.return_, 1) := by decide +kernel
theorem dX8_readSum_35 : decode cX8_readSum 35 = .ok (.aload_n 0, 1) := by decide +kernel
theorem dX8_readSum_36 : decode cX8_readSum 36 = .ok (.iload_n 1, 1) := by decide +kernel
theorem dX8_readSum_37 : decode cX8_readSum 37 = .ok (.invokevirtual 267, 3) := by decide +kernel
theorem dX8_readSum_40 : decode cX8_readSum 40 = .ok (.aload_n 0, 1) := by decide +kernel
theorem dX8_readSum_41 : decode cX8_readSum 41 = .ok (.getfield 35, 3) := by decide +kernel
theorem dX8_readSum_44 : decode cX8_readSum 44 = .ok (.getfield 122, 3) := by decide +kernel
theorem dX8_readSum_47 : decode cX8_readSum 47 = .ok (.iload_n 3, 1) := by decide +kernel
theorem dX8_readSum_48 : decode cX8_readSum 48 = .ok (.ifCond .eq 8, 3) := by decide +kernel
theorem dX8_readSum_51 : decode cX8_readSum 51 = .ok (.bipush 14, 2) := by decide +kernel
theorem dX8_readSum_53 : decode cX8_readSum 53 = .ok (.goto 5, 3) := by decide +kernel
theorem dX8_readSum_56 : decode cX8_readSum 56 = .ok (.bipush 15, 2) := by decide +kernel
theorem dX8_readSum_58 : decode cX8_readSum 58 = .ok (.iconst 0, 1) := by decide +kernel
theorem dX8_readSum_59 : decode cX8_readSum 59 = .ok (.invokevirtual 246, 3) := by decide +kernel
theorem dX8_readSum_62 : decode cX8_readSum 62 = .ok (.iinc 2 1, 3) := by decide +kernel
theorem dX8_readSum_65 : decode cX8_readSum 65 = .ok (.goto (-58), 3) := by decide +kernel
theorem dX8_readSum_68 : decode cX8_readSum 68 = .ok (.return_, 1) := by decide +kernel
theorem dX8_readTerm_0 : decode cX8_readTerm 0 = .ok (.aload_n 0, 1) := by decide +kernel
theorem dX8_readTerm_1 : decode cX8_readTerm 1 = .ok (.iload_n 1, 1) := by decide +kernel
theorem dX8_readTerm_2 : decode cX8_readTerm 2 = .ok (.invokevirtual 270, 3) := by decide +kernel
theorem dX8_readTerm_5 : decode cX8_readTerm 5 = .ok (.iconst 0, 1) := by decide +kernel
theorem dX8_readTerm_6 : decode cX8_readTerm 6 = .ok (.istore_n 2, 1) := by decide +kernel
theorem dX8_readTerm_7 : decode cX8_readTerm 7 = .ok (.iload_n 2, 1) := by decide +kernel
theorem dX8_readTerm_8 : decode cX8_readTerm 8 = .ok (.sipush 1600, 3) := by decide +kernel
theorem dX8_readTerm_11 : decode cX8_readTerm 11 = .ok (.if_icmp .ge 36, 3) := by decide +kernel
theorem dX8_readTerm_14 : decode cX8_readTerm 14 = .ok (.aload_n 0, 1) := by decide +kernel
theorem dX8_readTerm_15 : decode cX8_readTerm 15 = .ok (.bipush 42, 2) := by decide +kernel
theorem dX8_readTerm_17 : decode cX8_readTerm 17 = .ok (.invokevirtual 185, 3) := by decide +kernel
theorem dX8_readTerm_20 : decode cX8_readTerm 20 = .ok (.ifCond .eq 27, 3) := by decide +kernel
theorem dX8_readTerm_23 : decode cX8_readTerm 23 = .ok (.aload_n 0, 1) := by decide +kernel
theorem dX8_readTerm_24 : decode cX8_readTerm 24 = .ok (.iload_n 1, 1) := by decide +kernel
theorem dX8_readTerm_25 : decode cX8_readTerm 25 = .ok (.invokevirtual 270, 3) := by decide +kernel
theorem dX8_readTerm_28 : decode cX8_readTerm 28 = .ok (.aload_n 0, 1) := by decide +kernel
theorem dX8_readTerm_29 : decode cX8_readTerm 29 = .ok (.getfield 35, 3) := by decide +kernel
theorem dX8_readTerm_32 : decode cX8_readTerm 32 = .ok (.getfield 122, 3) := by decide +kernel
theorem dX8_readTerm_35 : decode cX8_readTerm 35 = .ok (.bipush 16, 2) := by decide +kernel
theorem dX8_readTerm_37 : decode cX8_readTerm 37 = .ok (.iconst 0, 1) := by decide +kernel
theorem dX8_readTerm_38 : decode cX8_readTerm 38 = .ok (.invokevirtual 246, 3) := by decide +kernel
theorem dX8_readTerm_41 : decode cX8_readTerm 41 = .ok (.iinc 2 1, 3) := by decide +kernel
theorem dX8_readTerm_44 : decode cX8_readTerm 44 = .ok (.goto (-37), 3) := by decide +kernel
theorem dX8_readTerm_47 : decode cX8_readTerm 47 = .ok (.return_, 1) := by decide +kernel
theorem dX8_readUnit_0 : decode cX8_readUnit 0 = .ok (.aload_n 0, 1) := by decide +kernel
theorem dX8_readUnit_1 : decode cX8_readUnit 1 = .ok (.getfield 28, 3) := by decide +kernel
theorem dX8_readUnit_4 : decode cX8_readUnit 4 = .ok (.ifCond .eq 4, 3) := by decide +kernel
theorem dX8_readUnit_7 : decode cX8_readUnit 7 = .ok (.return_, 1) := by decide +kernel
theorem dX8_readUnit_8 : decode cX8_readUnit 8 = .ok (.aload_n 0, 1) := by decide +kernel
theorem dX8_readUnit_9 : decode cX8_readUnit 9 = .ok (.getfield 35, 3) := by decide +kernel
theorem dX8_readUnit_12 : decode cX8_readUnit 12 = .ok (.getfield 122, 3) := by decide +kernel
theorem dX8_readUnit_15 : decode cX8_readUnit 15 = .ok (.getfield 273, 3) := by decide +kernel
theorem dX8_readUnit_18 : decode cX8_readUnit 18 = .ok (.bipush 40, 2) := by decide +kernel
theorem dX8_readUnit_20 : decode cX8_readUnit 20 = .ok (.if_icmp .ge 18, 3) := by decide +kernel
theorem dX8_readUnit_23 : decode cX8_readUnit 23 = .ok (.aload_n 0, 1) := by decide +kernel
theorem dX8_readUnit_24 : decode cX8_readUnit 24 = .ok (.bipush 40, 2) := by decide +kernel
theorem dX8_readUnit_26 : decode cX8_readUnit 26 = .ok (.invokevirtual 264, 3) := by decide +kernel
theorem dX8_readUnit_29 : decode cX8_readUnit 29 = .ok (.ifCond .eq 15, 3) := by decide +kernel
theorem dX8_readUnit_32 : decode cX8_readUnit 32 = .ok (.iload_n 1, 1) := by decide +kernel
theorem dX8_readUnit_33 : decode cX8_readUnit 33 = .ok (.bipush 6, 2) := by decide +kernel
theorem dX8_readUnit_35 : decode cX8_readUnit 35 = .ok (.if_icmp .le 9, 3) := by decide +kernel
theorem dX8_readUnit_38 : decode cX8_readUnit 38 = .ok (.aload_n 0, 1) := by decide +kernel
theorem dX8_readUnit_39 : decode cX8_readUnit 39 = .ok (.iconst 2, 1) := by decide +kernel
theorem dX8_readUnit_40 : decode cX8_readUnit 40 = .ok (.invokevirtual 75, 3) := by decide +kernel
theorem dX8_readUnit_43 : decode cX8_readUnit 43 = .ok (.return_, 1) := by decide +kernel
theorem dX8_readUnit_44 : decode cX8_readUnit 44 = .ok (.aload_n 0, 1) := by decide +kernel
theorem dX8_readUnit_45 : decode cX8_readUnit 45 = .ok (.getfield 35, 3) := by decide +kernel
theorem dX8_readUnit_48 : decode cX8_readUnit 48 = .ok (.getfield 122, 3) := by decide +kernel
theorem dX8_readUnit_51 : decode cX8_readUnit 51 = .ok (.dup, 1) := by decide +kernel
theorem dX8_readUnit_52 : decode cX8_readUnit 52 = .ok (.getfield 273, 3) := by decide +kernel
theorem dX8_readUnit_55 : decode cX8_readUnit 55 = .ok (.iconst 1, 1) := by decide +kernel
theorem dX8_readUnit_56 : decode cX8_readUnit 56 = .ok (.iadd, 1) := by decide +kernel
theorem dX8_readUnit_57 : decode cX8_readUnit 57 = .ok (.putfield 273, 3) := by decide +kernel
theorem dX8_readUnit_60 : decode cX8_readUnit 60 = .ok (.aload_n 0, 1) := by decide +kernel
theorem dX8_readUnit_61 : decode cX8_readUnit 61 = .ok (.bipush 40, 2) := by decide +kernel
theorem dX8_readUnit_63 : decode cX8_readUnit 63 = .ok (.invokevirtual 185, 3) := by decide +kernel
theorem dX8_readUnit_66 : decode cX8_readUnit 66 = .ok (.ifCond .eq 19, 3) := by decide +kernel
theorem dX8_readUnit_69 : decode cX8_readUnit 69 = .ok (.aload_n 0, 1) := by decide +kernel
theorem dX8_readUnit_70 : decode cX8_readUnit 70 = .ok (.iload_n 1, 1) := by decide +kernel
theorem dX8_readUnit_71 : decode cX8_readUnit 71 = .ok (.iconst 1, 1) := by decide +kernel
theorem dX8_readUnit_72 : decode cX8_readUnit 72 = .ok (.iadd, 1) := by decide +kernel
theorem dX8_readUnit_73 : decode cX8_readUnit 73 = .ok (.invokevirtual 234, 3) := by decide +kernel
theorem dX8_readUnit_76 : decode cX8_readUnit 76 = .ok (.aload_n 0, 1) := by decide +kernel
theorem dX8_readUnit_77 : decode cX8_readUnit 77 = .ok (.bipush 41, 2) := by decide +kernel
theorem dX8_readUnit_79 : decode cX8_readUnit 79 = .ok (.invokevirtual 103, 3) := by decide +kernel
theorem dX8_readUnit_82 : decode cX8_readUnit 82 = .ok (.goto 90, 3) := by decide +kernel
theorem dX8_readUnit_85 : decode cX8_readUnit 85 = .ok (.aload_n 0, 1) := by decide +kernel
theorem dX8_readUnit_86 : decode cX8_readUnit 86 = .ok (.getfield 12, 3) := by decide +kernel
theorem dX8_readUnit_89 : decode cX8_readUnit 89 = .ok (.getfield 58, 3) := by decide +kernel
theorem dX8_readUnit_92 : decode cX8_readUnit 92 = .ok (.iconst 3, 1) := by decide +kernel
theorem dX8_readUnit_93 : decode cX8_readUnit 93 = .ok (.if_icmp .ne 31, 3) := by decide +kernel
theorem dX8_readUnit_96 : decode cX8_readUnit 96 = .ok (.aload_n 0, 1) := by decide +kernel
theorem dX8_readUnit_97 : decode cX8_readUnit 97 = .ok (.getfield 35, 3) := by decide +kernel
theorem dX8_readUnit_100 : decode cX8_readUnit 100 = .ok (.getfield 122, 3) := by decide +kernel
theorem dX8_readUnit_103 : decode cX8_readUnit 103 = .ok (.iconst 0, 1) := by decide +kernel
theorem dX8_readUnit_104 : decode cX8_readUnit 104 = .ok (.aload_n 0, 1) := by decide +kernel
theorem dX8_readUnit_105 : decode cX8_readUnit 105 = .ok (.getfield 12, 3) := by decide +kernel
theorem dX8_readUnit_108 : decode cX8_readUnit 108 = .ok (.getfield 276, 3) := by decide +kernel
theorem dX8_readUnit_111 : decode cX8_readUnit 111 = .ok (.invokevirtual 246, 3) := by decide +kernel
theorem dX8_readUnit_114 : decode cX8_readUnit 114 = .ok (.aload_n 0, 1) := by decide +kernel
theorem dX8_readUnit_115 : decode cX8_readUnit 115 = .ok (.getfield 12, 3) := by decide +kernel
theorem dX8_readUnit_118 : decode cX8_readUnit 118 = .ok (.invokevirtual 79, 3) := by decide +kernel
theorem dX8_readUnit_121 : decode cX8_readUnit 121 = .ok (.goto 51, 3) := by decide +kernel
theorem dX8_readUnit_124 : decode cX8_readUnit 124 = .ok (.aload_n 0, 1) := by decide +kernel
theorem dX8_readUnit_125 : decode cX8_readUnit 125 = .ok (.bipush 29, 2) := by decide +kernel
theorem dX8_readUnit_127 : decode cX8_readUnit 127 = .ok (.invokevirtual 243, 3) := by decide +kernel
theorem dX8_readUnit_130 : decode cX8_readUnit 130 = .ok (.ifCond .eq 38, 3) := by decide +kernel
theorem dX8_readUnit_133 : decode cX8_readUnit 133 = .ok (.aload_n 0, 1) := by decide +kernel
theorem dX8_readUnit_134 : decode cX8_readUnit 134 = .ok (.iconst 0, 1) := by decide +kernel
theorem dX8_readUnit_135 : decode cX8_readUnit 135 = .ok (.aload_n 0, 1) := by decide +kernel
theorem dX8_readUnit_136 : decode cX8_readUnit 136 = .ok (.getfield 35, 3) := by decide +kernel
theorem dX8_readUnit_139 : decode cX8_readUnit 139 = .ok (.getfield 107, 3) := by decide +kernel
theorem dX8_readUnit_142 : decode cX8_readUnit 142 = .ok (.iconst 1, 1) := by decide +kernel
theorem dX8_readUnit_143 : decode cX8_readUnit 143 = .ok (.isub, 1) := by decide +kernel
theorem dX8_readUnit_144 : decode cX8_readUnit 144 = .ok (.invokevirtual 182, 3) := by decide +kernel
theorem dX8_readUnit_147 : decode cX8_readUnit 147 = .ok (.istore_n 2, 1) := by decide +kernel
theorem dX8_readUnit_148 : decode cX8_readUnit 148 = .ok (.aload_n 0, 1) := by decide +kernel
theorem dX8_readUnit_149 : decode cX8_readUnit 149 = .ok (.getfield 35, 3) := by decide +kernel
theorem dX8_readUnit_152 : decode cX8_readUnit 152 = .ok (.getfield 122, 3) := by decide +kernel
theorem dX8_readUnit_155 : decode cX8_readUnit 155 = .ok (.bipush 7, 2) := by decide +kernel
theorem dX8_readUnit_157 : decode cX8_readUnit 157 = .ok (.iload_n 2, 1) := by decide +kernel
theorem dX8_readUnit_158 : decode cX8_readUnit 158 = .ok (.iconst 0, 1) := by decide +kernel
theorem dX8_readUnit_159 : decode cX8_readUnit 159 = .ok (.invokestatic 279, 3) := by decide +kernel
theorem dX8_readUnit_162 : decode cX8_readUnit 162 = .ok (.invokevirtual 246, 3) := by decide +kernel
theorem dX8_readUnit_165 : decode cX8_readUnit 165 = .ok (.goto 7, 3) := by decide +kernel
theorem dX8_readUnit_168 : decode cX8_readUnit 168 = .ok (.aload_n 0, 1) := by decide +kernel
theorem dX8_readUnit_169 : decode cX8_readUnit 169 = .ok (.invokevirtual 282, 3) := by decide +kernel
theorem dX8_readUnit_172 : decode cX8_readUnit 172 = .ok (.return_, 1) := by decide +kernel
theorem dX8_readValueWord_0 : decode cX8_readValueWord 0 = .ok (.aload_n 0, 1) := by decide +kernel
theorem dX8_readValueWord_1 : decode cX8_readValueWord 1 = .ok (.getfield 12, 3) := by decide +kernel
theorem dX8_readValueWord_4 : decode cX8_readValueWord 4 = .ok (.getfield 68, 3) := by decide +kernel
theorem dX8_readValueWord_7 : decode cX8_readValueWord 7 = .ok (.lookupswitch 148 #[(1, 72), (7, 57), (9, 87), (26, 102), (27, 117), (28, 132)], 57) := by decide +kernel
theorem dX8_readValueWord_64 : decode cX8_readValueWord 64 = .ok (.aload_n 0, 1) := by decide +kernel
theorem dX8_readValueWord_65 : decode cX8_readValueWord 65 = .ok (.getfield 35, 3) := by decide +kernel
theorem dX8_readValueWord_68 : decode cX8_readValueWord 68 = .ok (.getfield 122, 3) := by decide +kernel
theorem dX8_readValueWord_71 : decode cX8_readValueWord 71 = .ok (.iconst 1, 1) := by decide +kernel
theorem dX8_readValueWord_72 : decode cX8_readValueWord 72 = .ok (.iconst 0, 1) := by decide +kernel
theorem dX8_readValueWord_73 : decode cX8_readValueWord 73 = .ok (.invokevirtual 246, 3) := by decide +kernel
theorem dX8_readValueWord_76 : decode cX8_readValueWord 76 = .ok (.goto 85, 3) := by decide +kernel
theorem dX8_readValueWord_79 : decode cX8_readValueWord 79 = .ok (.aload_n 0, 1) := by decide +kernel
theorem dX8_readValueWord_80 : decode cX8_readValueWord 80 = .ok (.getfield 35, 3) := by decide +kernel
theorem dX8_readValueWord_83 : decode cX8_readValueWord 83 = .ok (.getfield 122, 3) := by decide +kernel
theorem dX8_readValueWord_86 : decode cX8_readValueWord 86 = .ok (.iconst 2, 1) := by decide +kernel
theorem dX8_readValueWord_87 : decode cX8_readValueWord 87 = .ok (.iconst 0, 1) := by decide +kernel
theorem dX8_readValueWord_88 : decode cX8_readValueWord 88 = .ok (.invokevirtual 246, 3) := by decide +kernel
theorem dX8_readValueWord_91 : decode cX8_readValueWord 91 = .ok (.goto 70, 3) := by decide +kernel
theorem dX8_readValueWord_94 : decode cX8_readValueWord 94 = .ok (.aload_n 0, 1) := by decide +kernel
theorem dX8_readValueWord_95 : decode cX8_readValueWord 95 = .ok (.getfield 35, 3) := by decide +kernel
theorem dX8_readValueWord_98 : decode cX8_readValueWord 98 = .ok (.getfield 122, 3) := by decide +kernel
theorem dX8_readValueWord_101 : decode cX8_readValueWord 101 = .ok (.iconst 3, 1) := by decide +kernel
theorem dX8_readValueWord_102 : decode cX8_readValueWord 102 = .ok (.iconst 0, 1) := by decide +kernel
theorem dX8_readValueWord_103 : decode cX8_readValueWord 103 = .ok (.invokevirtual 246, 3) := by decide +kernel
theorem dX8_readValueWord_106 : decode cX8_readValueWord 106 = .ok (.goto 55, 3) := by decide +kernel
theorem dX8_readValueWord_109 : decode cX8_readValueWord 109 = .ok (.aload_n 0, 1) := by decide +kernel
theorem dX8_readValueWord_110 : decode cX8_readValueWord 110 = .ok (.getfield 35, 3) := by decide +kernel
theorem dX8_readValueWord_113 : decode cX8_readValueWord 113 = .ok (.getfield 122, 3) := by decide +kernel
theorem dX8_readValueWord_116 : decode cX8_readValueWord 116 = .ok (.iconst 4, 1) := by decide +kernel
theorem dX8_readValueWord_117 : decode cX8_readValueWord 117 = .ok (.iconst 0, 1) := by decide +kernel
theorem dX8_readValueWord_118 : decode cX8_readValueWord 118 = .ok (.invokevirtual 246, 3) := by decide +kernel
theorem dX8_readValueWord_121 : decode cX8_readValueWord 121 = .ok (.goto 40, 3) := by decide +kernel
theorem dX8_readValueWord_124 : decode cX8_readValueWord 124 = .ok (.aload_n 0, 1) := by decide +kernel
theorem dX8_readValueWord_125 : decode cX8_readValueWord 125 = .ok (.getfield 35, 3) := by decide +kernel
theorem dX8_readValueWord_128 : decode cX8_readValueWord 128 = .ok (.getfield 122, 3) := by decide +kernel
theorem dX8_readValueWord_131 : decode cX8_readValueWord 131 = .ok (.iconst 5, 1) := by decide +kernel
theorem dX8_readValueWord_132 : decode cX8_readValueWord 132 = .ok (.iconst 0, 1) := by decide +kernel
theorem dX8_readValueWord_133 : decode cX8_readValueWord 133 = .ok (.invokevirtual 246, 3) := by decide +kernel
theorem dX8_readValueWord_136 : decode cX8_readValueWord 136 = .ok (.goto 25, 3) := by decide +kernel
theorem dX8_readValueWord_139 : decode cX8_readValueWord 139 = .ok (.aload_n 0, 1) := by decide +kernel
theorem dX8_readValueWord_140 : decode cX8_readValueWord 140 = .ok (.getfield 35, 3) := by decide +kernel
theorem dX8_readValueWord_143 : decode cX8_readValueWord 143 = .ok (.getfield 122, 3) := by decide +kernel
theorem dX8_readValueWord_146 : decode cX8_readValueWord 146 = .ok (.bipush 6, 2) := by decide +kernel
theorem dX8_readValueWord_148 : decode cX8_readValueWord 148 = .ok (.iconst 0, 1) := by decide +kernel
theorem dX8_readValueWord_149 : decode cX8_readValueWord 149 = .ok (.invokevirtual 246, 3) := by decide +kernel
theorem dX8_readValueWord_152 : decode cX8_readValueWord 152 = .ok (.goto 9, 3) := by decide +kernel
theorem dX8_readValueWord_155 : decode cX8_readValueWord 155 = .ok (.aload_n 0, 1) := by decide +kernel
theorem dX8_readValueWord_156 : decode cX8_readValueWord 156 = .ok (.iconst 2, 1) := by decide +kernel
theorem dX8_readValueWord_157 : decode cX8_readValueWord 157 = .ok (.invokevirtual 75, 3) := by decide +kernel
theorem dX8_readValueWord_160 : decode cX8_readValueWord 160 = .ok (.return_, 1) := by decide +kernel
theorem dX8_readValueWord_161 : decode cX8_readValueWord 161 = .ok (.aload_n 0, 1) := by decide +kernel
theorem dX8_readValueWord_162 : decode cX8_readValueWord 162 = .ok (.getfield 12, 3) := by decide +kernel
theorem dX8_readValueWord_165 : decode cX8_readValueWord 165 = .ok (.invokevirtual 79, 3) := by decide +kernel
theorem dX8_readValueWord_168 : decode cX8_readValueWord 168 = .ok (.return_, 1) := by decide +kernel
theorem dX8_relationHere_0 : decode cX8_relationHere 0 = .ok (.aload_n 0, 1) := by decide +kernel
theorem dX8_relationHere_1 : decode cX8_relationHere 1 = .ok (.bipush 60, 2) := by decide +kernel
theorem dX8_relationHere_3 : decode cX8_relationHere 3 = .ok (.invokevirtual 264, 3) := by decide +kernel
theorem dX8_relationHere_6 : decode cX8_relationHere 6 = .ok (.ifCond .eq 6, 3) := by decide +kernel
theorem dX8_relationHere_9 : decode cX8_relationHere 9 = .ok (.bipush 11, 2) := by decide +kernel
theorem dX8_relationHere_11 : decode cX8_relationHere 11 = .ok (.ireturn, 1) := by decide +kernel
theorem dX8_relationHere_12 : decode cX8_relationHere 12 = .ok (.aload_n 0, 1) := by decide +kernel
theorem dX8_relationHere_13 : decode cX8_relationHere 13 = .ok (.bipush 62, 2) := by decide +kernel
theorem dX8_relationHere_15 : decode cX8_relationHere 15 = .ok (.invokevirtual 264, 3) := by decide +kernel
theorem dX8_relationHere_18 : decode cX8_relationHere 18 = .ok (.ifCond .eq 6, 3) := by decide +kernel
theorem dX8_relationHere_21 : decode cX8_relationHere 21 = .ok (.bipush 12, 2) := by decide +kernel
theorem dX8_relationHere_23 : decode cX8_relationHere 23 = .ok (.ireturn, 1) := by decide +kernel
theorem dX8_relationHere_24 : decode cX8_relationHere 24 = .ok (.aload_n 0, 1) := by decide +kernel
theorem dX8_relationHere_25 : decode cX8_relationHere 25 = .ok (.bipush 61, 2) := by decide +kernel
theorem dX8_relationHere_27 : decode cX8_relationHere 27 = .ok (.invokevirtual 264, 3) := by decide +kernel
theorem dX8_relationHere_30 : decode cX8_relationHere 30 = .ok (.ifCond .eq 8, 3) := by decide +kernel
theorem dX8_relationHere_33 : decode cX8_relationHere 33 = .ok (.bipush 13, 2) := by decide +kernel
theorem dX8_relationHere_35 : decode cX8_relationHere 35 = .ok (.goto 4, 3) := by decide +kernel
theorem dX8_relationHere_38 : decode cX8_relationHere 38 = .ok (.iconst (-1), 1) := by decide +kernel
theorem dX8_relationHere_39 : decode cX8_relationHere 39 = .ok (.ireturn, 1) := by decide +kernel
theorem dX8_skipSign_0 : decode cX8_skipSign 0 = .ok (.aload_n 0, 1) := by decide +kernel
theorem dX8_skipSign_1 : decode cX8_skipSign 1 = .ok (.iload_n 1, 1) := by decide +kernel
theorem dX8_skipSign_2 : decode cX8_skipSign 2 = .ok (.invokevirtual 264, 3) := by decide +kernel
theorem dX8_skipSign_5 : decode cX8_skipSign 5 = .ok (.ifCond .ne 5, 3) := by decide +kernel
theorem dX8_skipSign_8 : decode cX8_skipSign 8 = .ok (.iconst 0, 1) := by decide +kernel
theorem dX8_skipSign_9 : decode cX8_skipSign 9 = .ok (.ireturn, 1) := by decide +kernel
theorem dX8_skipSign_10 : decode cX8_skipSign 10 = .ok (.aload_n 0, 1) := by decide +kernel
theorem dX8_skipSign_11 : decode cX8_skipSign 11 = .ok (.getfield 12, 3) := by decide +kernel
theorem dX8_skipSign_14 : decode cX8_skipSign 14 = .ok (.invokevirtual 79, 3) := by decide +kernel
theorem dX8_skipSign_17 : decode cX8_skipSign 17 = .ok (.iconst 1, 1) := by decide +kernel
theorem dX8_skipSign_18 : decode cX8_skipSign 18 = .ok (.ireturn, 1) := by decide +kernel
theorem dX8_skipWord_0 : decode cX8_skipWord 0 = .ok (.aload_n 0, 1) := by decide +kernel
theorem dX8_skipWord_1 : decode cX8_skipWord 1 = .ok (.iload_n 1, 1) := by decide +kernel
theorem dX8_skipWord_2 : decode cX8_skipWord 2 = .ok (.invokevirtual 252, 3) := by decide +kernel
theorem dX8_skipWord_5 : decode cX8_skipWord 5 = .ok (.ifCond .ne 5, 3) := by decide +kernel
theorem dX8_skipWord_8 : decode cX8_skipWord 8 = .ok (.iconst 0, 1) := by decide +kernel
theorem dX8_skipWord_9 : decode cX8_skipWord 9 = .ok (.ireturn, 1) := by decide +kernel
theorem dX8_skipWord_10 : decode cX8_skipWord 10 = .ok (.aload_n 0, 1) := by decide +kernel
theorem dX8_skipWord_11 : decode cX8_skipWord 11 = .ok (.getfield 12, 3) := by decide +kernel
theorem dX8_skipWord_14 : decode cX8_skipWord 14 = .ok (.invokevirtual 79, 3) := by decide +kernel
theorem dX8_skipWord_17 : decode cX8_skipWord 17 = .ok (.iconst 1, 1) := by decide +kernel
theorem dX8_skipWord_18 : decode cX8_skipWord 18 = .ok (.ireturn, 1) := by decide +kernel
theorem dX8_takeAfter_0 : decode cX8_takeAfter 0 = .ok (.aload_n 0, 1) := by decide +kernel
theorem dX8_takeAfter_1 : decode cX8_takeAfter 1 = .ok (.iload_n 1, 1) := by decide +kernel
theorem dX8_takeAfter_2 : decode cX8_takeAfter 2 = .ok (.invokevirtual 154, 3) := by decide +kernel
theorem dX8_takeAfter_5 : decode cX8_takeAfter 5 = .ok (.aload_n 0, 1) := by decide +kernel
theorem dX8_takeAfter_6 : decode cX8_takeAfter 6 = .ok (.iload_n 2, 1) := by decide +kernel
theorem dX8_takeAfter_7 : decode cX8_takeAfter 7 = .ok (.iload_n 3, 1) := by decide +kernel
theorem dX8_takeAfter_8 : decode cX8_takeAfter 8 = .ok (.invokevirtual 182, 3) := by decide +kernel
theorem dX8_takeAfter_11 : decode cX8_takeAfter 11 = .ok (.ireturn, 1) := by decide +kernel
theorem dX8_takeNewName_0 : decode cX8_takeNewName 0 = .ok (.aload_n 0, 1) := by decide +kernel
theorem dX8_takeNewName_1 : decode cX8_takeNewName 1 = .ok (.invokevirtual 285, 3) := by decide +kernel
theorem dX8_takeNewName_4 : decode cX8_takeNewName 4 = .ok (.ifCond .eq 9, 3) := by decide +kernel
theorem dX8_takeNewName_7 : decode cX8_takeNewName 7 = .ok (.iload_n 2, 1) := by decide +kernel
theorem dX8_takeNewName_8 : decode cX8_takeNewName 8 = .ok (.aload_n 1, 1) := by decide +kernel
theorem dX8_takeNewName_9 : decode cX8_takeNewName 9 = .ok (.arraylength, 1) := by decide +kernel
theorem dX8_takeNewName_10 : decode cX8_takeNewName 10 = .ok (.if_icmp .lt 9, 3) := by decide +kernel
theorem dX8_takeNewName_13 : decode cX8_takeNewName 13 = .ok (.aload_n 0, 1) := by decide +kernel
theorem dX8_takeNewName_14 : decode cX8_takeNewName 14 = .ok (.iconst 2, 1) := by decide +kernel
theorem dX8_takeNewName_15 : decode cX8_takeNewName 15 = .ok (.invokevirtual 75, 3) := by decide +kernel
theorem dX8_takeNewName_18 : decode cX8_takeNewName 18 = .ok (.return_, 1) := by decide +kernel
theorem dX8_takeNewName_19 : decode cX8_takeNewName 19 = .ok (.aload_n 0, 1) := by decide +kernel
theorem dX8_takeNewName_20 : decode cX8_takeNewName 20 = .ok (.aload_n 1, 1) := by decide +kernel
theorem dX8_takeNewName_21 : decode cX8_takeNewName 21 = .ok (.iload_n 2, 1) := by decide +kernel
theorem dX8_takeNewName_22 : decode cX8_takeNewName 22 = .ok (.invokevirtual 289, 3) := by decide +kernel
theorem dX8_takeNewName_25 : decode cX8_takeNewName 25 = .ok (.iconst (-1), 1) := by decide +kernel
theorem dX8_takeNewName_26 : decode cX8_takeNewName 26 = .ok (.if_icmp .eq 9, 3) := by decide +kernel
theorem dX8_takeNewName_29 : decode cX8_takeNewName 29 = .ok (.aload_n 0, 1) := by decide +kernel
theorem dX8_takeNewName_30 : decode cX8_takeNewName 30 = .ok (.iconst 3, 1) := by decide +kernel
theorem dX8_takeNewName_31 : decode cX8_takeNewName 31 = .ok (.invokevirtual 75, 3) := by decide +kernel
theorem dX8_takeNewName_34 : decode cX8_takeNewName 34 = .ok (.return_, 1) := by decide +kernel
theorem dX8_takeNewName_35 : decode cX8_takeNewName 35 = .ok (.aload_n 1, 1) := by decide +kernel
theorem dX8_takeNewName_36 : decode cX8_takeNewName 36 = .ok (.iload_n 2, 1) := by decide +kernel
theorem dX8_takeNewName_37 : decode cX8_takeNewName 37 = .ok (.aload_n 0, 1) := by decide +kernel
theorem dX8_takeNewName_38 : decode cX8_takeNewName 38 = .ok (.getfield 12, 3) := by decide +kernel
theorem dX8_takeNewName_41 : decode cX8_takeNewName 41 = .ok (.getfield 293, 3) := by decide +kernel
theorem dX8_takeNewName_44 : decode cX8_takeNewName 44 = .ok (.lastore, 1) := by decide +kernel
theorem dX8_takeNewName_45 : decode cX8_takeNewName 45 = .ok (.aload_n 0, 1) := by decide +kernel
theorem dX8_takeNewName_46 : decode cX8_takeNewName 46 = .ok (.getfield 12, 3) := by decide +kernel
theorem dX8_takeNewName_49 : decode cX8_takeNewName 49 = .ok (.invokevirtual 79, 3) := by decide +kernel
theorem dX8_takeNewName_52 : decode cX8_takeNewName 52 = .ok (.return_, 1) := by decide +kernel
theorem dX8_takeNumber_0 : decode cX8_takeNumber 0 = .ok (.aload_n 0, 1) := by decide +kernel
theorem dX8_takeNumber_1 : decode cX8_takeNumber 1 = .ok (.iload_n 1, 1) := by decide +kernel
theorem dX8_takeNumber_2 : decode cX8_takeNumber 2 = .ok (.iload_n 2, 1) := by decide +kernel
theorem dX8_takeNumber_3 : decode cX8_takeNumber 3 = .ok (.invokevirtual 163, 3) := by decide +kernel
theorem dX8_takeNumber_6 : decode cX8_takeNumber 6 = .ok (.istore_n 3, 1) := by decide +kernel
theorem dX8_takeNumber_7 : decode cX8_takeNumber 7 = .ok (.aload_n 0, 1) := by decide +kernel
theorem dX8_takeNumber_8 : decode cX8_takeNumber 8 = .ok (.getfield 28, 3) := by decide +kernel
theorem dX8_takeNumber_11 : decode cX8_takeNumber 11 = .ok (.ifCond .ne 10, 3) := by decide +kernel
theorem dX8_takeNumber_14 : decode cX8_takeNumber 14 = .ok (.aload_n 0, 1) := by decide +kernel
theorem dX8_takeNumber_15 : decode cX8_takeNumber 15 = .ok (.getfield 12, 3) := by decide +kernel
theorem dX8_takeNumber_18 : decode cX8_takeNumber 18 = .ok (.invokevirtual 79, 3) := by decide +kernel
theorem dX8_takeNumber_21 : decode cX8_takeNumber 21 = .ok (.iload_n 3, 1) := by decide +kernel
theorem dX8_takeNumber_22 : decode cX8_takeNumber 22 = .ok (.ireturn, 1) := by decide +kernel
theorem dX8_takeRopeName_0 : decode cX8_takeRopeName 0 = .ok (.aload_n 0, 1) := by decide +kernel
theorem dX8_takeRopeName_1 : decode cX8_takeRopeName 1 = .ok (.invokevirtual 285, 3) := by decide +kernel
theorem dX8_takeRopeName_4 : decode cX8_takeRopeName 4 = .ok (.ifCond .ne 10, 3) := by decide +kernel
theorem dX8_takeRopeName_7 : decode cX8_takeRopeName 7 = .ok (.aload_n 0, 1) := by decide +kernel
theorem dX8_takeRopeName_8 : decode cX8_takeRopeName 8 = .ok (.iconst 2, 1) := by decide +kernel
theorem dX8_takeRopeName_9 : decode cX8_takeRopeName 9 = .ok (.invokevirtual 75, 3) := by decide +kernel
theorem dX8_takeRopeName_12 : decode cX8_takeRopeName 12 = .ok (.iconst (-1), 1) := by decide +kernel
theorem dX8_takeRopeName_13 : decode cX8_takeRopeName 13 = .ok (.ireturn, 1) := by decide +kernel
theorem dX8_takeRopeName_14 : decode cX8_takeRopeName 14 = .ok (.aload_n 0, 1) := by decide +kernel
theorem dX8_takeRopeName_15 : decode cX8_takeRopeName 15 = .ok (.aload_n 0, 1) := by decide +kernel
theorem dX8_takeRopeName_16 : decode cX8_takeRopeName 16 = .ok (.getfield 18, 3) := by decide +kernel
theorem dX8_takeRopeName_19 : decode cX8_takeRopeName 19 = .ok (.aload_n 0, 1) := by decide +kernel
theorem dX8_takeRopeName_20 : decode cX8_takeRopeName 20 = .ok (.getfield 35, 3) := by decide +kernel
theorem dX8_takeRopeName_23 : decode cX8_takeRopeName 23 = .ok (.getfield 107, 3) := by decide +kernel
theorem dX8_takeRopeName_26 : decode cX8_takeRopeName 26 = .ok (.invokevirtual 289, 3) := by decide +kernel
theorem dX8_takeRopeName_29 : decode cX8_takeRopeName 29 = .ok (.istore_n 1, 1) := by decide +kernel
theorem dX8_takeRopeName_30 : decode cX8_takeRopeName 30 = .ok (.iload_n 1, 1) := by decide +kernel
theorem dX8_takeRopeName_31 : decode cX8_takeRopeName 31 = .ok (.iconst (-1), 1) := by decide +kernel
theorem dX8_takeRopeName_32 : decode cX8_takeRopeName 32 = .ok (.if_icmp .ne 10, 3) := by decide +kernel
theorem dX8_takeRopeName_35 : decode cX8_takeRopeName 35 = .ok (.aload_n 0, 1) := by decide +kernel
theorem dX8_takeRopeName_36 : decode cX8_takeRopeName 36 = .ok (.iconst 5, 1) := by decide +kernel
theorem dX8_takeRopeName_37 : decode cX8_takeRopeName 37 = .ok (.invokevirtual 75, 3) := by decide +kernel
theorem dX8_takeRopeName_40 : decode cX8_takeRopeName 40 = .ok (.iconst (-1), 1) := by decide +kernel
theorem dX8_takeRopeName_41 : decode cX8_takeRopeName 41 = .ok (.ireturn, 1) := by decide +kernel
theorem dX8_takeRopeName_42 : decode cX8_takeRopeName 42 = .ok (.aload_n 0, 1) := by decide +kernel
theorem dX8_takeRopeName_43 : decode cX8_takeRopeName 43 = .ok (.getfield 12, 3) := by decide +kernel
theorem dX8_takeRopeName_46 : decode cX8_takeRopeName 46 = .ok (.invokevirtual 79, 3) := by decide +kernel
theorem dX8_takeRopeName_49 : decode cX8_takeRopeName 49 = .ok (.iload_n 1, 1) := by decide +kernel
theorem dX8_takeRopeName_50 : decode cX8_takeRopeName 50 = .ok (.ireturn, 1) := by decide +kernel
theorem dX8_takeSign_0 : decode cX8_takeSign 0 = .ok (.aload_n 0, 1) := by decide +kernel
theorem dX8_takeSign_1 : decode cX8_takeSign 1 = .ok (.iload_n 1, 1) := by decide +kernel
theorem dX8_takeSign_2 : decode cX8_takeSign 2 = .ok (.invokevirtual 264, 3) := by decide +kernel
theorem dX8_takeSign_5 : decode cX8_takeSign 5 = .ok (.ifCond .eq 13, 3) := by decide +kernel
theorem dX8_takeSign_8 : decode cX8_takeSign 8 = .ok (.aload_n 0, 1) := by decide +kernel
theorem dX8_takeSign_9 : decode cX8_takeSign 9 = .ok (.getfield 12, 3) := by decide +kernel
theorem dX8_takeSign_12 : decode cX8_takeSign 12 = .ok (.invokevirtual 79, 3) := by decide +kernel
theorem dX8_takeSign_15 : decode cX8_takeSign 15 = .ok (.goto 8, 3) := by decide +kernel
theorem dX8_takeSign_18 : decode cX8_takeSign 18 = .ok (.aload_n 0, 1) := by decide +kernel
theorem dX8_takeSign_19 : decode cX8_takeSign 19 = .ok (.iconst 2, 1) := by decide +kernel
theorem dX8_takeSign_20 : decode cX8_takeSign 20 = .ok (.invokevirtual 75, 3) := by decide +kernel
theorem dX8_takeSign_23 : decode cX8_takeSign 23 = .ok (.return_, 1) := by decide +kernel
theorem dX8_takeWord_0 : decode cX8_takeWord 0 = .ok (.aload_n 0, 1) := by decide +kernel
theorem dX8_takeWord_1 : decode cX8_takeWord 1 = .ok (.iload_n 1, 1) := by decide +kernel
theorem dX8_takeWord_2 : decode cX8_takeWord 2 = .ok (.invokevirtual 252, 3) := by decide +kernel
theorem dX8_takeWord_5 : decode cX8_takeWord 5 = .ok (.ifCond .eq 13, 3) := by decide +kernel
theorem dX8_takeWord_8 : decode cX8_takeWord 8 = .ok (.aload_n 0, 1) := by decide +kernel
theorem dX8_takeWord_9 : decode cX8_takeWord 9 = .ok (.getfield 12, 3) := by decide +kernel
theorem dX8_takeWord_12 : decode cX8_takeWord 12 = .ok (.invokevirtual 79, 3) := by decide +kernel
theorem dX8_takeWord_15 : decode cX8_takeWord 15 = .ok (.goto 8, 3) := by decide +kernel
theorem dX8_takeWord_18 : decode cX8_takeWord 18 = .ok (.aload_n 0, 1) := by decide +kernel
theorem dX8_takeWord_19 : decode cX8_takeWord 19 = .ok (.iconst 2, 1) := by decide +kernel
theorem dX8_takeWord_20 : decode cX8_takeWord 20 = .ok (.invokevirtual 75, 3) := by decide +kernel
theorem dX8_takeWord_23 : decode cX8_takeWord 23 = .ok (.return_, 1) := by decide +kernel
theorem dX8_wrong_0 : decode cX8_wrong 0 = .ok (.aload_n 0, 1) := by decide +kernel
theorem dX8_wrong_1 : decode cX8_wrong 1 = .ok (.getfield 28, 3) := by decide +kernel
theorem dX8_wrong_4 : decode cX8_wrong 4 = .ok (.ifCond .ne 13, 3) := by decide +kernel
theorem dX8_wrong_7 : decode cX8_wrong 7 = .ok (.aload_n 0, 1) := by decide +kernel
theorem dX8_wrong_8 : decode cX8_wrong 8 = .ok (.iload_n 1, 1) := by decide +kernel
theorem dX8_wrong_9 : decode cX8_wrong 9 = .ok (.putfield 28, 3) := by decide +kernel
theorem dX8_wrong_12 : decode cX8_wrong 12 = .ok (.aload_n 0, 1) := by decide +kernel
theorem dX8_wrong_13 : decode cX8_wrong 13 = .ok (.iload_n 2, 1) := by decide +kernel
theorem dX8_wrong_14 : decode cX8_wrong 14 = .ok (.putfield 32, 3) := by decide +kernel
theorem dX8_wrong_17 : decode cX8_wrong 17 = .ok (.return_, 1) := by decide +kernel
theorem dX8_wrongHere_0 : decode cX8_wrongHere 0 = .ok (.aload_n 0, 1) := by decide +kernel
theorem dX8_wrongHere_1 : decode cX8_wrongHere 1 = .ok (.aload_n 0, 1) := by decide +kernel
theorem dX8_wrongHere_2 : decode cX8_wrongHere 2 = .ok (.getfield 12, 3) := by decide +kernel
theorem dX8_wrongHere_5 : decode cX8_wrongHere 5 = .ok (.getfield 58, 3) := by decide +kernel
theorem dX8_wrongHere_8 : decode cX8_wrongHere 8 = .ok (.iconst 1, 1) := by decide +kernel
theorem dX8_wrongHere_9 : decode cX8_wrongHere 9 = .ok (.if_icmp .ne 7, 3) := by decide +kernel
theorem dX8_wrongHere_12 : decode cX8_wrongHere 12 = .ok (.iconst 1, 1) := by decide +kernel
theorem dX8_wrongHere_13 : decode cX8_wrongHere 13 = .ok (.goto 4, 3) := by decide +kernel
theorem dX8_wrongHere_16 : decode cX8_wrongHere 16 = .ok (.iload_n 1, 1) := by decide +kernel
theorem dX8_wrongHere_17 : decode cX8_wrongHere 17 = .ok (.aload_n 0, 1) := by decide +kernel
theorem dX8_wrongHere_18 : decode cX8_wrongHere 18 = .ok (.getfield 12, 3) := by decide +kernel
theorem dX8_wrongHere_21 : decode cX8_wrongHere 21 = .ok (.getfield 61, 3) := by decide +kernel
theorem dX8_wrongHere_24 : decode cX8_wrongHere 24 = .ok (.invokevirtual 64, 3) := by decide +kernel
theorem dX8_wrongHere_27 : decode cX8_wrongHere 27 = .ok (.return_, 1) := by decide +kernel
theorem dX9_init_0 : decode cX9_init 0 = .ok (.aload_n 0, 1) := by decide +kernel
theorem dX9_init_1 : decode cX9_init 1 = .ok (.invokespecial 1, 3) := by decide +kernel
theorem dX9_init_4 : decode cX9_init 4 = .ok (.return_, 1) := by decide +kernel
theorem dX10_init_0 : decode cX10_init 0 = .ok (.aload_n 0, 1) := by decide +kernel
theorem dX10_init_1 : decode cX10_init 1 = .ok (.invokespecial 3, 3) := by decide +kernel
theorem dX10_init_4 : decode cX10_init 4 = .ok (.aload_n 0, 1) := by decide +kernel
theorem dX10_init_5 : decode cX10_init 5 = .ok (.iconst 5, 1) := by decide +kernel
theorem dX10_init_6 : decode cX10_init 6 = .ok (.anewarray 9, 3) := by decide +kernel
theorem dX10_init_9 : decode cX10_init 9 = .ok (.putfield 11, 3) := by decide +kernel
theorem dX10_init_12 : decode cX10_init 12 = .ok (.aload_n 0, 1) := by decide +kernel
theorem dX10_init_13 : decode cX10_init 13 = .ok (.iconst 3, 1) := by decide +kernel
theorem dX10_init_14 : decode cX10_init 14 = .ok (.newarray .boolean, 2) := by decide +kernel
theorem dX10_init_16 : decode cX10_init 16 = .ok (.putfield 17, 3) := by decide +kernel
theorem dX10_init_19 : decode cX10_init 19 = .ok (.aload_n 0, 1) := by decide +kernel
theorem dX10_init_20 : decode cX10_init 20 = .ok (.bipush 6, 2) := by decide +kernel
theorem dX10_init_22 : decode cX10_init 22 = .ok (.newarray .int, 2) := by decide +kernel
theorem dX10_init_24 : decode cX10_init 24 = .ok (.putfield 21, 3) := by decide +kernel
theorem dX10_init_27 : decode cX10_init 27 = .ok (.aload_n 0, 1) := by decide +kernel
theorem dX10_init_28 : decode cX10_init 28 = .ok (.bipush 6, 2) := by decide +kernel
theorem dX10_init_30 : decode cX10_init 30 = .ok (.newarray .int, 2) := by decide +kernel
theorem dX10_init_32 : decode cX10_init 32 = .ok (.putfield 25, 3) := by decide +kernel
theorem dX10_init_35 : decode cX10_init 35 = .ok (.aload_n 0, 1) := by decide +kernel
theorem dX10_init_36 : decode cX10_init 36 = .ok (.new 28, 3) := by decide +kernel
theorem dX10_init_39 : decode cX10_init 39 = .ok (.dup, 1) := by decide +kernel
theorem dX10_init_40 : decode cX10_init 40 = .ok (.invokespecial 30, 3) := by decide +kernel
theorem dX10_init_43 : decode cX10_init 43 = .ok (.putfield 31, 3) := by decide +kernel
theorem dX10_init_46 : decode cX10_init 46 = .ok (.iconst 0, 1) := by decide +kernel
theorem dX10_init_47 : decode cX10_init 47 = .ok (.istore_n 1, 1) := by decide +kernel
theorem dX10_init_48 : decode cX10_init 48 = .ok (.iload_n 1, 1) := by decide +kernel
theorem dX10_init_49 : decode cX10_init 49 = .ok (.iconst 5, 1) := by decide +kernel
theorem dX10_init_50 : decode cX10_init 50 = .ok (.if_icmp .ge 22, 3) := by decide +kernel
theorem dX10_init_53 : decode cX10_init 53 = .ok (.aload_n 0, 1) := by decide +kernel
theorem dX10_init_54 : decode cX10_init 54 = .ok (.getfield 11, 3) := by decide +kernel
theorem dX10_init_57 : decode cX10_init 57 = .ok (.iload_n 1, 1) := by decide +kernel
theorem dX10_init_58 : decode cX10_init 58 = .ok (.new 9, 3) := by decide +kernel
theorem dX10_init_61 : decode cX10_init 61 = .ok (.dup, 1) := by decide +kernel
theorem dX10_init_62 : decode cX10_init 62 = .ok (.invokespecial 35, 3) := by decide +kernel
theorem dX10_init_65 : decode cX10_init 65 = .ok (.aastore, 1) := by decide +kernel
theorem dX10_init_66 : decode cX10_init 66 = .ok (.iinc 1 1, 3) := by decide +kernel
theorem dX10_init_69 : decode cX10_init 69 = .ok (.goto (-21), 3) := by decide +kernel
theorem dX10_init_72 : decode cX10_init 72 = .ok (.return_, 1) := by decide +kernel
theorem dX10_begin_0 : decode cX10_begin 0 = .ok (.aload_n 0, 1) := by decide +kernel
theorem dX10_begin_1 : decode cX10_begin 1 = .ok (.iconst 0, 1) := by decide +kernel
theorem dX10_begin_2 : decode cX10_begin 2 = .ok (.putfield 36, 3) := by decide +kernel
theorem dX10_begin_5 : decode cX10_begin 5 = .ok (.aload_n 0, 1) := by decide +kernel
theorem dX10_begin_6 : decode cX10_begin 6 = .ok (.iconst (-1), 1) := by decide +kernel
theorem dX10_begin_7 : decode cX10_begin 7 = .ok (.putfield 40, 3) := by decide +kernel
theorem dX10_begin_10 : decode cX10_begin 10 = .ok (.aload_n 0, 1) := by decide +kernel
theorem dX10_begin_11 : decode cX10_begin 11 = .ok (.iconst 0, 1) := by decide +kernel
theorem dX10_begin_12 : decode cX10_begin 12 = .ok (.putfield 43, 3) := by decide +kernel
theorem dX10_begin_15 : decode cX10_begin 15 = .ok (.aload_n 0, 1) := by decide +kernel
theorem dX10_begin_16 : decode cX10_begin 16 = .ok (.iconst (-1), 1) := by decide +kernel
theorem dX10_begin_17 : decode cX10_begin 17 = .ok (.putfield 46, 3) := by decide +kernel
theorem dX10_begin_20 : decode cX10_begin 20 = .ok (.aload_n 0, 1) := by decide +kernel
theorem dX10_begin_21 : decode cX10_begin 21 = .ok (.iconst (-1), 1) := by decide +kernel
theorem dX10_begin_22 : decode cX10_begin 22 = .ok (.putfield 49, 3) := by decide +kernel
theorem dX10_begin_25 : decode cX10_begin 25 = .ok (.aload_n 0, 1) := by decide +kernel
theorem dX10_begin_26 : decode cX10_begin 26 = .ok (.iconst 0, 1) := by decide +kernel
theorem dX10_begin_27 : decode cX10_begin 27 = .ok (.putfield 52, 3) := by decide +kernel
theorem dX10_begin_30 : decode cX10_begin 30 = .ok (.iconst 0, 1) := by decide +kernel
theorem dX10_begin_31 : decode cX10_begin 31 = .ok (.istore_n 2, 1) := by decide +kernel
theorem dX10_begin_32 : decode cX10_begin 32 = .ok (.iload_n 2, 1) := by decide +kernel
theorem dX10_begin_33 : decode cX10_begin 33 = .ok (.iconst 5, 1) := by decide +kernel
theorem dX10_begin_34 : decode cX10_begin 34 = .ok (.if_icmp .ge 24, 3) := by decide +kernel
theorem dX10_begin_37 : decode cX10_begin 37 = .ok (.aload_n 0, 1) := by decide +kernel
theorem dX10_begin_38 : decode cX10_begin 38 = .ok (.getfield 11, 3) := by decide +kernel
theorem dX10_begin_41 : decode cX10_begin 41 = .ok (.iload_n 2, 1) := by decide +kernel
theorem dX10_begin_42 : decode cX10_begin 42 = .ok (.aaload, 1) := by decide +kernel
theorem dX10_begin_43 : decode cX10_begin 43 = .ok (.aload_n 1, 1) := by decide +kernel
theorem dX10_begin_44 : decode cX10_begin 44 = .ok (.getfield 55, 3) := by decide +kernel
theorem dX10_begin_47 : decode cX10_begin 47 = .ok (.iload_n 2, 1) := by decide +kernel
theorem dX10_begin_48 : decode cX10_begin 48 = .ok (.iaload, 1) := by decide +kernel
theorem dX10_begin_49 : decode cX10_begin 49 = .ok (.invokevirtual 60, 3) := by decide +kernel
theorem dX10_begin_52 : decode cX10_begin 52 = .ok (.iinc 2 1, 3) := by decide +kernel
theorem dX10_begin_55 : decode cX10_begin 55 = .ok (.goto (-23), 3) := by decide +kernel
theorem dX10_begin_58 : decode cX10_begin 58 = .ok (.iconst 0, 1) := by decide +kernel
theorem dX10_begin_59 : decode cX10_begin 59 = .ok (.istore_n 2, 1) := by decide +kernel
theorem dX10_begin_60 : decode cX10_begin 60 = .ok (.iload_n 2, 1) := by decide +kernel
theorem dX10_begin_61 : decode cX10_begin 61 = .ok (.iconst 3, 1) := by decide +kernel
theorem dX10_begin_62 : decode cX10_begin 62 = .ok (.if_icmp .ge 16, 3) := by decide +kernel
theorem dX10_begin_65 : decode cX10_begin 65 = .ok (.aload_n 0, 1) := by decide +kernel
theorem dX10_begin_66 : decode cX10_begin 66 = .ok (.getfield 17, 3) := by decide +kernel
theorem dX10_begin_69 : decode cX10_begin 69 = .ok (.iload_n 2, 1) := by decide +kernel
theorem dX10_begin_70 : decode cX10_begin 70 = .ok (.iconst 0, 1) := by decide +kernel
theorem dX10_begin_71 : decode cX10_begin 71 = .ok (.bastore, 1) := by decide +kernel
theorem dX10_begin_72 : decode cX10_begin 72 = .ok (.iinc 2 1, 3) := by decide +kernel
theorem dX10_begin_75 : decode cX10_begin 75 = .ok (.goto (-15), 3) := by decide +kernel
theorem dX10_begin_78 : decode cX10_begin 78 = .ok (.aload_n 1, 1) := by decide +kernel
theorem dX10_begin_79 : decode cX10_begin 79 = .ok (.getfield 64, 3) := by decide +kernel
theorem dX10_begin_82 : decode cX10_begin 82 = .ok (.iconst 0, 1) := by decide +kernel
theorem dX10_begin_83 : decode cX10_begin 83 = .ok (.aload_n 0, 1) := by decide +kernel
theorem dX10_begin_84 : decode cX10_begin 84 = .ok (.getfield 21, 3) := by decide +kernel
theorem dX10_begin_87 : decode cX10_begin 87 = .ok (.iconst 0, 1) := by decide +kernel
theorem dX10_begin_88 : decode cX10_begin 88 = .ok (.bipush 6, 2) := by decide +kernel
theorem dX10_begin_90 : decode cX10_begin 90 = .ok (.invokestatic 67, 3) := by decide +kernel
theorem dX10_begin_93 : decode cX10_begin 93 = .ok (.aload_n 0, 1) := by decide +kernel
theorem dX10_begin_94 : decode cX10_begin 94 = .ok (.getfield 25, 3) := by decide +kernel
theorem dX10_begin_97 : decode cX10_begin 97 = .ok (.iconst 0, 1) := by decide +kernel
theorem dX10_begin_98 : decode cX10_begin 98 = .ok (.invokestatic 73, 3) := by decide +kernel
theorem dX10_begin_101 : decode cX10_begin 101 = .ok (.aload_n 0, 1) := by decide +kernel
theorem dX10_begin_102 : decode cX10_begin 102 = .ok (.getfield 31, 3) := by decide +kernel
theorem dX10_begin_105 : decode cX10_begin 105 = .ok (.invokevirtual 79, 3) := by decide +kernel
theorem dX10_begin_108 : decode cX10_begin 108 = .ok (.return_, 1) := by decide +kernel
theorem dX10_copyFrom_0 : decode cX10_copyFrom 0 = .ok (.aload_n 0, 1) := by decide +kernel
theorem dX10_copyFrom_1 : decode cX10_copyFrom 1 = .ok (.aload_n 1, 1) := by decide +kernel
theorem dX10_copyFrom_2 : decode cX10_copyFrom 2 = .ok (.getfield 36, 3) := by decide +kernel
theorem dX10_copyFrom_5 : decode cX10_copyFrom 5 = .ok (.putfield 36, 3) := by decide +kernel
theorem dX10_copyFrom_8 : decode cX10_copyFrom 8 = .ok (.aload_n 0, 1) := by decide +kernel
theorem dX10_copyFrom_9 : decode cX10_copyFrom 9 = .ok (.aload_n 1, 1) := by decide +kernel
theorem dX10_copyFrom_10 : decode cX10_copyFrom 10 = .ok (.getfield 40, 3) := by decide +kernel
theorem dX10_copyFrom_13 : decode cX10_copyFrom 13 = .ok (.putfield 40, 3) := by decide +kernel
theorem dX10_copyFrom_16 : decode cX10_copyFrom 16 = .ok (.aload_n 0, 1) := by decide +kernel
theorem dX10_copyFrom_17 : decode cX10_copyFrom 17 = .ok (.aload_n 1, 1) := by decide +kernel
theorem dX10_copyFrom_18 : decode cX10_copyFrom 18 = .ok (.getfield 43, 3) := by decide +kernel
theorem dX10_copyFrom_21 : decode cX10_copyFrom 21 = .ok (.putfield 43, 3) := by decide +kernel
theorem dX10_copyFrom_24 : decode cX10_copyFrom 24 = .ok (.aload_n 0, 1) := by decide +kernel
theorem dX10_copyFrom_25 : decode cX10_copyFrom 25 = .ok (.aload_n 1, 1) := by decide +kernel
theorem dX10_copyFrom_26 : decode cX10_copyFrom 26 = .ok (.getfield 46, 3) := by decide +kernel
theorem dX10_copyFrom_29 : decode cX10_copyFrom 29 = .ok (.putfield 46, 3) := by decide +kernel
theorem dX10_copyFrom_32 : decode cX10_copyFrom 32 = .ok (.aload_n 0, 1) := by decide +kernel
theorem dX10_copyFrom_33 : decode cX10_copyFrom 33 = .ok (.aload_n 1, 1) := by decide +kernel
theorem dX10_copyFrom_34 : decode cX10_copyFrom 34 = .ok (.getfield 49, 3) := by decide +kernel
theorem dX10_copyFrom_37 : decode cX10_copyFrom 37 = .ok (.putfield 49, 3) := by decide +kernel
theorem dX10_copyFrom_40 : decode cX10_copyFrom 40 = .ok (.aload_n 0, 1) := by decide +kernel
theorem dX10_copyFrom_41 : decode cX10_copyFrom 41 = .ok (.aload_n 1, 1) := by decide +kernel
theorem dX10_copyFrom_42 : decode cX10_copyFrom 42 = .ok (.getfield 52, 3) := by decide +kernel
theorem dX10_copyFrom_45 : decode cX10_copyFrom 45 = .ok (.putfield 52, 3) := by decide +kernel
theorem dX10_copyFrom_48 : decode cX10_copyFrom 48 = .ok (.iconst 0, 1) := by decide +kernel
theorem dX10_copyFrom_49 : decode cX10_copyFrom 49 = .ok (.istore_n 2, 1) := by decide +kernel
theorem dX10_copyFrom_50 : decode cX10_copyFrom 50 = .ok (.iload_n 2, 1) := by decide +kernel
theorem dX10_copyFrom_51 : decode cX10_copyFrom 51 = .ok (.iconst 5, 1) := by decide +kernel
theorem dX10_copyFrom_52 : decode cX10_copyFrom 52 = .ok (.if_icmp .ge 24, 3) := by decide +kernel
theorem dX10_copyFrom_55 : decode cX10_copyFrom 55 = .ok (.aload_n 0, 1) := by decide +kernel
theorem dX10_copyFrom_56 : decode cX10_copyFrom 56 = .ok (.getfield 11, 3) := by decide +kernel
theorem dX10_copyFrom_59 : decode cX10_copyFrom 59 = .ok (.iload_n 2, 1) := by decide +kernel
theorem dX10_copyFrom_60 : decode cX10_copyFrom 60 = .ok (.aaload, 1) := by decide +kernel
theorem dX10_copyFrom_61 : decode cX10_copyFrom 61 = .ok (.aload_n 1, 1) := by decide +kernel
theorem dX10_copyFrom_62 : decode cX10_copyFrom 62 = .ok (.getfield 11, 3) := by decide +kernel
theorem dX10_copyFrom_65 : decode cX10_copyFrom 65 = .ok (.iload_n 2, 1) := by decide +kernel
theorem dX10_copyFrom_66 : decode cX10_copyFrom 66 = .ok (.aaload, 1) := by decide +kernel
theorem dX10_copyFrom_67 : decode cX10_copyFrom 67 = .ok (.invokevirtual 82, 3) := by decide +kernel
theorem dX10_copyFrom_70 : decode cX10_copyFrom 70 = .ok (.iinc 2 1, 3) := by decide +kernel
theorem dX10_copyFrom_73 : decode cX10_copyFrom 73 = .ok (.goto (-23), 3) := by decide +kernel
theorem dX10_copyFrom_76 : decode cX10_copyFrom 76 = .ok (.aload_n 1, 1) := by decide +kernel
theorem dX10_copyFrom_77 : decode cX10_copyFrom 77 = .ok (.getfield 17, 3) := by decide +kernel
theorem dX10_copyFrom_80 : decode cX10_copyFrom 80 = .ok (.iconst 0, 1) := by decide +kernel
theorem dX10_copyFrom_81 : decode cX10_copyFrom 81 = .ok (.aload_n 0, 1) := by decide +kernel
theorem dX10_copyFrom_82 : decode cX10_copyFrom 82 = .ok (.getfield 17, 3) := by decide +kernel
theorem dX10_copyFrom_85 : decode cX10_copyFrom 85 = .ok (.iconst 0, 1) := by decide +kernel
theorem dX10_copyFrom_86 : decode cX10_copyFrom 86 = .ok (.iconst 3, 1) := by decide +kernel
theorem dX10_copyFrom_87 : decode cX10_copyFrom 87 = .ok (.invokestatic 67, 3) := by decide +kernel
theorem dX10_copyFrom_90 : decode cX10_copyFrom 90 = .ok (.aload_n 1, 1) := by decide +kernel
theorem dX10_copyFrom_91 : decode cX10_copyFrom 91 = .ok (.getfield 21, 3) := by decide +kernel
theorem dX10_copyFrom_94 : decode cX10_copyFrom 94 = .ok (.iconst 0, 1) := by decide +kernel
theorem dX10_copyFrom_95 : decode cX10_copyFrom 95 = .ok (.aload_n 0, 1) := by decide +kernel
theorem dX10_copyFrom_96 : decode cX10_copyFrom 96 = .ok (.getfield 21, 3) := by decide +kernel
theorem dX10_copyFrom_99 : decode cX10_copyFrom 99 = .ok (.iconst 0, 1) := by decide +kernel
theorem dX10_copyFrom_100 : decode cX10_copyFrom 100 = .ok (.bipush 6, 2) := by decide +kernel
theorem dX10_copyFrom_102 : decode cX10_copyFrom 102 = .ok (.invokestatic 67, 3) := by decide +kernel
theorem dX10_copyFrom_105 : decode cX10_copyFrom 105 = .ok (.aload_n 1, 1) := by decide +kernel
theorem dX10_copyFrom_106 : decode cX10_copyFrom 106 = .ok (.getfield 25, 3) := by decide +kernel
theorem dX10_copyFrom_109 : decode cX10_copyFrom 109 = .ok (.iconst 0, 1) := by decide +kernel
theorem dX10_copyFrom_110 : decode cX10_copyFrom 110 = .ok (.aload_n 0, 1) := by decide +kernel
theorem dX10_copyFrom_111 : decode cX10_copyFrom 111 = .ok (.getfield 25, 3) := by decide +kernel
theorem dX10_copyFrom_114 : decode cX10_copyFrom 114 = .ok (.iconst 0, 1) := by decide +kernel
theorem dX10_copyFrom_115 : decode cX10_copyFrom 115 = .ok (.bipush 6, 2) := by decide +kernel
theorem dX10_copyFrom_117 : decode cX10_copyFrom 117 = .ok (.invokestatic 67, 3) := by decide +kernel
theorem dX10_copyFrom_120 : decode cX10_copyFrom 120 = .ok (.aload_n 0, 1) := by decide +kernel
theorem dX10_copyFrom_121 : decode cX10_copyFrom 121 = .ok (.getfield 31, 3) := by decide +kernel
theorem dX10_copyFrom_124 : decode cX10_copyFrom 124 = .ok (.aload_n 1, 1) := by decide +kernel
theorem dX10_copyFrom_125 : decode cX10_copyFrom 125 = .ok (.getfield 31, 3) := by decide +kernel
theorem dX10_copyFrom_128 : decode cX10_copyFrom 128 = .ok (.invokevirtual 86, 3) := by decide +kernel
theorem dX10_copyFrom_131 : decode cX10_copyFrom 131 = .ok (.return_, 1) := by decide +kernel
theorem dX10_dips_0 : decode cX10_dips 0 = .ok (.aload_n 1, 1) := by decide +kernel
theorem dX10_dips_1 : decode cX10_dips 1 = .ok (.iload_n 2, 1) := by decide +kernel
theorem dX10_dips_2 : decode cX10_dips 2 = .ok (.invokevirtual 114, 3) := by decide +kernel
theorem dX10_dips_5 : decode cX10_dips 5 = .ok (.ifCond .eq 34, 3) := by decide +kernel
theorem dX10_dips_8 : decode cX10_dips 8 = .ok (.aload_n 0, 1) := by decide +kernel
theorem dX10_dips_9 : decode cX10_dips 9 = .ok (.getfield 17, 3) := by decide +kernel
theorem dX10_dips_12 : decode cX10_dips 12 = .ok (.iload_n 2, 1) := by decide +kernel
theorem dX10_dips_13 : decode cX10_dips 13 = .ok (.baload, 1) := by decide +kernel
theorem dX10_dips_14 : decode cX10_dips 14 = .ok (.ifCond .ne 25, 3) := by decide +kernel
theorem dX10_dips_17 : decode cX10_dips 17 = .ok (.aload_n 0, 1) := by decide +kernel
theorem dX10_dips_18 : decode cX10_dips 18 = .ok (.aload_n 1, 1) := by decide +kernel
theorem dX10_dips_19 : decode cX10_dips 19 = .ok (.iload_n 2, 1) := by decide +kernel
theorem dX10_dips_20 : decode cX10_dips 20 = .ok (.invokevirtual 118, 3) := by decide +kernel
theorem dX10_dips_23 : decode cX10_dips 23 = .ok (.aload_n 1, 1) := by decide +kernel
theorem dX10_dips_24 : decode cX10_dips 24 = .ok (.getfield 122, 3) := by decide +kernel
theorem dX10_dips_27 : decode cX10_dips 27 = .ok (.iload_n 2, 1) := by decide +kernel
theorem dX10_dips_28 : decode cX10_dips 28 = .ok (.aaload, 1) := by decide +kernel
theorem dX10_dips_29 : decode cX10_dips 29 = .ok (.getfield 126, 3) := by decide +kernel
theorem dX10_dips_32 : decode cX10_dips 32 = .ok (.if_icmp .le 7, 3) := by decide +kernel
theorem dX10_dips_35 : decode cX10_dips 35 = .ok (.iconst 1, 1) := by decide +kernel
theorem dX10_dips_36 : decode cX10_dips 36 = .ok (.goto 4, 3) := by decide +kernel
theorem dX10_dips_39 : decode cX10_dips 39 = .ok (.iconst 0, 1) := by decide +kernel
theorem dX10_dips_40 : decode cX10_dips 40 = .ok (.ireturn, 1) := by decide +kernel
theorem dX10_load_0 : decode cX10_load 0 = .ok (.iconst 0, 1) := by decide +kernel
theorem dX10_load_1 : decode cX10_load 1 = .ok (.istore_n 3, 1) := by decide +kernel
theorem dX10_load_2 : decode cX10_load 2 = .ok (.iconst 0, 1) := by decide +kernel
theorem dX10_load_3 : decode cX10_load 3 = .ok (.istore 4, 2) := by decide +kernel
theorem dX10_load_5 : decode cX10_load 5 = .ok (.iload 4, 2) := by decide +kernel
theorem dX10_load_7 : decode cX10_load 7 = .ok (.aload_n 1, 1) := by decide +kernel
theorem dX10_load_8 : decode cX10_load 8 = .ok (.getfield 89, 3) := by decide +kernel
theorem dX10_load_11 : decode cX10_load 11 = .ok (.if_icmp .ge 68, 3) := by decide +kernel
theorem dX10_load_14 : decode cX10_load 14 = .ok (.aload_n 0, 1) := by decide +kernel
theorem dX10_load_15 : decode cX10_load 15 = .ok (.getfield 11, 3) := by decide +kernel
theorem dX10_load_18 : decode cX10_load 18 = .ok (.iload 4, 2) := by decide +kernel
theorem dX10_load_20 : decode cX10_load 20 = .ok (.aaload, 1) := by decide +kernel
theorem dX10_load_21 : decode cX10_load 21 = .ok (.getfield 91, 3) := by decide +kernel
theorem dX10_load_24 : decode cX10_load 24 = .ok (.ifCond .ne 49, 3) := by decide +kernel
theorem dX10_load_27 : decode cX10_load 27 = .ok (.aload_n 0, 1) := by decide +kernel
theorem dX10_load_28 : decode cX10_load 28 = .ok (.getfield 11, 3) := by decide +kernel
theorem dX10_load_31 : decode cX10_load 31 = .ok (.iload 4, 2) := by decide +kernel
theorem dX10_load_33 : decode cX10_load 33 = .ok (.aaload, 1) := by decide +kernel
theorem dX10_load_34 : decode cX10_load 34 = .ok (.invokevirtual 94, 3) := by decide +kernel
theorem dX10_load_37 : decode cX10_load 37 = .ok (.istore 5, 2) := by decide +kernel
theorem dX10_load_39 : decode cX10_load 39 = .ok (.iload_n 3, 1) := by decide +kernel
theorem dX10_load_40 : decode cX10_load 40 = .ok (.aload_n 1, 1) := by decide +kernel
theorem dX10_load_41 : decode cX10_load 41 = .ok (.iload 5, 2) := by decide +kernel
theorem dX10_load_43 : decode cX10_load 43 = .ok (.invokevirtual 98, 3) := by decide +kernel
theorem dX10_load_46 : decode cX10_load 46 = .ok (.iload_n 2, 1) := by decide +kernel
theorem dX10_load_47 : decode cX10_load 47 = .ok (.if_icmp .ne 23, 3) := by decide +kernel
theorem dX10_load_50 : decode cX10_load 50 = .ok (.aload_n 1, 1) := by decide +kernel
theorem dX10_load_51 : decode cX10_load 51 = .ok (.getfield 102, 3) := by decide +kernel
theorem dX10_load_54 : decode cX10_load 54 = .ok (.iload 4, 2) := by decide +kernel
theorem dX10_load_56 : decode cX10_load 56 = .ok (.iaload, 1) := by decide +kernel
theorem dX10_load_57 : decode cX10_load 57 = .ok (.bipush 10, 2) := by decide +kernel
theorem dX10_load_59 : decode cX10_load 59 = .ok (.aload_n 1, 1) := by decide +kernel
theorem dX10_load_60 : decode cX10_load 60 = .ok (.iload 5, 2) := by decide +kernel
theorem dX10_load_62 : decode cX10_load 62 = .ok (.invokevirtual 105, 3) := by decide +kernel
theorem dX10_load_65 : decode cX10_load 65 = .ok (.iadd, 1) := by decide +kernel
theorem dX10_load_66 : decode cX10_load 66 = .ok (.imul, 1) := by decide +kernel
theorem dX10_load_67 : decode cX10_load 67 = .ok (.goto 4, 3) := by decide +kernel
theorem dX10_load_70 : decode cX10_load 70 = .ok (.iconst 0, 1) := by decide +kernel
theorem dX10_load_71 : decode cX10_load 71 = .ok (.iadd, 1) := by decide +kernel
theorem dX10_load_72 : decode cX10_load 72 = .ok (.istore_n 3, 1) := by decide +kernel
theorem dX10_load_73 : decode cX10_load 73 = .ok (.iinc 4 1, 3) := by decide +kernel
theorem dX10_load_76 : decode cX10_load 76 = .ok (.goto (-71), 3) := by decide +kernel
theorem dX10_load_79 : decode cX10_load 79 = .ok (.iload_n 3, 1) := by decide +kernel
theorem dX10_load_80 : decode cX10_load 80 = .ok (.iconst 0, 1) := by decide +kernel
theorem dX10_load_81 : decode cX10_load 81 = .ok (.invokestatic 108, 3) := by decide +kernel
theorem dX10_load_84 : decode cX10_load 84 = .ok (.ireturn, 1) := by decide +kernel
theorem dX10_notDone_0 : decode cX10_notDone 0 = .ok (.iconst 0, 1) := by decide +kernel
theorem dX10_notDone_1 : decode cX10_notDone 1 = .ok (.istore_n 2, 1) := by decide +kernel
theorem dX10_notDone_2 : decode cX10_notDone 2 = .ok (.iconst 0, 1) := by decide +kernel
theorem dX10_notDone_3 : decode cX10_notDone 3 = .ok (.istore_n 3, 1) := by decide +kernel
theorem dX10_notDone_4 : decode cX10_notDone 4 = .ok (.iload_n 3, 1) := by decide +kernel
theorem dX10_notDone_5 : decode cX10_notDone 5 = .ok (.aload_n 1, 1) := by decide +kernel
theorem dX10_notDone_6 : decode cX10_notDone 6 = .ok (.getfield 89, 3) := by decide +kernel
theorem dX10_notDone_9 : decode cX10_notDone 9 = .ok (.if_icmp .ge 25, 3) := by decide +kernel
theorem dX10_notDone_12 : decode cX10_notDone 12 = .ok (.aload_n 0, 1) := by decide +kernel
theorem dX10_notDone_13 : decode cX10_notDone 13 = .ok (.getfield 11, 3) := by decide +kernel
theorem dX10_notDone_16 : decode cX10_notDone 16 = .ok (.iload_n 3, 1) := by decide +kernel
theorem dX10_notDone_17 : decode cX10_notDone 17 = .ok (.aaload, 1) := by decide +kernel
theorem dX10_notDone_18 : decode cX10_notDone 18 = .ok (.getfield 91, 3) := by decide +kernel
theorem dX10_notDone_21 : decode cX10_notDone 21 = .ok (.iconst 3, 1) := by decide +kernel
theorem dX10_notDone_22 : decode cX10_notDone 22 = .ok (.if_icmp .eq 6, 3) := by decide +kernel
theorem dX10_notDone_25 : decode cX10_notDone 25 = .ok (.iinc 2 1, 3) := by decide +kernel
theorem dX10_notDone_28 : decode cX10_notDone 28 = .ok (.iinc 3 1, 3) := by decide +kernel
theorem dX10_notDone_31 : decode cX10_notDone 31 = .ok (.goto (-27), 3) := by decide +kernel
theorem dX10_notDone_34 : decode cX10_notDone 34 = .ok (.iload_n 2, 1) := by decide +kernel
theorem dX10_notDone_35 : decode cX10_notDone 35 = .ok (.ireturn, 1) := by decide +kernel
theorem dX11_init_0 : decode cX11_init 0 = .ok (.aload_n 0, 1) := by decide +kernel
theorem dX11_init_1 : decode cX11_init 1 = .ok (.invokespecial 1, 3) := by decide +kernel
theorem dX11_init_4 : decode cX11_init 4 = .ok (.aload_n 0, 1) := by decide +kernel
theorem dX11_init_5 : decode cX11_init 5 = .ok (.sipush 1600, 3) := by decide +kernel
theorem dX11_init_8 : decode cX11_init 8 = .ok (.newarray .byte, 2) := by decide +kernel
theorem dX11_init_10 : decode cX11_init 10 = .ok (.putfield 9, 3) := by decide +kernel
theorem dX11_init_13 : decode cX11_init 13 = .ok (.aload_n 0, 1) := by decide +kernel
theorem dX11_init_14 : decode cX11_init 14 = .ok (.iconst 0, 1) := by decide +kernel
theorem dX11_init_15 : decode cX11_init 15 = .ok (.putfield 13, 3) := by decide +kernel
theorem dX11_init_18 : decode cX11_init 18 = .ok (.aload_n 0, 1) := by decide +kernel
theorem dX11_init_19 : decode cX11_init 19 = .ok (.new 17, 3) := by decide +kernel
theorem dX11_init_22 : decode cX11_init 22 = .ok (.dup, 1) := by decide +kernel
theorem dX11_init_23 : decode cX11_init 23 = .ok (.invokespecial 19, 3) := by decide +kernel
theorem dX11_init_26 : decode cX11_init 26 = .ok (.putfield 20, 3) := by decide +kernel
theorem dX11_init_29 : decode cX11_init 29 = .ok (.aload_n 0, 1) := by decide +kernel
theorem dX11_init_30 : decode cX11_init 30 = .ok (.new 24, 3) := by decide +kernel
theorem dX11_init_33 : decode cX11_init 33 = .ok (.dup, 1) := by decide +kernel
theorem dX11_init_34 : decode cX11_init 34 = .ok (.invokespecial 26, 3) := by decide +kernel
theorem dX11_init_37 : decode cX11_init 37 = .ok (.putfield 27, 3) := by decide +kernel
theorem dX11_init_40 : decode cX11_init 40 = .ok (.aload_n 0, 1) := by decide +kernel
theorem dX11_init_41 : decode cX11_init 41 = .ok (.new 24, 3) := by decide +kernel
theorem dX11_init_44 : decode cX11_init 44 = .ok (.dup, 1) := by decide +kernel
theorem dX11_init_45 : decode cX11_init 45 = .ok (.invokespecial 26, 3) := by decide +kernel
theorem dX11_init_48 : decode cX11_init 48 = .ok (.putfield 31, 3) := by decide +kernel
theorem dX11_init_51 : decode cX11_init 51 = .ok (.aload_n 0, 1) := by decide +kernel
theorem dX11_init_52 : decode cX11_init 52 = .ok (.new 34, 3) := by decide +kernel
theorem dX11_init_55 : decode cX11_init 55 = .ok (.dup, 1) := by decide +kernel
theorem dX11_init_56 : decode cX11_init 56 = .ok (.invokespecial 36, 3) := by decide +kernel
theorem dX11_init_59 : decode cX11_init 59 = .ok (.putfield 37, 3) := by decide +kernel
theorem dX11_init_62 : decode cX11_init 62 = .ok (.aload_n 0, 1) := by decide +kernel
theorem dX11_init_63 : decode cX11_init 63 = .ok (.iconst 3, 1) := by decide +kernel
theorem dX11_init_64 : decode cX11_init 64 = .ok (.anewarray 34, 3) := by decide +kernel
theorem dX11_init_67 : decode cX11_init 67 = .ok (.putfield 41, 3) := by decide +kernel
theorem dX11_init_70 : decode cX11_init 70 = .ok (.aload_n 0, 1) := by decide +kernel
theorem dX11_init_71 : decode cX11_init 71 = .ok (.iconst 3, 1) := by decide +kernel
theorem dX11_init_72 : decode cX11_init 72 = .ok (.newarray .boolean, 2) := by decide +kernel
theorem dX11_init_74 : decode cX11_init 74 = .ok (.putfield 45, 3) := by decide +kernel
theorem dX11_init_77 : decode cX11_init 77 = .ok (.aload_n 0, 1) := by decide +kernel
theorem dX11_init_78 : decode cX11_init 78 = .ok (.new 49, 3) := by decide +kernel
theorem dX11_init_81 : decode cX11_init 81 = .ok (.dup, 1) := by decide +kernel
theorem dX11_init_82 : decode cX11_init 82 = .ok (.invokespecial 51, 3) := by decide +kernel
theorem dX11_init_85 : decode cX11_init 85 = .ok (.putfield 52, 3) := by decide +kernel
theorem dX11_init_88 : decode cX11_init 88 = .ok (.aload_n 0, 1) := by decide +kernel
theorem dX11_init_89 : decode cX11_init 89 = .ok (.new 56, 3) := by decide +kernel
theorem dX11_init_92 : decode cX11_init 92 = .ok (.dup, 1) := by decide +kernel
theorem dX11_init_93 : decode cX11_init 93 = .ok (.invokespecial 58, 3) := by decide +kernel
theorem dX11_init_96 : decode cX11_init 96 = .ok (.putfield 59, 3) := by decide +kernel
theorem dX11_init_99 : decode cX11_init 99 = .ok (.aload_n 0, 1) := by decide +kernel
theorem dX11_init_100 : decode cX11_init 100 = .ok (.new 63, 3) := by decide +kernel
theorem dX11_init_103 : decode cX11_init 103 = .ok (.dup, 1) := by decide +kernel
theorem dX11_init_104 : decode cX11_init 104 = .ok (.invokespecial 65, 3) := by decide +kernel
theorem dX11_init_107 : decode cX11_init 107 = .ok (.putfield 66, 3) := by decide +kernel
theorem dX11_init_110 : decode cX11_init 110 = .ok (.iconst 0, 1) := by decide +kernel
theorem dX11_init_111 : decode cX11_init 111 = .ok (.istore_n 1, 1) := by decide +kernel
theorem dX11_init_112 : decode cX11_init 112 = .ok (.iload_n 1, 1) := by decide +kernel
theorem dX11_init_113 : decode cX11_init 113 = .ok (.iconst 3, 1) := by decide +kernel
theorem dX11_init_114 : decode cX11_init 114 = .ok (.if_icmp .ge 22, 3) := by decide +kernel
theorem dX11_init_117 : decode cX11_init 117 = .ok (.aload_n 0, 1) := by decide +kernel
theorem dX11_init_118 : decode cX11_init 118 = .ok (.getfield 41, 3) := by decide +kernel
theorem dX11_init_121 : decode cX11_init 121 = .ok (.iload_n 1, 1) := by decide +kernel
theorem dX11_init_122 : decode cX11_init 122 = .ok (.new 34, 3) := by decide +kernel
theorem dX11_init_125 : decode cX11_init 125 = .ok (.dup, 1) := by decide +kernel
