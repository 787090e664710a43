theorem dX6_longestDone_49 : decode cX6_longestDone 49 = .ok (.iload_n 1, 1) := by decide +kernel
theorem dX6_longestDone_50 : decode cX6_longestDone 50 = .ok (.aaload, 1) := by decide +kernel
theorem dX6_longestDone_51 : decode cX6_longestDone 51 = .ok (.getfield 227, 3) := by decide +kernel
theorem dX6_longestDone_54 : decode cX6_longestDone 54 = .ok (.if_icmp .ge 5, 3) := by decide +kernel
theorem dX6_longestDone_57 : decode cX6_longestDone 57 = .ok (.iload_n 2, 1) := by decide +kernel
theorem dX6_longestDone_58 : decode cX6_longestDone 58 = .ok (.istore_n 1, 1) := by decide +kernel
theorem dX6_longestDone_59 : decode cX6_longestDone 59 = .ok (.iinc 2 1, 3) := by decide +kernel
theorem dX6_longestDone_62 : decode cX6_longestDone 62 = .ok (.goto (-58), 3) := by decide +kernel
theorem dX6_longestDone_65 : decode cX6_longestDone 65 = .ok (.iload_n 1, 1) := by decide +kernel
theorem dX6_longestDone_66 : decode cX6_longestDone 66 = .ok (.ireturn, 1) := by decide +kernel
theorem dX6_missGrip_0 : decode cX6_missGrip 0 = .ok (.aload_n 0, 1) := by decide +kernel
theorem dX6_missGrip_1 : decode cX6_missGrip 1 = .ok (.getfield 22, 3) := by decide +kernel
theorem dX6_missGrip_4 : decode cX6_missGrip 4 = .ok (.getfield 88, 3) := by decide +kernel
theorem dX6_missGrip_7 : decode cX6_missGrip 7 = .ok (.getfield 114, 3) := by decide +kernel
theorem dX6_missGrip_10 : decode cX6_missGrip 10 = .ok (.iconst 0, 1) := by decide +kernel
theorem dX6_missGrip_11 : decode cX6_missGrip 11 = .ok (.dup2, 1) := by decide +kernel
theorem dX6_missGrip_12 : decode cX6_missGrip 12 = .ok (.iaload, 1) := by decide +kernel
theorem dX6_missGrip_13 : decode cX6_missGrip 13 = .ok (.iconst 1, 1) := by decide +kernel
theorem dX6_missGrip_14 : decode cX6_missGrip 14 = .ok (.iadd, 1) := by decide +kernel
theorem dX6_missGrip_15 : decode cX6_missGrip 15 = .ok (.iastore, 1) := by decide +kernel
theorem dX6_missGrip_16 : decode cX6_missGrip 16 = .ok (.aload_n 0, 1) := by decide +kernel
theorem dX6_missGrip_17 : decode cX6_missGrip 17 = .ok (.iconst 0, 1) := by decide +kernel
theorem dX6_missGrip_18 : decode cX6_missGrip 18 = .ok (.iload_n 1, 1) := by decide +kernel
theorem dX6_missGrip_19 : decode cX6_missGrip 19 = .ok (.iconst (-1), 1) := by decide +kernel
theorem dX6_missGrip_20 : decode cX6_missGrip 20 = .ok (.aload_n 2, 1) := by decide +kernel
theorem dX6_missGrip_21 : decode cX6_missGrip 21 = .ok (.getfield 149, 3) := by decide +kernel
theorem dX6_missGrip_24 : decode cX6_missGrip 24 = .ok (.invokevirtual 117, 3) := by decide +kernel
theorem dX6_missGrip_27 : decode cX6_missGrip 27 = .ok (.istore_n 3, 1) := by decide +kernel
theorem dX6_missGrip_28 : decode cX6_missGrip 28 = .ok (.aload_n 0, 1) := by decide +kernel
theorem dX6_missGrip_29 : decode cX6_missGrip 29 = .ok (.getfield 18, 3) := by decide +kernel
theorem dX6_missGrip_32 : decode cX6_missGrip 32 = .ok (.iconst 3, 1) := by decide +kernel
theorem dX6_missGrip_33 : decode cX6_missGrip 33 = .ok (.aload_n 2, 1) := by decide +kernel
theorem dX6_missGrip_34 : decode cX6_missGrip 34 = .ok (.invokevirtual 68, 3) := by decide +kernel
theorem dX6_missGrip_37 : decode cX6_missGrip 37 = .ok (.invokevirtual 178, 3) := by decide +kernel
theorem dX6_missGrip_40 : decode cX6_missGrip 40 = .ok (.ifCond .eq 31, 3) := by decide +kernel
theorem dX6_missGrip_43 : decode cX6_missGrip 43 = .ok (.aload_n 0, 1) := by decide +kernel
theorem dX6_missGrip_44 : decode cX6_missGrip 44 = .ok (.getfield 22, 3) := by decide +kernel
theorem dX6_missGrip_47 : decode cX6_missGrip 47 = .ok (.getfield 88, 3) := by decide +kernel
theorem dX6_missGrip_50 : decode cX6_missGrip 50 = .ok (.getfield 114, 3) := by decide +kernel
theorem dX6_missGrip_53 : decode cX6_missGrip 53 = .ok (.iconst 1, 1) := by decide +kernel
theorem dX6_missGrip_54 : decode cX6_missGrip 54 = .ok (.dup2, 1) := by decide +kernel
theorem dX6_missGrip_55 : decode cX6_missGrip 55 = .ok (.iaload, 1) := by decide +kernel
theorem dX6_missGrip_56 : decode cX6_missGrip 56 = .ok (.iconst 1, 1) := by decide +kernel
theorem dX6_missGrip_57 : decode cX6_missGrip 57 = .ok (.iadd, 1) := by decide +kernel
theorem dX6_missGrip_58 : decode cX6_missGrip 58 = .ok (.iastore, 1) := by decide +kernel
theorem dX6_missGrip_59 : decode cX6_missGrip 59 = .ok (.aload_n 0, 1) := by decide +kernel
theorem dX6_missGrip_60 : decode cX6_missGrip 60 = .ok (.iconst 1, 1) := by decide +kernel
theorem dX6_missGrip_61 : decode cX6_missGrip 61 = .ok (.iload_n 1, 1) := by decide +kernel
theorem dX6_missGrip_62 : decode cX6_missGrip 62 = .ok (.iconst (-1), 1) := by decide +kernel
theorem dX6_missGrip_63 : decode cX6_missGrip 63 = .ok (.iload_n 3, 1) := by decide +kernel
theorem dX6_missGrip_64 : decode cX6_missGrip 64 = .ok (.invokevirtual 117, 3) := by decide +kernel
theorem dX6_missGrip_67 : decode cX6_missGrip 67 = .ok (.pop, 1) := by decide +kernel
theorem dX6_missGrip_68 : decode cX6_missGrip 68 = .ok (.goto 13, 3) := by decide +kernel
theorem dX6_missGrip_71 : decode cX6_missGrip 71 = .ok (.aload_n 0, 1) := by decide +kernel
theorem dX6_missGrip_72 : decode cX6_missGrip 72 = .ok (.aload_n 2, 1) := by decide +kernel
theorem dX6_missGrip_73 : decode cX6_missGrip 73 = .ok (.getfield 204, 3) := by decide +kernel
theorem dX6_missGrip_76 : decode cX6_missGrip 76 = .ok (.iload_n 1, 1) := by decide +kernel
theorem dX6_missGrip_77 : decode cX6_missGrip 77 = .ok (.iload_n 3, 1) := by decide +kernel
theorem dX6_missGrip_78 : decode cX6_missGrip 78 = .ok (.invokevirtual 171, 3) := by decide +kernel
theorem dX6_missGrip_81 : decode cX6_missGrip 81 = .ok (.aload_n 2, 1) := by decide +kernel
theorem dX6_missGrip_82 : decode cX6_missGrip 82 = .ok (.invokevirtual 201, 3) := by decide +kernel
theorem dX6_missGrip_85 : decode cX6_missGrip 85 = .ok (.return_, 1) := by decide +kernel
theorem dX6_moveStrand_0 : decode cX6_moveStrand 0 = .ok (.aload_n 0, 1) := by decide +kernel
theorem dX6_moveStrand_1 : decode cX6_moveStrand 1 = .ok (.getfield 22, 3) := by decide +kernel
theorem dX6_moveStrand_4 : decode cX6_moveStrand 4 = .ok (.getfield 121, 3) := by decide +kernel
theorem dX6_moveStrand_7 : decode cX6_moveStrand 7 = .ok (.istore_n 1, 1) := by decide +kernel
theorem dX6_moveStrand_8 : decode cX6_moveStrand 8 = .ok (.aload_n 0, 1) := by decide +kernel
theorem dX6_moveStrand_9 : decode cX6_moveStrand 9 = .ok (.getfield 18, 3) := by decide +kernel
theorem dX6_moveStrand_12 : decode cX6_moveStrand 12 = .ok (.iload_n 1, 1) := by decide +kernel
theorem dX6_moveStrand_13 : decode cX6_moveStrand 13 = .ok (.invokevirtual 124, 3) := by decide +kernel
theorem dX6_moveStrand_16 : decode cX6_moveStrand 16 = .ok (.ifCond .eq 15, 3) := by decide +kernel
theorem dX6_moveStrand_19 : decode cX6_moveStrand 19 = .ok (.aload_n 0, 1) := by decide +kernel
theorem dX6_moveStrand_20 : decode cX6_moveStrand 20 = .ok (.getfield 22, 3) := by decide +kernel
theorem dX6_moveStrand_23 : decode cX6_moveStrand 23 = .ok (.getfield 128, 3) := by decide +kernel
theorem dX6_moveStrand_26 : decode cX6_moveStrand 26 = .ok (.iload_n 1, 1) := by decide +kernel
theorem dX6_moveStrand_27 : decode cX6_moveStrand 27 = .ok (.baload, 1) := by decide +kernel
theorem dX6_moveStrand_28 : decode cX6_moveStrand 28 = .ok (.ifCond .eq 4, 3) := by decide +kernel
theorem dX6_moveStrand_31 : decode cX6_moveStrand 31 = .ok (.return_, 1) := by decide +kernel
theorem dX6_moveStrand_32 : decode cX6_moveStrand 32 = .ok (.aload_n 0, 1) := by decide +kernel
theorem dX6_moveStrand_33 : decode cX6_moveStrand 33 = .ok (.getfield 22, 3) := by decide +kernel
theorem dX6_moveStrand_36 : decode cX6_moveStrand 36 = .ok (.aload_n 0, 1) := by decide +kernel
theorem dX6_moveStrand_37 : decode cX6_moveStrand 37 = .ok (.getfield 18, 3) := by decide +kernel
theorem dX6_moveStrand_40 : decode cX6_moveStrand 40 = .ok (.iload_n 1, 1) := by decide +kernel
theorem dX6_moveStrand_41 : decode cX6_moveStrand 41 = .ok (.aload_n 0, 1) := by decide +kernel
theorem dX6_moveStrand_42 : decode cX6_moveStrand 42 = .ok (.getfield 22, 3) := by decide +kernel
theorem dX6_moveStrand_45 : decode cX6_moveStrand 45 = .ok (.getfield 132, 3) := by decide +kernel
theorem dX6_moveStrand_48 : decode cX6_moveStrand 48 = .ok (.aload_n 0, 1) := by decide +kernel
theorem dX6_moveStrand_49 : decode cX6_moveStrand 49 = .ok (.getfield 9, 3) := by decide +kernel
theorem dX6_moveStrand_52 : decode cX6_moveStrand 52 = .ok (.iload_n 1, 1) := by decide +kernel
theorem dX6_moveStrand_53 : decode cX6_moveStrand 53 = .ok (.iaload, 1) := by decide +kernel
theorem dX6_moveStrand_54 : decode cX6_moveStrand 54 = .ok (.invokevirtual 135, 3) := by decide +kernel
theorem dX6_moveStrand_57 : decode cX6_moveStrand 57 = .ok (.putfield 132, 3) := by decide +kernel
theorem dX6_moveStrand_60 : decode cX6_moveStrand 60 = .ok (.aload_n 0, 1) := by decide +kernel
theorem dX6_moveStrand_61 : decode cX6_moveStrand 61 = .ok (.getfield 18, 3) := by decide +kernel
theorem dX6_moveStrand_64 : decode cX6_moveStrand 64 = .ok (.iload_n 1, 1) := by decide +kernel
theorem dX6_moveStrand_65 : decode cX6_moveStrand 65 = .ok (.aload_n 0, 1) := by decide +kernel
theorem dX6_moveStrand_66 : decode cX6_moveStrand 66 = .ok (.getfield 22, 3) := by decide +kernel
theorem dX6_moveStrand_69 : decode cX6_moveStrand 69 = .ok (.getfield 132, 3) := by decide +kernel
theorem dX6_moveStrand_72 : decode cX6_moveStrand 72 = .ok (.invokevirtual 139, 3) := by decide +kernel
theorem dX6_moveStrand_75 : decode cX6_moveStrand 75 = .ok (.istore_n 2, 1) := by decide +kernel
theorem dX6_moveStrand_76 : decode cX6_moveStrand 76 = .ok (.iconst 0, 1) := by decide +kernel
theorem dX6_moveStrand_77 : decode cX6_moveStrand 77 = .ok (.istore_n 3, 1) := by decide +kernel
theorem dX6_moveStrand_78 : decode cX6_moveStrand 78 = .ok (.iload_n 3, 1) := by decide +kernel
theorem dX6_moveStrand_79 : decode cX6_moveStrand 79 = .ok (.aload_n 0, 1) := by decide +kernel
theorem dX6_moveStrand_80 : decode cX6_moveStrand 80 = .ok (.getfield 18, 3) := by decide +kernel
theorem dX6_moveStrand_83 : decode cX6_moveStrand 83 = .ok (.getfield 41, 3) := by decide +kernel
theorem dX6_moveStrand_86 : decode cX6_moveStrand 86 = .ok (.if_icmp .ge 83, 3) := by decide +kernel
theorem dX6_moveStrand_89 : decode cX6_moveStrand 89 = .ok (.aload_n 0, 1) := by decide +kernel
theorem dX6_moveStrand_90 : decode cX6_moveStrand 90 = .ok (.getfield 22, 3) := by decide +kernel
theorem dX6_moveStrand_93 : decode cX6_moveStrand 93 = .ok (.getfield 121, 3) := by decide +kernel
theorem dX6_moveStrand_96 : decode cX6_moveStrand 96 = .ok (.iconst (-1), 1) := by decide +kernel
theorem dX6_moveStrand_97 : decode cX6_moveStrand 97 = .ok (.if_icmp .eq 72, 3) := by decide +kernel
theorem dX6_moveStrand_100 : decode cX6_moveStrand 100 = .ok (.aload_n 0, 1) := by decide +kernel
theorem dX6_moveStrand_101 : decode cX6_moveStrand 101 = .ok (.getfield 22, 3) := by decide +kernel
theorem dX6_moveStrand_104 : decode cX6_moveStrand 104 = .ok (.getfield 46, 3) := by decide +kernel
theorem dX6_moveStrand_107 : decode cX6_moveStrand 107 = .ok (.iload_n 3, 1) := by decide +kernel
theorem dX6_moveStrand_108 : decode cX6_moveStrand 108 = .ok (.aaload, 1) := by decide +kernel
theorem dX6_moveStrand_109 : decode cX6_moveStrand 109 = .ok (.astore 4, 2) := by decide +kernel
theorem dX6_moveStrand_111 : decode cX6_moveStrand 111 = .ok (.aload 4, 2) := by decide +kernel
theorem dX6_moveStrand_113 : decode cX6_moveStrand 113 = .ok (.getfield 49, 3) := by decide +kernel
theorem dX6_moveStrand_116 : decode cX6_moveStrand 116 = .ok (.ifCond .ne 47, 3) := by decide +kernel
theorem dX6_moveStrand_119 : decode cX6_moveStrand 119 = .ok (.aload 4, 2) := by decide +kernel
theorem dX6_moveStrand_121 : decode cX6_moveStrand 121 = .ok (.invokevirtual 68, 3) := by decide +kernel
theorem dX6_moveStrand_124 : decode cX6_moveStrand 124 = .ok (.iload_n 2, 1) := by decide +kernel
theorem dX6_moveStrand_125 : decode cX6_moveStrand 125 = .ok (.if_icmp .ne 38, 3) := by decide +kernel
theorem dX6_moveStrand_128 : decode cX6_moveStrand 128 = .ok (.aload_n 0, 1) := by decide +kernel
theorem dX6_moveStrand_129 : decode cX6_moveStrand 129 = .ok (.getfield 22, 3) := by decide +kernel
theorem dX6_moveStrand_132 : decode cX6_moveStrand 132 = .ok (.iconst (-1), 1) := by decide +kernel
theorem dX6_moveStrand_133 : decode cX6_moveStrand 133 = .ok (.putfield 121, 3) := by decide +kernel
theorem dX6_moveStrand_136 : decode cX6_moveStrand 136 = .ok (.aload_n 0, 1) := by decide +kernel
theorem dX6_moveStrand_137 : decode cX6_moveStrand 137 = .ok (.getfield 22, 3) := by decide +kernel
theorem dX6_moveStrand_140 : decode cX6_moveStrand 140 = .ok (.iload_n 3, 1) := by decide +kernel
theorem dX6_moveStrand_141 : decode cX6_moveStrand 141 = .ok (.putfield 142, 3) := by decide +kernel
theorem dX6_moveStrand_144 : decode cX6_moveStrand 144 = .ok (.aload 4, 2) := by decide +kernel
theorem dX6_moveStrand_146 : decode cX6_moveStrand 146 = .ok (.iconst 1, 1) := by decide +kernel
theorem dX6_moveStrand_147 : decode cX6_moveStrand 147 = .ok (.putfield 145, 3) := by decide +kernel
theorem dX6_moveStrand_150 : decode cX6_moveStrand 150 = .ok (.aload 4, 2) := by decide +kernel
theorem dX6_moveStrand_152 : decode cX6_moveStrand 152 = .ok (.aload_n 0, 1) := by decide +kernel
theorem dX6_moveStrand_153 : decode cX6_moveStrand 153 = .ok (.iconst 4, 1) := by decide +kernel
theorem dX6_moveStrand_154 : decode cX6_moveStrand 154 = .ok (.iload_n 3, 1) := by decide +kernel
theorem dX6_moveStrand_155 : decode cX6_moveStrand 155 = .ok (.iload_n 1, 1) := by decide +kernel
theorem dX6_moveStrand_156 : decode cX6_moveStrand 156 = .ok (.iconst (-1), 1) := by decide +kernel
theorem dX6_moveStrand_157 : decode cX6_moveStrand 157 = .ok (.invokevirtual 117, 3) := by decide +kernel
theorem dX6_moveStrand_160 : decode cX6_moveStrand 160 = .ok (.putfield 149, 3) := by decide +kernel
theorem dX6_moveStrand_163 : decode cX6_moveStrand 163 = .ok (.iinc 3 1, 3) := by decide +kernel
theorem dX6_moveStrand_166 : decode cX6_moveStrand 166 = .ok (.goto (-88), 3) := by decide +kernel
theorem dX6_moveStrand_169 : decode cX6_moveStrand 169 = .ok (.return_, 1) := by decide +kernel
theorem dX6_note_0 : decode cX6_note 0 = .ok (.aload_n 0, 1) := by decide +kernel
theorem dX6_note_1 : decode cX6_note 1 = .ok (.getfield 22, 3) := by decide +kernel
theorem dX6_note_4 : decode cX6_note 4 = .ok (.getfield 88, 3) := by decide +kernel
theorem dX6_note_7 : decode cX6_note 7 = .ok (.aload_n 0, 1) := by decide +kernel
theorem dX6_note_8 : decode cX6_note 8 = .ok (.getfield 22, 3) := by decide +kernel
theorem dX6_note_11 : decode cX6_note 11 = .ok (.getfield 26, 3) := by decide +kernel
theorem dX6_note_14 : decode cX6_note 14 = .ok (.iload_n 1, 1) := by decide +kernel
theorem dX6_note_15 : decode cX6_note 15 = .ok (.iload_n 2, 1) := by decide +kernel
theorem dX6_note_16 : decode cX6_note 16 = .ok (.iload_n 3, 1) := by decide +kernel
theorem dX6_note_17 : decode cX6_note 17 = .ok (.iload 4, 2) := by decide +kernel
theorem dX6_note_19 : decode cX6_note 19 = .ok (.invokevirtual 92, 3) := by decide +kernel
theorem dX6_note_22 : decode cX6_note 22 = .ok (.ireturn, 1) := by decide +kernel
theorem dX6_obeyMarks_0 : decode cX6_obeyMarks 0 = .ok (.aload_n 1, 1) := by decide +kernel
theorem dX6_obeyMarks_1 : decode cX6_obeyMarks 1 = .ok (.getfield 175, 3) := by decide +kernel
theorem dX6_obeyMarks_4 : decode cX6_obeyMarks 4 = .ok (.ifCond .ne 4, 3) := by decide +kernel
theorem dX6_obeyMarks_7 : decode cX6_obeyMarks 7 = .ok (.return_, 1) := by decide +kernel
theorem dX6_obeyMarks_8 : decode cX6_obeyMarks 8 = .ok (.aload_n 1, 1) := by decide +kernel
theorem dX6_obeyMarks_9 : decode cX6_obeyMarks 9 = .ok (.invokevirtual 68, 3) := by decide +kernel
theorem dX6_obeyMarks_12 : decode cX6_obeyMarks 12 = .ok (.istore_n 2, 1) := by decide +kernel
theorem dX6_obeyMarks_13 : decode cX6_obeyMarks 13 = .ok (.aload_n 0, 1) := by decide +kernel
theorem dX6_obeyMarks_14 : decode cX6_obeyMarks 14 = .ok (.getfield 18, 3) := by decide +kernel
theorem dX6_obeyMarks_17 : decode cX6_obeyMarks 17 = .ok (.iconst 2, 1) := by decide +kernel
theorem dX6_obeyMarks_18 : decode cX6_obeyMarks 18 = .ok (.iload_n 2, 1) := by decide +kernel
theorem dX6_obeyMarks_19 : decode cX6_obeyMarks 19 = .ok (.invokevirtual 178, 3) := by decide +kernel
theorem dX6_obeyMarks_22 : decode cX6_obeyMarks 22 = .ok (.istore_n 3, 1) := by decide +kernel
theorem dX6_obeyMarks_23 : decode cX6_obeyMarks 23 = .ok (.iload_n 3, 1) := by decide +kernel
theorem dX6_obeyMarks_24 : decode cX6_obeyMarks 24 = .ok (.ifCond .eq 18, 3) := by decide +kernel
theorem dX6_obeyMarks_27 : decode cX6_obeyMarks 27 = .ok (.aload_n 1, 1) := by decide +kernel
theorem dX6_obeyMarks_28 : decode cX6_obeyMarks 28 = .ok (.getfield 145, 3) := by decide +kernel
theorem dX6_obeyMarks_31 : decode cX6_obeyMarks 31 = .ok (.ifCond .ne 11, 3) := by decide +kernel
theorem dX6_obeyMarks_34 : decode cX6_obeyMarks 34 = .ok (.aload_n 1, 1) := by decide +kernel
theorem dX6_obeyMarks_35 : decode cX6_obeyMarks 35 = .ok (.iload_n 3, 1) := by decide +kernel
theorem dX6_obeyMarks_36 : decode cX6_obeyMarks 36 = .ok (.invokevirtual 181, 3) := by decide +kernel
theorem dX6_obeyMarks_39 : decode cX6_obeyMarks 39 = .ok (.goto 62, 3) := by decide +kernel
theorem dX6_obeyMarks_42 : decode cX6_obeyMarks 42 = .ok (.aload_n 0, 1) := by decide +kernel
theorem dX6_obeyMarks_43 : decode cX6_obeyMarks 43 = .ok (.getfield 18, 3) := by decide +kernel
theorem dX6_obeyMarks_46 : decode cX6_obeyMarks 46 = .ok (.iconst 0, 1) := by decide +kernel
theorem dX6_obeyMarks_47 : decode cX6_obeyMarks 47 = .ok (.iload_n 2, 1) := by decide +kernel
theorem dX6_obeyMarks_48 : decode cX6_obeyMarks 48 = .ok (.invokevirtual 178, 3) := by decide +kernel
theorem dX6_obeyMarks_51 : decode cX6_obeyMarks 51 = .ok (.ifCond .eq 25, 3) := by decide +kernel
theorem dX6_obeyMarks_54 : decode cX6_obeyMarks 54 = .ok (.aload_n 1, 1) := by decide +kernel
theorem dX6_obeyMarks_55 : decode cX6_obeyMarks 55 = .ok (.getfield 49, 3) := by decide +kernel
theorem dX6_obeyMarks_58 : decode cX6_obeyMarks 58 = .ok (.ifCond .ne 18, 3) := by decide +kernel
theorem dX6_obeyMarks_61 : decode cX6_obeyMarks 61 = .ok (.aload_n 1, 1) := by decide +kernel
theorem dX6_obeyMarks_62 : decode cX6_obeyMarks 62 = .ok (.getfield 145, 3) := by decide +kernel
theorem dX6_obeyMarks_65 : decode cX6_obeyMarks 65 = .ok (.ifCond .ne 11, 3) := by decide +kernel
theorem dX6_obeyMarks_68 : decode cX6_obeyMarks 68 = .ok (.aload_n 1, 1) := by decide +kernel
theorem dX6_obeyMarks_69 : decode cX6_obeyMarks 69 = .ok (.iconst 1, 1) := by decide +kernel
theorem dX6_obeyMarks_70 : decode cX6_obeyMarks 70 = .ok (.putfield 49, 3) := by decide +kernel
theorem dX6_obeyMarks_73 : decode cX6_obeyMarks 73 = .ok (.goto 28, 3) := by decide +kernel
theorem dX6_obeyMarks_76 : decode cX6_obeyMarks 76 = .ok (.aload_n 0, 1) := by decide +kernel
theorem dX6_obeyMarks_77 : decode cX6_obeyMarks 77 = .ok (.getfield 18, 3) := by decide +kernel
theorem dX6_obeyMarks_80 : decode cX6_obeyMarks 80 = .ok (.iconst 1, 1) := by decide +kernel
theorem dX6_obeyMarks_81 : decode cX6_obeyMarks 81 = .ok (.iload_n 2, 1) := by decide +kernel
theorem dX6_obeyMarks_82 : decode cX6_obeyMarks 82 = .ok (.invokevirtual 178, 3) := by decide +kernel
theorem dX6_obeyMarks_85 : decode cX6_obeyMarks 85 = .ok (.ifCond .eq 16, 3) := by decide +kernel
theorem dX6_obeyMarks_88 : decode cX6_obeyMarks 88 = .ok (.aload_n 1, 1) := by decide +kernel
theorem dX6_obeyMarks_89 : decode cX6_obeyMarks 89 = .ok (.getfield 49, 3) := by decide +kernel
theorem dX6_obeyMarks_92 : decode cX6_obeyMarks 92 = .ok (.iconst 1, 1) := by decide +kernel
theorem dX6_obeyMarks_93 : decode cX6_obeyMarks 93 = .ok (.if_icmp .ne 8, 3) := by decide +kernel
theorem dX6_obeyMarks_96 : decode cX6_obeyMarks 96 = .ok (.aload_n 1, 1) := by decide +kernel
theorem dX6_obeyMarks_97 : decode cX6_obeyMarks 97 = .ok (.iconst 0, 1) := by decide +kernel
theorem dX6_obeyMarks_98 : decode cX6_obeyMarks 98 = .ok (.putfield 49, 3) := by decide +kernel
theorem dX6_obeyMarks_101 : decode cX6_obeyMarks 101 = .ok (.return_, 1) := by decide +kernel
theorem dX6_ride_0 : decode cX6_ride 0 = .ok (.aload_n 0, 1) := by decide +kernel
theorem dX6_ride_1 : decode cX6_ride 1 = .ok (.getfield 18, 3) := by decide +kernel
theorem dX6_ride_4 : decode cX6_ride 4 = .ok (.aload_n 2, 1) := by decide +kernel
theorem dX6_ride_5 : decode cX6_ride 5 = .ok (.invokevirtual 68, 3) := by decide +kernel
theorem dX6_ride_8 : decode cX6_ride 8 = .ok (.invokevirtual 195, 3) := by decide +kernel
theorem dX6_ride_11 : decode cX6_ride 11 = .ok (.istore_n 3, 1) := by decide +kernel
theorem dX6_ride_12 : decode cX6_ride 12 = .ok (.aload_n 0, 1) := by decide +kernel
theorem dX6_ride_13 : decode cX6_ride 13 = .ok (.getfield 18, 3) := by decide +kernel
theorem dX6_ride_16 : decode cX6_ride 16 = .ok (.iload_n 3, 1) := by decide +kernel
theorem dX6_ride_17 : decode cX6_ride 17 = .ok (.invokevirtual 124, 3) := by decide +kernel
theorem dX6_ride_20 : decode cX6_ride 20 = .ok (.ifCond .ne 12, 3) := by decide +kernel
theorem dX6_ride_23 : decode cX6_ride 23 = .ok (.aload_n 0, 1) := by decide +kernel
theorem dX6_ride_24 : decode cX6_ride 24 = .ok (.iload_n 1, 1) := by decide +kernel
theorem dX6_ride_25 : decode cX6_ride 25 = .ok (.aload_n 2, 1) := by decide +kernel
theorem dX6_ride_26 : decode cX6_ride 26 = .ok (.invokevirtual 198, 3) := by decide +kernel
theorem dX6_ride_29 : decode cX6_ride 29 = .ok (.goto 46, 3) := by decide +kernel
theorem dX6_ride_32 : decode cX6_ride 32 = .ok (.aload_n 0, 1) := by decide +kernel
theorem dX6_ride_33 : decode cX6_ride 33 = .ok (.getfield 22, 3) := by decide +kernel
theorem dX6_ride_36 : decode cX6_ride 36 = .ok (.getfield 128, 3) := by decide +kernel
theorem dX6_ride_39 : decode cX6_ride 39 = .ok (.iload_n 3, 1) := by decide +kernel
theorem dX6_ride_40 : decode cX6_ride 40 = .ok (.baload, 1) := by decide +kernel
theorem dX6_ride_41 : decode cX6_ride 41 = .ok (.ifCond .eq 10, 3) := by decide +kernel
theorem dX6_ride_44 : decode cX6_ride 44 = .ok (.aload_n 2, 1) := by decide +kernel
theorem dX6_ride_45 : decode cX6_ride 45 = .ok (.invokevirtual 201, 3) := by decide +kernel
theorem dX6_ride_48 : decode cX6_ride 48 = .ok (.goto 27, 3) := by decide +kernel
theorem dX6_ride_51 : decode cX6_ride 51 = .ok (.aload_n 2, 1) := by decide +kernel
theorem dX6_ride_52 : decode cX6_ride 52 = .ok (.iload_n 3, 1) := by decide +kernel
theorem dX6_ride_53 : decode cX6_ride 53 = .ok (.putfield 204, 3) := by decide +kernel
theorem dX6_ride_56 : decode cX6_ride 56 = .ok (.aload_n 2, 1) := by decide +kernel
theorem dX6_ride_57 : decode cX6_ride 57 = .ok (.aload_n 2, 1) := by decide +kernel
theorem dX6_ride_58 : decode cX6_ride 58 = .ok (.getfield 65, 3) := by decide +kernel
theorem dX6_ride_61 : decode cX6_ride 61 = .ok (.iconst 2, 1) := by decide +kernel
theorem dX6_ride_62 : decode cX6_ride 62 = .ok (.iadd, 1) := by decide +kernel
theorem dX6_ride_63 : decode cX6_ride 63 = .ok (.aload_n 0, 1) := by decide +kernel
theorem dX6_ride_64 : decode cX6_ride 64 = .ok (.getfield 9, 3) := by decide +kernel
theorem dX6_ride_67 : decode cX6_ride 67 = .ok (.iload_n 3, 1) := by decide +kernel
theorem dX6_ride_68 : decode cX6_ride 68 = .ok (.iaload, 1) := by decide +kernel
theorem dX6_ride_69 : decode cX6_ride 69 = .ok (.invokestatic 207, 3) := by decide +kernel
theorem dX6_ride_72 : decode cX6_ride 72 = .ok (.putfield 65, 3) := by decide +kernel
theorem dX6_ride_75 : decode cX6_ride 75 = .ok (.return_, 1) := by decide +kernel
theorem dX6_step_0 : decode cX6_step 0 = .ok (.aload_n 2, 1) := by decide +kernel
theorem dX6_step_1 : decode cX6_step 1 = .ok (.invokevirtual 68, 3) := by decide +kernel
theorem dX6_step_4 : decode cX6_step 4 = .ok (.istore_n 3, 1) := by decide +kernel
theorem dX6_step_5 : decode cX6_step 5 = .ok (.aload_n 2, 1) := by decide +kernel
theorem dX6_step_6 : decode cX6_step 6 = .ok (.getfield 212, 3) := by decide +kernel
theorem dX6_step_9 : decode cX6_step 9 = .ok (.aload_n 2, 1) := by decide +kernel
theorem dX6_step_10 : decode cX6_step 10 = .ok (.getfield 65, 3) := by decide +kernel
theorem dX6_step_13 : decode cX6_step 13 = .ok (.iadd, 1) := by decide +kernel
theorem dX6_step_14 : decode cX6_step 14 = .ok (.istore 4, 2) := by decide +kernel
theorem dX6_step_16 : decode cX6_step 16 = .ok (.iload 4, 2) := by decide +kernel
theorem dX6_step_18 : decode cX6_step 18 = .ok (.ifCond .lt 23, 3) := by decide +kernel
theorem dX6_step_21 : decode cX6_step 21 = .ok (.iload 4, 2) := by decide +kernel
theorem dX6_step_23 : decode cX6_step 23 = .ok (.bipush 10, 2) := by decide +kernel
theorem dX6_step_25 : decode cX6_step 25 = .ok (.idiv, 1) := by decide +kernel
theorem dX6_step_26 : decode cX6_step 26 = .ok (.iload_n 3, 1) := by decide +kernel
theorem dX6_step_27 : decode cX6_step 27 = .ok (.if_icmp .eq 14, 3) := by decide +kernel
theorem dX6_step_30 : decode cX6_step 30 = .ok (.aload_n 2, 1) := by decide +kernel
theorem dX6_step_31 : decode cX6_step 31 = .ok (.getfield 145, 3) := by decide +kernel
theorem dX6_step_34 : decode cX6_step 34 = .ok (.ifCond .ne 7, 3) := by decide +kernel
theorem dX6_step_37 : decode cX6_step 37 = .ok (.iconst 1, 1) := by decide +kernel
theorem dX6_step_38 : decode cX6_step 38 = .ok (.goto 4, 3) := by decide +kernel
theorem dX6_step_41 : decode cX6_step 41 = .ok (.iconst 0, 1) := by decide +kernel
theorem dX6_step_42 : decode cX6_step 42 = .ok (.istore 5, 2) := by decide +kernel
theorem dX6_step_44 : decode cX6_step 44 = .ok (.iload 5, 2) := by decide +kernel
theorem dX6_step_46 : decode cX6_step 46 = .ok (.ifCond .eq 21, 3) := by decide +kernel
theorem dX6_step_49 : decode cX6_step 49 = .ok (.aload_n 0, 1) := by decide +kernel
theorem dX6_step_50 : decode cX6_step 50 = .ok (.getfield 18, 3) := by decide +kernel
theorem dX6_step_53 : decode cX6_step 53 = .ok (.getfield 215, 3) := by decide +kernel
theorem dX6_step_56 : decode cX6_step 56 = .ok (.iload 4, 2) := by decide +kernel
theorem dX6_step_58 : decode cX6_step 58 = .ok (.bipush 10, 2) := by decide +kernel
theorem dX6_step_60 : decode cX6_step 60 = .ok (.idiv, 1) := by decide +kernel
theorem dX6_step_61 : decode cX6_step 61 = .ok (.invokevirtual 219, 3) := by decide +kernel
theorem dX6_step_64 : decode cX6_step 64 = .ok (.goto 4, 3) := by decide +kernel
theorem dX6_step_67 : decode cX6_step 67 = .ok (.iconst (-1), 1) := by decide +kernel
theorem dX6_step_68 : decode cX6_step 68 = .ok (.istore 6, 2) := by decide +kernel
theorem dX6_step_70 : decode cX6_step 70 = .ok (.iload 6, 2) := by decide +kernel
theorem dX6_step_72 : decode cX6_step 72 = .ok (.iconst (-1), 1) := by decide +kernel
theorem dX6_step_73 : decode cX6_step 73 = .ok (.if_icmp .eq 57, 3) := by decide +kernel
theorem dX6_step_76 : decode cX6_step 76 = .ok (.aload_n 0, 1) := by decide +kernel
theorem dX6_step_77 : decode cX6_step 77 = .ok (.iload 6, 2) := by decide +kernel
theorem dX6_step_79 : decode cX6_step 79 = .ok (.iload_n 1, 1) := by decide +kernel
theorem dX6_step_80 : decode cX6_step 80 = .ok (.aload_n 0, 1) := by decide +kernel
theorem dX6_step_81 : decode cX6_step 81 = .ok (.getfield 22, 3) := by decide +kernel
theorem dX6_step_84 : decode cX6_step 84 = .ok (.getfield 26, 3) := by decide +kernel
theorem dX6_step_87 : decode cX6_step 87 = .ok (.invokevirtual 224, 3) := by decide +kernel
theorem dX6_step_90 : decode cX6_step 90 = .ok (.ifCond .ne 40, 3) := by decide +kernel
theorem dX6_step_93 : decode cX6_step 93 = .ok (.aload_n 2, 1) := by decide +kernel
theorem dX6_step_94 : decode cX6_step 94 = .ok (.iconst 1, 1) := by decide +kernel
theorem dX6_step_95 : decode cX6_step 95 = .ok (.invokevirtual 181, 3) := by decide +kernel
theorem dX6_step_98 : decode cX6_step 98 = .ok (.aload_n 0, 1) := by decide +kernel
theorem dX6_step_99 : decode cX6_step 99 = .ok (.getfield 22, 3) := by decide +kernel
theorem dX6_step_102 : decode cX6_step 102 = .ok (.getfield 88, 3) := by decide +kernel
theorem dX6_step_105 : decode cX6_step 105 = .ok (.getfield 114, 3) := by decide +kernel
theorem dX6_step_108 : decode cX6_step 108 = .ok (.iconst 5, 1) := by decide +kernel
theorem dX6_step_109 : decode cX6_step 109 = .ok (.dup2, 1) := by decide +kernel
theorem dX6_step_110 : decode cX6_step 110 = .ok (.iaload, 1) := by decide +kernel
theorem dX6_step_111 : decode cX6_step 111 = .ok (.iconst 1, 1) := by decide +kernel
theorem dX6_step_112 : decode cX6_step 112 = .ok (.iadd, 1) := by decide +kernel
theorem dX6_step_113 : decode cX6_step 113 = .ok (.iastore, 1) := by decide +kernel
theorem dX6_step_114 : decode cX6_step 114 = .ok (.aload_n 2, 1) := by decide +kernel
theorem dX6_step_115 : decode cX6_step 115 = .ok (.aload_n 0, 1) := by decide +kernel
theorem dX6_step_116 : decode cX6_step 116 = .ok (.bipush 6, 2) := by decide +kernel
theorem dX6_step_118 : decode cX6_step 118 = .ok (.iload_n 1, 1) := by decide +kernel
theorem dX6_step_119 : decode cX6_step 119 = .ok (.iconst (-1), 1) := by decide +kernel
theorem dX6_step_120 : decode cX6_step 120 = .ok (.iconst (-1), 1) := by decide +kernel
theorem dX6_step_121 : decode cX6_step 121 = .ok (.invokevirtual 117, 3) := by decide +kernel
theorem dX6_step_124 : decode cX6_step 124 = .ok (.putfield 189, 3) := by decide +kernel
theorem dX6_step_127 : decode cX6_step 127 = .ok (.goto 66, 3) := by decide +kernel
theorem dX6_step_130 : decode cX6_step 130 = .ok (.iload 4, 2) := by decide +kernel
theorem dX6_step_132 : decode cX6_step 132 = .ok (.ifCond .ge 16, 3) := by decide +kernel
theorem dX6_step_135 : decode cX6_step 135 = .ok (.aload_n 2, 1) := by decide +kernel
theorem dX6_step_136 : decode cX6_step 136 = .ok (.iconst 0, 1) := by decide +kernel
theorem dX6_step_137 : decode cX6_step 137 = .ok (.putfield 212, 3) := by decide +kernel
theorem dX6_step_140 : decode cX6_step 140 = .ok (.aload_n 2, 1) := by decide +kernel
theorem dX6_step_141 : decode cX6_step 141 = .ok (.iconst 0, 1) := by decide +kernel
theorem dX6_step_142 : decode cX6_step 142 = .ok (.putfield 65, 3) := by decide +kernel
theorem dX6_step_145 : decode cX6_step 145 = .ok (.goto 48, 3) := by decide +kernel
theorem dX6_step_148 : decode cX6_step 148 = .ok (.iload 4, 2) := by decide +kernel
theorem dX6_step_150 : decode cX6_step 150 = .ok (.sipush 600, 3) := by decide +kernel
theorem dX6_step_153 : decode cX6_step 153 = .ok (.if_icmp .lt 34, 3) := by decide +kernel
theorem dX6_step_156 : decode cX6_step 156 = .ok (.aload_n 2, 1) := by decide +kernel
theorem dX6_step_157 : decode cX6_step 157 = .ok (.iconst 3, 1) := by decide +kernel
theorem dX6_step_158 : decode cX6_step 158 = .ok (.putfield 49, 3) := by decide +kernel
theorem dX6_step_161 : decode cX6_step 161 = .ok (.aload_n 2, 1) := by decide +kernel
theorem dX6_step_162 : decode cX6_step 162 = .ok (.sipush 599, 3) := by decide +kernel
theorem dX6_step_165 : decode cX6_step 165 = .ok (.putfield 212, 3) := by decide +kernel
theorem dX6_step_168 : decode cX6_step 168 = .ok (.aload_n 2, 1) := by decide +kernel
theorem dX6_step_169 : decode cX6_step 169 = .ok (.iconst 0, 1) := by decide +kernel
theorem dX6_step_170 : decode cX6_step 170 = .ok (.putfield 65, 3) := by decide +kernel
theorem dX6_step_173 : decode cX6_step 173 = .ok (.aload_n 2, 1) := by decide +kernel
theorem dX6_step_174 : decode cX6_step 174 = .ok (.aload_n 0, 1) := by decide +kernel
theorem dX6_step_175 : decode cX6_step 175 = .ok (.getfield 22, 3) := by decide +kernel
theorem dX6_step_178 : decode cX6_step 178 = .ok (.getfield 26, 3) := by decide +kernel
theorem dX6_step_181 : decode cX6_step 181 = .ok (.putfield 227, 3) := by decide +kernel
theorem dX6_step_184 : decode cX6_step 184 = .ok (.goto 9, 3) := by decide +kernel
theorem dX6_step_187 : decode cX6_step 187 = .ok (.aload_n 2, 1) := by decide +kernel
theorem dX6_step_188 : decode cX6_step 188 = .ok (.iload 4, 2) := by decide +kernel
theorem dX6_step_190 : decode cX6_step 190 = .ok (.putfield 212, 3) := by decide +kernel
theorem dX6_step_193 : decode cX6_step 193 = .ok (.aload_n 2, 1) := by decide +kernel
theorem dX6_step_194 : decode cX6_step 194 = .ok (.aload_n 2, 1) := by decide +kernel
theorem dX6_step_195 : decode cX6_step 195 = .ok (.invokevirtual 68, 3) := by decide +kernel
theorem dX6_step_198 : decode cX6_step 198 = .ok (.iload_n 3, 1) := by decide +kernel
theorem dX6_step_199 : decode cX6_step 199 = .ok (.if_icmp .eq 7, 3) := by decide +kernel
theorem dX6_step_202 : decode cX6_step 202 = .ok (.iconst 1, 1) := by decide +kernel
theorem dX6_step_203 : decode cX6_step 203 = .ok (.goto 4, 3) := by decide +kernel
theorem dX6_step_206 : decode cX6_step 206 = .ok (.iconst 0, 1) := by decide +kernel
theorem dX6_step_207 : decode cX6_step 207 = .ok (.putfield 175, 3) := by decide +kernel
theorem dX6_step_210 : decode cX6_step 210 = .ok (.return_, 1) := by decide +kernel
theorem dX6_tenthsToNearest_0 : decode cX6_tenthsToNearest 0 = .ok (.aload_n 0, 1) := by decide +kernel
theorem dX6_tenthsToNearest_1 : decode cX6_tenthsToNearest 1 = .ok (.getfield 22, 3) := by decide +kernel
theorem dX6_tenthsToNearest_4 : decode cX6_tenthsToNearest 4 = .ok (.getfield 46, 3) := by decide +kernel
theorem dX6_tenthsToNearest_7 : decode cX6_tenthsToNearest 7 = .ok (.iload_n 1, 1) := by decide +kernel
theorem dX6_tenthsToNearest_8 : decode cX6_tenthsToNearest 8 = .ok (.aaload, 1) := by decide +kernel
theorem dX6_tenthsToNearest_9 : decode cX6_tenthsToNearest 9 = .ok (.getfield 212, 3) := by decide +kernel
theorem dX6_tenthsToNearest_12 : decode cX6_tenthsToNearest 12 = .ok (.istore_n 3, 1) := by decide +kernel
theorem dX6_tenthsToNearest_13 : decode cX6_tenthsToNearest 13 = .ok (.sipush 999, 3) := by decide +kernel
theorem dX6_tenthsToNearest_16 : decode cX6_tenthsToNearest 16 = .ok (.istore 4, 2) := by decide +kernel
theorem dX6_tenthsToNearest_18 : decode cX6_tenthsToNearest 18 = .ok (.iconst 0, 1) := by decide +kernel
theorem dX6_tenthsToNearest_19 : decode cX6_tenthsToNearest 19 = .ok (.istore 5, 2) := by decide +kernel
theorem dX6_tenthsToNearest_21 : decode cX6_tenthsToNearest 21 = .ok (.iload 5, 2) := by decide +kernel
theorem dX6_tenthsToNearest_23 : decode cX6_tenthsToNearest 23 = .ok (.aload_n 0, 1) := by decide +kernel
theorem dX6_tenthsToNearest_24 : decode cX6_tenthsToNearest 24 = .ok (.getfield 18, 3) := by decide +kernel
theorem dX6_tenthsToNearest_27 : decode cX6_tenthsToNearest 27 = .ok (.getfield 41, 3) := by decide +kernel
theorem dX6_tenthsToNearest_30 : decode cX6_tenthsToNearest 30 = .ok (.if_icmp .ge 61, 3) := by decide +kernel
theorem dX6_tenthsToNearest_33 : decode cX6_tenthsToNearest 33 = .ok (.aload_n 0, 1) := by decide +kernel
theorem dX6_tenthsToNearest_34 : decode cX6_tenthsToNearest 34 = .ok (.getfield 22, 3) := by decide +kernel
theorem dX6_tenthsToNearest_37 : decode cX6_tenthsToNearest 37 = .ok (.getfield 46, 3) := by decide +kernel
theorem dX6_tenthsToNearest_40 : decode cX6_tenthsToNearest 40 = .ok (.iload 5, 2) := by decide +kernel
theorem dX6_tenthsToNearest_42 : decode cX6_tenthsToNearest 42 = .ok (.aaload, 1) := by decide +kernel
theorem dX6_tenthsToNearest_43 : decode cX6_tenthsToNearest 43 = .ok (.getfield 212, 3) := by decide +kernel
theorem dX6_tenthsToNearest_46 : decode cX6_tenthsToNearest 46 = .ok (.iload_n 3, 1) := by decide +kernel
theorem dX6_tenthsToNearest_47 : decode cX6_tenthsToNearest 47 = .ok (.isub, 1) := by decide +kernel
theorem dX6_tenthsToNearest_48 : decode cX6_tenthsToNearest 48 = .ok (.iload_n 2, 1) := by decide +kernel
theorem dX6_tenthsToNearest_49 : decode cX6_tenthsToNearest 49 = .ok (.imul, 1) := by decide +kernel
theorem dX6_tenthsToNearest_50 : decode cX6_tenthsToNearest 50 = .ok (.istore 6, 2) := by decide +kernel
theorem dX6_tenthsToNearest_52 : decode cX6_tenthsToNearest 52 = .ok (.aload_n 0, 1) := by decide +kernel
theorem dX6_tenthsToNearest_53 : decode cX6_tenthsToNearest 53 = .ok (.getfield 22, 3) := by decide +kernel
theorem dX6_tenthsToNearest_56 : decode cX6_tenthsToNearest 56 = .ok (.getfield 46, 3) := by decide +kernel
theorem dX6_tenthsToNearest_59 : decode cX6_tenthsToNearest 59 = .ok (.iload 5, 2) := by decide +kernel
theorem dX6_tenthsToNearest_61 : decode cX6_tenthsToNearest 61 = .ok (.aaload, 1) := by decide +kernel
theorem dX6_tenthsToNearest_62 : decode cX6_tenthsToNearest 62 = .ok (.getfield 49, 3) := by decide +kernel
theorem dX6_tenthsToNearest_65 : decode cX6_tenthsToNearest 65 = .ok (.iconst 3, 1) := by decide +kernel
theorem dX6_tenthsToNearest_66 : decode cX6_tenthsToNearest 66 = .ok (.if_icmp .eq 19, 3) := by decide +kernel
theorem dX6_tenthsToNearest_69 : decode cX6_tenthsToNearest 69 = .ok (.iload 6, 2) := by decide +kernel
theorem dX6_tenthsToNearest_71 : decode cX6_tenthsToNearest 71 = .ok (.ifCond .le 14, 3) := by decide +kernel
theorem dX6_tenthsToNearest_74 : decode cX6_tenthsToNearest 74 = .ok (.iload 6, 2) := by decide +kernel
theorem dX6_tenthsToNearest_76 : decode cX6_tenthsToNearest 76 = .ok (.iload 4, 2) := by decide +kernel
theorem dX6_tenthsToNearest_78 : decode cX6_tenthsToNearest 78 = .ok (.if_icmp .ge 7, 3) := by decide +kernel
theorem dX6_tenthsToNearest_81 : decode cX6_tenthsToNearest 81 = .ok (.iload 6, 2) := by decide +kernel
theorem dX6_tenthsToNearest_83 : decode cX6_tenthsToNearest 83 = .ok (.istore 4, 2) := by decide +kernel
theorem dX6_tenthsToNearest_85 : decode cX6_tenthsToNearest 85 = .ok (.iinc 5 1, 3) := by decide +kernel
theorem dX6_tenthsToNearest_88 : decode cX6_tenthsToNearest 88 = .ok (.goto (-67), 3) := by decide +kernel
theorem dX6_tenthsToNearest_91 : decode cX6_tenthsToNearest 91 = .ok (.iload 4, 2) := by decide +kernel
theorem dX6_tenthsToNearest_93 : decode cX6_tenthsToNearest 93 = .ok (.ireturn, 1) := by decide +kernel
theorem dX6_tick_0 : decode cX6_tick 0 = .ok (.aload_n 0, 1) := by decide +kernel
theorem dX6_tick_1 : decode cX6_tick 1 = .ok (.aload_n 1, 1) := by decide +kernel
theorem dX6_tick_2 : decode cX6_tick 2 = .ok (.putfield 18, 3) := by decide +kernel
theorem dX6_tick_5 : decode cX6_tick 5 = .ok (.aload_n 0, 1) := by decide +kernel
theorem dX6_tick_6 : decode cX6_tick 6 = .ok (.aload_n 2, 1) := by decide +kernel
theorem dX6_tick_7 : decode cX6_tick 7 = .ok (.putfield 22, 3) := by decide +kernel
theorem dX6_tick_10 : decode cX6_tick 10 = .ok (.aload_n 0, 1) := by decide +kernel
theorem dX6_tick_11 : decode cX6_tick 11 = .ok (.getfield 22, 3) := by decide +kernel
theorem dX6_tick_14 : decode cX6_tick 14 = .ok (.dup, 1) := by decide +kernel
theorem dX6_tick_15 : decode cX6_tick 15 = .ok (.getfield 26, 3) := by decide +kernel
theorem dX6_tick_18 : decode cX6_tick 18 = .ok (.iconst 1, 1) := by decide +kernel
theorem dX6_tick_19 : decode cX6_tick 19 = .ok (.iadd, 1) := by decide +kernel
theorem dX6_tick_20 : decode cX6_tick 20 = .ok (.putfield 26, 3) := by decide +kernel
theorem dX6_tick_23 : decode cX6_tick 23 = .ok (.aload_n 0, 1) := by decide +kernel
theorem dX6_tick_24 : decode cX6_tick 24 = .ok (.invokevirtual 32, 3) := by decide +kernel
theorem dX6_tick_27 : decode cX6_tick 27 = .ok (.aload_n 0, 1) := by decide +kernel
theorem dX6_tick_28 : decode cX6_tick 28 = .ok (.invokevirtual 35, 3) := by decide +kernel
theorem dX6_tick_31 : decode cX6_tick 31 = .ok (.aload_n 0, 1) := by decide +kernel
theorem dX6_tick_32 : decode cX6_tick 32 = .ok (.invokevirtual 38, 3) := by decide +kernel
theorem dX6_tick_35 : decode cX6_tick 35 = .ok (.iconst 0, 1) := by decide +kernel
theorem dX6_tick_36 : decode cX6_tick 36 = .ok (.istore_n 3, 1) := by decide +kernel
theorem dX6_tick_37 : decode cX6_tick 37 = .ok (.iload_n 3, 1) := by decide +kernel
theorem dX6_tick_38 : decode cX6_tick 38 = .ok (.aload_n 0, 1) := by decide +kernel
theorem dX6_tick_39 : decode cX6_tick 39 = .ok (.getfield 18, 3) := by decide +kernel
theorem dX6_tick_42 : decode cX6_tick 42 = .ok (.getfield 41, 3) := by decide +kernel
theorem dX6_tick_45 : decode cX6_tick 45 = .ok (.if_icmp .ge 107, 3) := by decide +kernel
theorem dX6_tick_48 : decode cX6_tick 48 = .ok (.aload_n 0, 1) := by decide +kernel
theorem dX6_tick_49 : decode cX6_tick 49 = .ok (.getfield 22, 3) := by decide +kernel
theorem dX6_tick_52 : decode cX6_tick 52 = .ok (.getfield 46, 3) := by decide +kernel
theorem dX6_tick_55 : decode cX6_tick 55 = .ok (.iload_n 3, 1) := by decide +kernel
theorem dX6_tick_56 : decode cX6_tick 56 = .ok (.aaload, 1) := by decide +kernel
theorem dX6_tick_57 : decode cX6_tick 57 = .ok (.astore 4, 2) := by decide +kernel
theorem dX6_tick_59 : decode cX6_tick 59 = .ok (.aload 4, 2) := by decide +kernel
theorem dX6_tick_61 : decode cX6_tick 61 = .ok (.getfield 49, 3) := by decide +kernel
theorem dX6_tick_64 : decode cX6_tick 64 = .ok (.iconst 3, 1) := by decide +kernel
theorem dX6_tick_65 : decode cX6_tick 65 = .ok (.if_icmp .eq 81, 3) := by decide +kernel
theorem dX6_tick_68 : decode cX6_tick 68 = .ok (.aload_n 0, 1) := by decide +kernel
theorem dX6_tick_69 : decode cX6_tick 69 = .ok (.aload 4, 2) := by decide +kernel
theorem dX6_tick_71 : decode cX6_tick 71 = .ok (.invokevirtual 54, 3) := by decide +kernel
theorem dX6_tick_74 : decode cX6_tick 74 = .ok (.aload 4, 2) := by decide +kernel
theorem dX6_tick_76 : decode cX6_tick 76 = .ok (.getfield 49, 3) := by decide +kernel
theorem dX6_tick_79 : decode cX6_tick 79 = .ok (.iconst 2, 1) := by decide +kernel
theorem dX6_tick_80 : decode cX6_tick 80 = .ok (.if_icmp .ne 13, 3) := by decide +kernel
theorem dX6_tick_83 : decode cX6_tick 83 = .ok (.aload_n 0, 1) := by decide +kernel
theorem dX6_tick_84 : decode cX6_tick 84 = .ok (.iload_n 3, 1) := by decide +kernel
theorem dX6_tick_85 : decode cX6_tick 85 = .ok (.aload 4, 2) := by decide +kernel
theorem dX6_tick_87 : decode cX6_tick 87 = .ok (.invokevirtual 58, 3) := by decide +kernel
theorem dX6_tick_90 : decode cX6_tick 90 = .ok (.goto 18, 3) := by decide +kernel
theorem dX6_tick_93 : decode cX6_tick 93 = .ok (.aload 4, 2) := by decide +kernel
theorem dX6_tick_95 : decode cX6_tick 95 = .ok (.getfield 49, 3) := by decide +kernel
theorem dX6_tick_98 : decode cX6_tick 98 = .ok (.ifCond .ne 10, 3) := by decide +kernel
theorem dX6_tick_101 : decode cX6_tick 101 = .ok (.aload_n 0, 1) := by decide +kernel
theorem dX6_tick_102 : decode cX6_tick 102 = .ok (.iload_n 3, 1) := by decide +kernel
theorem dX6_tick_103 : decode cX6_tick 103 = .ok (.aload 4, 2) := by decide +kernel
theorem dX6_tick_105 : decode cX6_tick 105 = .ok (.invokevirtual 62, 3) := by decide +kernel
theorem dX6_tick_108 : decode cX6_tick 108 = .ok (.aload 4, 2) := by decide +kernel
theorem dX6_tick_110 : decode cX6_tick 110 = .ok (.getfield 49, 3) := by decide +kernel
theorem dX6_tick_113 : decode cX6_tick 113 = .ok (.iconst 1, 1) := by decide +kernel
theorem dX6_tick_114 : decode cX6_tick 114 = .ok (.if_icmp .ne 25, 3) := by decide +kernel
theorem dX6_tick_117 : decode cX6_tick 117 = .ok (.aload 4, 2) := by decide +kernel
theorem dX6_tick_119 : decode cX6_tick 119 = .ok (.aload_n 0, 1) := by decide +kernel
theorem dX6_tick_120 : decode cX6_tick 120 = .ok (.getfield 18, 3) := by decide +kernel
theorem dX6_tick_123 : decode cX6_tick 123 = .ok (.aload 4, 2) := by decide +kernel
theorem dX6_tick_125 : decode cX6_tick 125 = .ok (.getfield 65, 3) := by decide +kernel
theorem dX6_tick_128 : decode cX6_tick 128 = .ok (.aload 4, 2) := by decide +kernel
theorem dX6_tick_130 : decode cX6_tick 130 = .ok (.invokevirtual 68, 3) := by decide +kernel
theorem dX6_tick_133 : decode cX6_tick 133 = .ok (.invokevirtual 72, 3) := by decide +kernel
theorem dX6_tick_136 : decode cX6_tick 136 = .ok (.putfield 65, 3) := by decide +kernel
theorem dX6_tick_139 : decode cX6_tick 139 = .ok (.aload_n 0, 1) := by decide +kernel
theorem dX6_tick_140 : decode cX6_tick 140 = .ok (.iload_n 3, 1) := by decide +kernel
theorem dX6_tick_141 : decode cX6_tick 141 = .ok (.aload 4, 2) := by decide +kernel
theorem dX6_tick_143 : decode cX6_tick 143 = .ok (.invokevirtual 76, 3) := by decide +kernel
theorem dX6_tick_146 : decode cX6_tick 146 = .ok (.iinc 3 1, 3) := by decide +kernel
theorem dX6_tick_149 : decode cX6_tick 149 = .ok (.goto (-112), 3) := by decide +kernel
theorem dX6_tick_152 : decode cX6_tick 152 = .ok (.aload_n 0, 1) := by decide +kernel
theorem dX6_tick_153 : decode cX6_tick 153 = .ok (.invokevirtual 79, 3) := by decide +kernel
theorem dX6_tick_156 : decode cX6_tick 156 = .ok (.aload_n 0, 1) := by decide +kernel
theorem dX6_tick_157 : decode cX6_tick 157 = .ok (.getfield 18, 3) := by decide +kernel
theorem dX6_tick_160 : decode cX6_tick 160 = .ok (.getfield 82, 3) := by decide +kernel
theorem dX6_tick_163 : decode cX6_tick 163 = .ok (.ifCond .le 7, 3) := by decide +kernel
theorem dX6_tick_166 : decode cX6_tick 166 = .ok (.aload_n 0, 1) := by decide +kernel
theorem dX6_tick_167 : decode cX6_tick 167 = .ok (.invokevirtual 85, 3) := by decide +kernel
theorem dX6_tick_170 : decode cX6_tick 170 = .ok (.return_, 1) := by decide +kernel
theorem dX6_turnTable_0 : decode cX6_turnTable 0 = .ok (.aload_n 0, 1) := by decide +kernel
theorem dX6_turnTable_1 : decode cX6_turnTable 1 = .ok (.getfield 18, 3) := by decide +kernel
theorem dX6_turnTable_4 : decode cX6_turnTable 4 = .ok (.aload_n 0, 1) := by decide +kernel
theorem dX6_turnTable_5 : decode cX6_turnTable 5 = .ok (.getfield 22, 3) := by decide +kernel
theorem dX6_turnTable_8 : decode cX6_turnTable 8 = .ok (.getfield 233, 3) := by decide +kernel
theorem dX6_turnTable_11 : decode cX6_turnTable 11 = .ok (.invokevirtual 236, 3) := by decide +kernel
theorem dX6_turnTable_14 : decode cX6_turnTable 14 = .ok (.ifCond .eq 45, 3) := by decide +kernel
theorem dX6_turnTable_17 : decode cX6_turnTable 17 = .ok (.aload_n 0, 1) := by decide +kernel
theorem dX6_turnTable_18 : decode cX6_turnTable 18 = .ok (.getfield 22, 3) := by decide +kernel
theorem dX6_turnTable_21 : decode cX6_turnTable 21 = .ok (.dup, 1) := by decide +kernel
theorem dX6_turnTable_22 : decode cX6_turnTable 22 = .ok (.getfield 239, 3) := by decide +kernel
theorem dX6_turnTable_25 : decode cX6_turnTable 25 = .ok (.iconst 1, 1) := by decide +kernel
theorem dX6_turnTable_26 : decode cX6_turnTable 26 = .ok (.isub, 1) := by decide +kernel
theorem dX6_turnTable_27 : decode cX6_turnTable 27 = .ok (.putfield 239, 3) := by decide +kernel
theorem dX6_turnTable_30 : decode cX6_turnTable 30 = .ok (.aload_n 0, 1) := by decide +kernel
theorem dX6_turnTable_31 : decode cX6_turnTable 31 = .ok (.getfield 22, 3) := by decide +kernel
theorem dX6_turnTable_34 : decode cX6_turnTable 34 = .ok (.getfield 239, 3) := by decide +kernel
theorem dX6_turnTable_37 : decode cX6_turnTable 37 = .ok (.ifCond .gt 22, 3) := by decide +kernel
theorem dX6_turnTable_40 : decode cX6_turnTable 40 = .ok (.aload_n 0, 1) := by decide +kernel
theorem dX6_turnTable_41 : decode cX6_turnTable 41 = .ok (.aload_n 0, 1) := by decide +kernel
theorem dX6_turnTable_42 : decode cX6_turnTable 42 = .ok (.getfield 22, 3) := by decide +kernel
theorem dX6_turnTable_45 : decode cX6_turnTable 45 = .ok (.getfield 233, 3) := by decide +kernel
theorem dX6_turnTable_48 : decode cX6_turnTable 48 = .ok (.invokevirtual 242, 3) := by decide +kernel
theorem dX6_turnTable_51 : decode cX6_turnTable 51 = .ok (.aload_n 0, 1) := by decide +kernel
theorem dX6_turnTable_52 : decode cX6_turnTable 52 = .ok (.getfield 22, 3) := by decide +kernel
theorem dX6_turnTable_55 : decode cX6_turnTable 55 = .ok (.iconst (-1), 1) := by decide +kernel
theorem dX6_turnTable_56 : decode cX6_turnTable 56 = .ok (.putfield 233, 3) := by decide +kernel
theorem dX6_turnTable_59 : decode cX6_turnTable 59 = .ok (.aload_n 0, 1) := by decide +kernel
theorem dX6_turnTable_60 : decode cX6_turnTable 60 = .ok (.getfield 22, 3) := by decide +kernel
theorem dX6_turnTable_63 : decode cX6_turnTable 63 = .ok (.getfield 233, 3) := by decide +kernel
theorem dX6_turnTable_66 : decode cX6_turnTable 66 = .ok (.iconst (-1), 1) := by decide +kernel
theorem dX6_turnTable_67 : decode cX6_turnTable 67 = .ok (.if_icmp .ne 28, 3) := by decide +kernel
theorem dX6_turnTable_70 : decode cX6_turnTable 70 = .ok (.aload_n 0, 1) := by decide +kernel
theorem dX6_turnTable_71 : decode cX6_turnTable 71 = .ok (.getfield 22, 3) := by decide +kernel
theorem dX6_turnTable_74 : decode cX6_turnTable 74 = .ok (.aload_n 0, 1) := by decide +kernel
theorem dX6_turnTable_75 : decode cX6_turnTable 75 = .ok (.invokevirtual 245, 3) := by decide +kernel
theorem dX6_turnTable_78 : decode cX6_turnTable 78 = .ok (.putfield 233, 3) := by decide +kernel
theorem dX6_turnTable_81 : decode cX6_turnTable 81 = .ok (.aload_n 0, 1) := by decide +kernel
theorem dX6_turnTable_82 : decode cX6_turnTable 82 = .ok (.getfield 22, 3) := by decide +kernel
theorem dX6_turnTable_85 : decode cX6_turnTable 85 = .ok (.aload_n 0, 1) := by decide +kernel
theorem dX6_turnTable_86 : decode cX6_turnTable 86 = .ok (.getfield 18, 3) := by decide +kernel
theorem dX6_turnTable_89 : decode cX6_turnTable 89 = .ok (.getfield 82, 3) := by decide +kernel
theorem dX6_turnTable_92 : decode cX6_turnTable 92 = .ok (.putfield 239, 3) := by decide +kernel
theorem dX6_turnTable_95 : decode cX6_turnTable 95 = .ok (.return_, 1) := by decide +kernel
theorem dX6_unitValue_0 : decode cX6_unitValue 0 = .ok (.aload_n 0, 1) := by decide +kernel
theorem dX6_unitValue_1 : decode cX6_unitValue 1 = .ok (.getfield 18, 3) := by decide +kernel
theorem dX6_unitValue_4 : decode cX6_unitValue 4 = .ok (.iload_n 3, 1) := by decide +kernel
theorem dX6_unitValue_5 : decode cX6_unitValue 5 = .ok (.invokevirtual 236, 3) := by decide +kernel
theorem dX6_unitValue_8 : decode cX6_unitValue 8 = .ok (.ifCond .ne 5, 3) := by decide +kernel
theorem dX6_unitValue_11 : decode cX6_unitValue 11 = .ok (.iconst 0, 1) := by decide +kernel
theorem dX6_unitValue_12 : decode cX6_unitValue 12 = .ok (.ireturn, 1) := by decide +kernel
theorem dX6_unitValue_13 : decode cX6_unitValue 13 = .ok (.iload_n 1, 1) := by decide +kernel
theorem dX6_unitValue_14 : decode cX6_unitValue 14 = .ok (.tableswitch 100 0 7 #[46, 48, 50, 63, 100, 73, 80, 87], 46) := by decide +kernel
theorem dX6_unitValue_60 : decode cX6_unitValue 60 = .ok (.iload_n 2, 1) := by decide +kernel
theorem dX6_unitValue_61 : decode cX6_unitValue 61 = .ok (.ireturn, 1) := by decide +kernel
theorem dX6_unitValue_62 : decode cX6_unitValue 62 = .ok (.iload_n 3, 1) := by decide +kernel
theorem dX6_unitValue_63 : decode cX6_unitValue 63 = .ok (.ireturn, 1) := by decide +kernel
theorem dX6_unitValue_64 : decode cX6_unitValue 64 = .ok (.aload_n 0, 1) := by decide +kernel
theorem dX6_unitValue_65 : decode cX6_unitValue 65 = .ok (.getfield 22, 3) := by decide +kernel
theorem dX6_unitValue_68 : decode cX6_unitValue 68 = .ok (.getfield 46, 3) := by decide +kernel
theorem dX6_unitValue_71 : decode cX6_unitValue 71 = .ok (.iload_n 3, 1) := by decide +kernel
theorem dX6_unitValue_72 : decode cX6_unitValue 72 = .ok (.aaload, 1) := by decide +kernel
theorem dX6_unitValue_73 : decode cX6_unitValue 73 = .ok (.getfield 65, 3) := by decide +kernel
theorem dX6_unitValue_76 : decode cX6_unitValue 76 = .ok (.ireturn, 1) := by decide +kernel
theorem dX6_unitValue_77 : decode cX6_unitValue 77 = .ok (.aload_n 0, 1) := by decide +kernel
theorem dX6_unitValue_78 : decode cX6_unitValue 78 = .ok (.getfield 18, 3) := by decide +kernel
theorem dX6_unitValue_81 : decode cX6_unitValue 81 = .ok (.getfield 269, 3) := by decide +kernel
theorem dX6_unitValue_84 : decode cX6_unitValue 84 = .ok (.iload_n 3, 1) := by decide +kernel
theorem dX6_unitValue_85 : decode cX6_unitValue 85 = .ok (.iaload, 1) := by decide +kernel
theorem dX6_unitValue_86 : decode cX6_unitValue 86 = .ok (.ireturn, 1) := by decide +kernel
theorem dX6_unitValue_87 : decode cX6_unitValue 87 = .ok (.aload_n 0, 1) := by decide +kernel
theorem dX6_unitValue_88 : decode cX6_unitValue 88 = .ok (.iload_n 3, 1) := by decide +kernel
theorem dX6_unitValue_89 : decode cX6_unitValue 89 = .ok (.iconst 1, 1) := by decide +kernel
theorem dX6_unitValue_90 : decode cX6_unitValue 90 = .ok (.invokevirtual 272, 3) := by decide +kernel
theorem dX6_unitValue_93 : decode cX6_unitValue 93 = .ok (.ireturn, 1) := by decide +kernel
theorem dX6_unitValue_94 : decode cX6_unitValue 94 = .ok (.aload_n 0, 1) := by decide +kernel
theorem dX6_unitValue_95 : decode cX6_unitValue 95 = .ok (.iload_n 3, 1) := by decide +kernel
theorem dX6_unitValue_96 : decode cX6_unitValue 96 = .ok (.iconst (-1), 1) := by decide +kernel
theorem dX6_unitValue_97 : decode cX6_unitValue 97 = .ok (.invokevirtual 272, 3) := by decide +kernel
theorem dX6_unitValue_100 : decode cX6_unitValue 100 = .ok (.ireturn, 1) := by decide +kernel
theorem dX6_unitValue_101 : decode cX6_unitValue 101 = .ok (.aload_n 0, 1) := by decide +kernel
theorem dX6_unitValue_102 : decode cX6_unitValue 102 = .ok (.getfield 22, 3) := by decide +kernel
theorem dX6_unitValue_105 : decode cX6_unitValue 105 = .ok (.aload_n 0, 1) := by decide +kernel
theorem dX6_unitValue_106 : decode cX6_unitValue 106 = .ok (.getfield 18, 3) := by decide +kernel
theorem dX6_unitValue_109 : decode cX6_unitValue 109 = .ok (.iload_n 2, 1) := by decide +kernel
theorem dX6_unitValue_110 : decode cX6_unitValue 110 = .ok (.invokevirtual 275, 3) := by decide +kernel
theorem dX6_unitValue_113 : decode cX6_unitValue 113 = .ok (.ireturn, 1) := by decide +kernel
theorem dX6_unitValue_114 : decode cX6_unitValue 114 = .ok (.iconst 0, 1) := by decide +kernel
theorem dX6_unitValue_115 : decode cX6_unitValue 115 = .ok (.ireturn, 1) := by decide +kernel
theorem dX6_valueOf_0 : decode cX6_valueOf 0 = .ok (.aload_n 0, 1) := by decide +kernel
theorem dX6_valueOf_1 : decode cX6_valueOf 1 = .ok (.getfield 18, 3) := by decide +kernel
theorem dX6_valueOf_4 : decode cX6_valueOf 4 = .ok (.getfield 215, 3) := by decide +kernel
theorem dX6_valueOf_7 : decode cX6_valueOf 7 = .ok (.astore 4, 2) := by decide +kernel
theorem dX6_valueOf_9 : decode cX6_valueOf 9 = .ok (.aload 4, 2) := by decide +kernel
theorem dX6_valueOf_11 : decode cX6_valueOf 11 = .ok (.iload_n 1, 1) := by decide +kernel
theorem dX6_valueOf_12 : decode cX6_valueOf 12 = .ok (.invokevirtual 251, 3) := by decide +kernel
theorem dX6_valueOf_15 : decode cX6_valueOf 15 = .ok (.istore 5, 2) := by decide +kernel
theorem dX6_valueOf_17 : decode cX6_valueOf 17 = .ok (.iconst 0, 1) := by decide +kernel
theorem dX6_valueOf_18 : decode cX6_valueOf 18 = .ok (.istore 6, 2) := by decide +kernel
theorem dX6_valueOf_20 : decode cX6_valueOf 20 = .ok (.aload 4, 2) := by decide +kernel
theorem dX6_valueOf_22 : decode cX6_valueOf 22 = .ok (.iload_n 1, 1) := by decide +kernel
theorem dX6_valueOf_23 : decode cX6_valueOf 23 = .ok (.invokevirtual 254, 3) := by decide +kernel
theorem dX6_valueOf_26 : decode cX6_valueOf 26 = .ok (.istore 7, 2) := by decide +kernel
theorem dX6_valueOf_28 : decode cX6_valueOf 28 = .ok (.iload 7, 2) := by decide +kernel
theorem dX6_valueOf_30 : decode cX6_valueOf 30 = .ok (.iload 5, 2) := by decide +kernel
theorem dX6_valueOf_32 : decode cX6_valueOf 32 = .ok (.if_icmp .ge 164, 3) := by decide +kernel
theorem dX6_valueOf_35 : decode cX6_valueOf 35 = .ok (.aload 4, 2) := by decide +kernel
theorem dX6_valueOf_37 : decode cX6_valueOf 37 = .ok (.iload 7, 2) := by decide +kernel
theorem dX6_valueOf_39 : decode cX6_valueOf 39 = .ok (.invokevirtual 257, 3) := by decide +kernel
theorem dX6_valueOf_42 : decode cX6_valueOf 42 = .ok (.istore 8, 2) := by decide +kernel
theorem dX6_valueOf_44 : decode cX6_valueOf 44 = .ok (.iload 8, 2) := by decide +kernel
theorem dX6_valueOf_46 : decode cX6_valueOf 46 = .ok (.bipush 8, 2) := by decide +kernel
theorem dX6_valueOf_48 : decode cX6_valueOf 48 = .ok (.if_icmp .ge 54, 3) := by decide +kernel
theorem dX6_valueOf_51 : decode cX6_valueOf 51 = .ok (.iload 6, 2) := by decide +kernel
theorem dX6_valueOf_53 : decode cX6_valueOf 53 = .ok (.aload_n 0, 1) := by decide +kernel
theorem dX6_valueOf_54 : decode cX6_valueOf 54 = .ok (.getfield 15, 3) := by decide +kernel
theorem dX6_valueOf_57 : decode cX6_valueOf 57 = .ok (.arraylength, 1) := by decide +kernel
theorem dX6_valueOf_58 : decode cX6_valueOf 58 = .ok (.if_icmp .ge 44, 3) := by decide +kernel
theorem dX6_valueOf_61 : decode cX6_valueOf 61 = .ok (.aload 4, 2) := by decide +kernel
theorem dX6_valueOf_63 : decode cX6_valueOf 63 = .ok (.iload 7, 2) := by decide +kernel
theorem dX6_valueOf_65 : decode cX6_valueOf 65 = .ok (.invokevirtual 260, 3) := by decide +kernel
theorem dX6_valueOf_68 : decode cX6_valueOf 68 = .ok (.istore 9, 2) := by decide +kernel
theorem dX6_valueOf_70 : decode cX6_valueOf 70 = .ok (.aload_n 0, 1) := by decide +kernel
theorem dX6_valueOf_71 : decode cX6_valueOf 71 = .ok (.getfield 15, 3) := by decide +kernel
theorem dX6_valueOf_74 : decode cX6_valueOf 74 = .ok (.iload 6, 2) := by decide +kernel
theorem dX6_valueOf_76 : decode cX6_valueOf 76 = .ok (.iload 8, 2) := by decide +kernel
theorem dX6_valueOf_78 : decode cX6_valueOf 78 = .ok (.iconst 4, 1) := by decide +kernel
theorem dX6_valueOf_79 : decode cX6_valueOf 79 = .ok (.if_icmp .ne 7, 3) := by decide +kernel
theorem dX6_valueOf_82 : decode cX6_valueOf 82 = .ok (.iload_n 3, 1) := by decide +kernel
theorem dX6_valueOf_83 : decode cX6_valueOf 83 = .ok (.goto 12, 3) := by decide +kernel
theorem dX6_valueOf_86 : decode cX6_valueOf 86 = .ok (.aload_n 0, 1) := by decide +kernel
theorem dX6_valueOf_87 : decode cX6_valueOf 87 = .ok (.iload 8, 2) := by decide +kernel
theorem dX6_valueOf_89 : decode cX6_valueOf 89 = .ok (.iload 9, 2) := by decide +kernel
theorem dX6_valueOf_91 : decode cX6_valueOf 91 = .ok (.iload_n 2, 1) := by decide +kernel
theorem dX6_valueOf_92 : decode cX6_valueOf 92 = .ok (.invokevirtual 263, 3) := by decide +kernel
theorem dX6_valueOf_95 : decode cX6_valueOf 95 = .ok (.iastore, 1) := by decide +kernel
theorem dX6_valueOf_96 : decode cX6_valueOf 96 = .ok (.iinc 6 1, 3) := by decide +kernel
theorem dX6_valueOf_99 : decode cX6_valueOf 99 = .ok (.goto 91, 3) := by decide +kernel
theorem dX6_valueOf_102 : decode cX6_valueOf 102 = .ok (.iload 8, 2) := by decide +kernel
theorem dX6_valueOf_104 : decode cX6_valueOf 104 = .ok (.bipush 8, 2) := by decide +kernel
theorem dX6_valueOf_106 : decode cX6_valueOf 106 = .ok (.if_icmp .ne 38, 3) := by decide +kernel
theorem dX6_valueOf_109 : decode cX6_valueOf 109 = .ok (.iload 6, 2) := by decide +kernel
theorem dX6_valueOf_111 : decode cX6_valueOf 111 = .ok (.iconst 1, 1) := by decide +kernel
theorem dX6_valueOf_112 : decode cX6_valueOf 112 = .ok (.if_icmp .lt 32, 3) := by decide +kernel
theorem dX6_valueOf_115 : decode cX6_valueOf 115 = .ok (.aload_n 0, 1) := by decide +kernel
theorem dX6_valueOf_116 : decode cX6_valueOf 116 = .ok (.getfield 15, 3) := by decide +kernel
theorem dX6_valueOf_119 : decode cX6_valueOf 119 = .ok (.iload 6, 2) := by decide +kernel
theorem dX6_valueOf_121 : decode cX6_valueOf 121 = .ok (.iconst 1, 1) := by decide +kernel
theorem dX6_valueOf_122 : decode cX6_valueOf 122 = .ok (.isub, 1) := by decide +kernel
theorem dX6_valueOf_123 : decode cX6_valueOf 123 = .ok (.aload_n 0, 1) := by decide +kernel
theorem dX6_valueOf_124 : decode cX6_valueOf 124 = .ok (.getfield 15, 3) := by decide +kernel
theorem dX6_valueOf_127 : decode cX6_valueOf 127 = .ok (.iload 6, 2) := by decide +kernel
theorem dX6_valueOf_129 : decode cX6_valueOf 129 = .ok (.iconst 1, 1) := by decide +kernel
theorem dX6_valueOf_130 : decode cX6_valueOf 130 = .ok (.isub, 1) := by decide +kernel
theorem dX6_valueOf_131 : decode cX6_valueOf 131 = .ok (.iaload, 1) := by decide +kernel
theorem dX6_valueOf_132 : decode cX6_valueOf 132 = .ok (.ifCond .ne 7, 3) := by decide +kernel
theorem dX6_valueOf_135 : decode cX6_valueOf 135 = .ok (.iconst 1, 1) := by decide +kernel
theorem dX6_valueOf_136 : decode cX6_valueOf 136 = .ok (.goto 4, 3) := by decide +kernel
theorem dX6_valueOf_139 : decode cX6_valueOf 139 = .ok (.iconst 0, 1) := by decide +kernel
theorem dX6_valueOf_140 : decode cX6_valueOf 140 = .ok (.iastore, 1) := by decide +kernel
theorem dX6_valueOf_141 : decode cX6_valueOf 141 = .ok (.goto 49, 3) := by decide +kernel
theorem dX6_valueOf_144 : decode cX6_valueOf 144 = .ok (.iload 8, 2) := by decide +kernel
theorem dX6_valueOf_146 : decode cX6_valueOf 146 = .ok (.bipush 8, 2) := by decide +kernel
theorem dX6_valueOf_148 : decode cX6_valueOf 148 = .ok (.if_icmp .le 42, 3) := by decide +kernel
theorem dX6_valueOf_151 : decode cX6_valueOf 151 = .ok (.iload 6, 2) := by decide +kernel
theorem dX6_valueOf_153 : decode cX6_valueOf 153 = .ok (.iconst 2, 1) := by decide +kernel
theorem dX6_valueOf_154 : decode cX6_valueOf 154 = .ok (.if_icmp .lt 36, 3) := by decide +kernel
theorem dX6_valueOf_157 : decode cX6_valueOf 157 = .ok (.iinc 6 (-1), 3) := by decide +kernel
theorem dX6_valueOf_160 : decode cX6_valueOf 160 = .ok (.aload_n 0, 1) := by decide +kernel
theorem dX6_valueOf_161 : decode cX6_valueOf 161 = .ok (.getfield 15, 3) := by decide +kernel
theorem dX6_valueOf_164 : decode cX6_valueOf 164 = .ok (.iload 6, 2) := by decide +kernel
theorem dX6_valueOf_166 : decode cX6_valueOf 166 = .ok (.iconst 1, 1) := by decide +kernel
theorem dX6_valueOf_167 : decode cX6_valueOf 167 = .ok (.isub, 1) := by decide +kernel
theorem dX6_valueOf_168 : decode cX6_valueOf 168 = .ok (.iload 8, 2) := by decide +kernel
theorem dX6_valueOf_170 : decode cX6_valueOf 170 = .ok (.aload_n 0, 1) := by decide +kernel
theorem dX6_valueOf_171 : decode cX6_valueOf 171 = .ok (.getfield 15, 3) := by decide +kernel
theorem dX6_valueOf_174 : decode cX6_valueOf 174 = .ok (.iload 6, 2) := by decide +kernel
theorem dX6_valueOf_176 : decode cX6_valueOf 176 = .ok (.iconst 1, 1) := by decide +kernel
theorem dX6_valueOf_177 : decode cX6_valueOf 177 = .ok (.isub, 1) := by decide +kernel
theorem dX6_valueOf_178 : decode cX6_valueOf 178 = .ok (.iaload, 1) := by decide +kernel
theorem dX6_valueOf_179 : decode cX6_valueOf 179 = .ok (.aload_n 0, 1) := by decide +kernel
theorem dX6_valueOf_180 : decode cX6_valueOf 180 = .ok (.getfield 15, 3) := by decide +kernel
theorem dX6_valueOf_183 : decode cX6_valueOf 183 = .ok (.iload 6, 2) := by decide +kernel
theorem dX6_valueOf_185 : decode cX6_valueOf 185 = .ok (.iaload, 1) := by decide +kernel
theorem dX6_valueOf_186 : decode cX6_valueOf 186 = .ok (.invokestatic 266, 3) := by decide +kernel
theorem dX6_valueOf_189 : decode cX6_valueOf 189 = .ok (.iastore, 1) := by decide +kernel
theorem dX6_valueOf_190 : decode cX6_valueOf 190 = .ok (.iinc 7 1, 3) := by decide +kernel
theorem dX6_valueOf_193 : decode cX6_valueOf 193 = .ok (.goto (-165), 3) := by decide +kernel
theorem dX6_valueOf_196 : decode cX6_valueOf 196 = .ok (.iload 6, 2) := by decide +kernel
theorem dX6_valueOf_198 : decode cX6_valueOf 198 = .ok (.ifCond .le 15, 3) := by decide +kernel
theorem dX6_valueOf_201 : decode cX6_valueOf 201 = .ok (.aload_n 0, 1) := by decide +kernel
theorem dX6_valueOf_202 : decode cX6_valueOf 202 = .ok (.getfield 15, 3) := by decide +kernel
theorem dX6_valueOf_205 : decode cX6_valueOf 205 = .ok (.iload 6, 2) := by decide +kernel
theorem dX6_valueOf_207 : decode cX6_valueOf 207 = .ok (.iconst 1, 1) := by decide +kernel
theorem dX6_valueOf_208 : decode cX6_valueOf 208 = .ok (.isub, 1) := by decide +kernel
theorem dX6_valueOf_209 : decode cX6_valueOf 209 = .ok (.iaload, 1) := by decide +kernel
theorem dX6_valueOf_210 : decode cX6_valueOf 210 = .ok (.goto 4, 3) := by decide +kernel
theorem dX6_valueOf_213 : decode cX6_valueOf 213 = .ok (.iconst 0, 1) := by decide +kernel
theorem dX6_valueOf_214 : decode cX6_valueOf 214 = .ok (.ireturn, 1) := by decide +kernel
theorem dX6_waitOn_0 : decode cX6_waitOn 0 = .ok (.aload_n 0, 1) := by decide +kernel
theorem dX6_waitOn_1 : decode cX6_waitOn 1 = .ok (.getfield 18, 3) := by decide +kernel
theorem dX6_waitOn_4 : decode cX6_waitOn 4 = .ok (.iload_n 1, 1) := by decide +kernel
theorem dX6_waitOn_5 : decode cX6_waitOn 5 = .ok (.aload_n 2, 1) := by decide +kernel
theorem dX6_waitOn_6 : decode cX6_waitOn 6 = .ok (.invokevirtual 68, 3) := by decide +kernel
theorem dX6_waitOn_9 : decode cX6_waitOn 9 = .ok (.invokevirtual 185, 3) := by decide +kernel
theorem dX6_waitOn_12 : decode cX6_waitOn 12 = .ok (.ifCond .ne 38, 3) := by decide +kernel
theorem dX6_waitOn_15 : decode cX6_waitOn 15 = .ok (.aload_n 2, 1) := by decide +kernel
theorem dX6_waitOn_16 : decode cX6_waitOn 16 = .ok (.iconst 1, 1) := by decide +kernel
theorem dX6_waitOn_17 : decode cX6_waitOn 17 = .ok (.putfield 49, 3) := by decide +kernel
theorem dX6_waitOn_20 : decode cX6_waitOn 20 = .ok (.aload_n 0, 1) := by decide +kernel
theorem dX6_waitOn_21 : decode cX6_waitOn 21 = .ok (.getfield 22, 3) := by decide +kernel
theorem dX6_waitOn_24 : decode cX6_waitOn 24 = .ok (.getfield 88, 3) := by decide +kernel
theorem dX6_waitOn_27 : decode cX6_waitOn 27 = .ok (.getfield 114, 3) := by decide +kernel
theorem dX6_waitOn_30 : decode cX6_waitOn 30 = .ok (.bipush 6, 2) := by decide +kernel
theorem dX6_waitOn_32 : decode cX6_waitOn 32 = .ok (.dup2, 1) := by decide +kernel
theorem dX6_waitOn_33 : decode cX6_waitOn 33 = .ok (.iaload, 1) := by decide +kernel
theorem dX6_waitOn_34 : decode cX6_waitOn 34 = .ok (.iconst 1, 1) := by decide +kernel
theorem dX6_waitOn_35 : decode cX6_waitOn 35 = .ok (.iadd, 1) := by decide +kernel
theorem dX6_waitOn_36 : decode cX6_waitOn 36 = .ok (.iastore, 1) := by decide +kernel
theorem dX6_waitOn_37 : decode cX6_waitOn 37 = .ok (.aload_n 0, 1) := by decide +kernel
theorem dX6_waitOn_38 : decode cX6_waitOn 38 = .ok (.iconst 5, 1) := by decide +kernel
theorem dX6_waitOn_39 : decode cX6_waitOn 39 = .ok (.iload_n 1, 1) := by decide +kernel
theorem dX6_waitOn_40 : decode cX6_waitOn 40 = .ok (.iconst (-1), 1) := by decide +kernel
theorem dX6_waitOn_41 : decode cX6_waitOn 41 = .ok (.aload_n 2, 1) := by decide +kernel
theorem dX6_waitOn_42 : decode cX6_waitOn 42 = .ok (.getfield 189, 3) := by decide +kernel
theorem dX6_waitOn_45 : decode cX6_waitOn 45 = .ok (.invokevirtual 117, 3) := by decide +kernel
theorem dX6_waitOn_48 : decode cX6_waitOn 48 = .ok (.pop, 1) := by decide +kernel
theorem dX6_waitOn_49 : decode cX6_waitOn 49 = .ok (.return_, 1) := by decide +kernel
theorem dX6_waitOn_50 : decode cX6_waitOn 50 = .ok (.aload_n 2, 1) := by decide +kernel
theorem dX6_waitOn_51 : decode cX6_waitOn 51 = .ok (.iconst 0, 1) := by decide +kernel
theorem dX6_waitOn_52 : decode cX6_waitOn 52 = .ok (.putfield 65, 3) := by decide +kernel
theorem dX6_waitOn_55 : decode cX6_waitOn 55 = .ok (.aload_n 2, 1) := by decide +kernel
theorem dX6_waitOn_56 : decode cX6_waitOn 56 = .ok (.dup, 1) := by decide +kernel
theorem dX6_waitOn_57 : decode cX6_waitOn 57 = .ok (.getfield 192, 3) := by decide +kernel
theorem dX6_waitOn_60 : decode cX6_waitOn 60 = .ok (.iconst 1, 1) := by decide +kernel
theorem dX6_waitOn_61 : decode cX6_waitOn 61 = .ok (.isub, 1) := by decide +kernel
theorem dX6_waitOn_62 : decode cX6_waitOn 62 = .ok (.putfield 192, 3) := by decide +kernel
theorem dX6_waitOn_65 : decode cX6_waitOn 65 = .ok (.aload_n 2, 1) := by decide +kernel
theorem dX6_waitOn_66 : decode cX6_waitOn 66 = .ok (.getfield 192, 3) := by decide +kernel
theorem dX6_waitOn_69 : decode cX6_waitOn 69 = .ok (.ifCond .gt 8, 3) := by decide +kernel
theorem dX6_waitOn_72 : decode cX6_waitOn 72 = .ok (.aload_n 2, 1) := by decide +kernel
theorem dX6_waitOn_73 : decode cX6_waitOn 73 = .ok (.iconst 0, 1) := by decide +kernel
theorem dX6_waitOn_74 : decode cX6_waitOn 74 = .ok (.putfield 49, 3) := by decide +kernel
theorem dX6_waitOn_77 : decode cX6_waitOn 77 = .ok (.return_, 1) := by decide +kernel
theorem dX6_wearSplices_0 : decode cX6_wearSplices 0 = .ok (.iconst 0, 1) := by decide +kernel
theorem dX6_wearSplices_1 : decode cX6_wearSplices 1 = .ok (.istore_n 1, 1) := by decide +kernel
theorem dX6_wearSplices_2 : decode cX6_wearSplices 2 = .ok (.iload_n 1, 1) := by decide +kernel
theorem dX6_wearSplices_3 : decode cX6_wearSplices 3 = .ok (.aload_n 0, 1) := by decide +kernel
theorem dX6_wearSplices_4 : decode cX6_wearSplices 4 = .ok (.getfield 18, 3) := by decide +kernel
theorem dX6_wearSplices_7 : decode cX6_wearSplices 7 = .ok (.getfield 152, 3) := by decide +kernel
theorem dX6_wearSplices_10 : decode cX6_wearSplices 10 = .ok (.if_icmp .ge 143, 3) := by decide +kernel
theorem dX6_wearSplices_13 : decode cX6_wearSplices 13 = .ok (.aload_n 0, 1) := by decide +kernel
theorem dX6_wearSplices_14 : decode cX6_wearSplices 14 = .ok (.getfield 18, 3) := by decide +kernel
theorem dX6_wearSplices_17 : decode cX6_wearSplices 17 = .ok (.getfield 155, 3) := by decide +kernel
theorem dX6_wearSplices_20 : decode cX6_wearSplices 20 = .ok (.iload_n 1, 1) := by decide +kernel
theorem dX6_wearSplices_21 : decode cX6_wearSplices 21 = .ok (.iaload, 1) := by decide +kernel
theorem dX6_wearSplices_22 : decode cX6_wearSplices 22 = .ok (.istore_n 2, 1) := by decide +kernel
theorem dX6_wearSplices_23 : decode cX6_wearSplices 23 = .ok (.aload_n 0, 1) := by decide +kernel
theorem dX6_wearSplices_24 : decode cX6_wearSplices 24 = .ok (.getfield 18, 3) := by decide +kernel
theorem dX6_wearSplices_27 : decode cX6_wearSplices 27 = .ok (.iload_n 2, 1) := by decide +kernel
theorem dX6_wearSplices_28 : decode cX6_wearSplices 28 = .ok (.invokevirtual 124, 3) := by decide +kernel
theorem dX6_wearSplices_31 : decode cX6_wearSplices 31 = .ok (.ifCond .eq 116, 3) := by decide +kernel
theorem dX6_wearSplices_34 : decode cX6_wearSplices 34 = .ok (.aload_n 0, 1) := by decide +kernel
theorem dX6_wearSplices_35 : decode cX6_wearSplices 35 = .ok (.getfield 22, 3) := by decide +kernel
theorem dX6_wearSplices_38 : decode cX6_wearSplices 38 = .ok (.getfield 128, 3) := by decide +kernel
theorem dX6_wearSplices_41 : decode cX6_wearSplices 41 = .ok (.iload_n 2, 1) := by decide +kernel
theorem dX6_wearSplices_42 : decode cX6_wearSplices 42 = .ok (.baload, 1) := by decide +kernel
theorem dX6_wearSplices_43 : decode cX6_wearSplices 43 = .ok (.ifCond .ne 104, 3) := by decide +kernel
theorem dX6_wearSplices_46 : decode cX6_wearSplices 46 = .ok (.aload_n 0, 1) := by decide +kernel
theorem dX6_wearSplices_47 : decode cX6_wearSplices 47 = .ok (.getfield 22, 3) := by decide +kernel
theorem dX6_wearSplices_50 : decode cX6_wearSplices 50 = .ok (.getfield 158, 3) := by decide +kernel
theorem dX6_wearSplices_53 : decode cX6_wearSplices 53 = .ok (.iload_n 1, 1) := by decide +kernel
theorem dX6_wearSplices_54 : decode cX6_wearSplices 54 = .ok (.aload_n 0, 1) := by decide +kernel
theorem dX6_wearSplices_55 : decode cX6_wearSplices 55 = .ok (.getfield 18, 3) := by decide +kernel
theorem dX6_wearSplices_58 : decode cX6_wearSplices 58 = .ok (.iload_n 2, 1) := by decide +kernel
theorem dX6_wearSplices_59 : decode cX6_wearSplices 59 = .ok (.aload_n 0, 1) := by decide +kernel
theorem dX6_wearSplices_60 : decode cX6_wearSplices 60 = .ok (.getfield 22, 3) := by decide +kernel
theorem dX6_wearSplices_63 : decode cX6_wearSplices 63 = .ok (.getfield 158, 3) := by decide +kernel
theorem dX6_wearSplices_66 : decode cX6_wearSplices 66 = .ok (.iload_n 1, 1) := by decide +kernel
theorem dX6_wearSplices_67 : decode cX6_wearSplices 67 = .ok (.iaload, 1) := by decide +kernel
theorem dX6_wearSplices_68 : decode cX6_wearSplices 68 = .ok (.aload_n 0, 1) := by decide +kernel
theorem dX6_wearSplices_69 : decode cX6_wearSplices 69 = .ok (.getfield 9, 3) := by decide +kernel
theorem dX6_wearSplices_72 : decode cX6_wearSplices 72 = .ok (.iload_n 2, 1) := by decide +kernel
theorem dX6_wearSplices_73 : decode cX6_wearSplices 73 = .ok (.iaload, 1) := by decide +kernel
theorem dX6_wearSplices_74 : decode cX6_wearSplices 74 = .ok (.invokevirtual 135, 3) := by decide +kernel
theorem dX6_wearSplices_77 : decode cX6_wearSplices 77 = .ok (.iastore, 1) := by decide +kernel
theorem dX6_wearSplices_78 : decode cX6_wearSplices 78 = .ok (.aload_n 0, 1) := by decide +kernel
theorem dX6_wearSplices_79 : decode cX6_wearSplices 79 = .ok (.getfield 22, 3) := by decide +kernel
theorem dX6_wearSplices_82 : decode cX6_wearSplices 82 = .ok (.getfield 161, 3) := by decide +kernel
theorem dX6_wearSplices_85 : decode cX6_wearSplices 85 = .ok (.iload_n 1, 1) := by decide +kernel
theorem dX6_wearSplices_86 : decode cX6_wearSplices 86 = .ok (.dup2, 1) := by decide +kernel
theorem dX6_wearSplices_87 : decode cX6_wearSplices 87 = .ok (.iaload, 1) := by decide +kernel
theorem dX6_wearSplices_88 : decode cX6_wearSplices 88 = .ok (.aload_n 0, 1) := by decide +kernel
theorem dX6_wearSplices_89 : decode cX6_wearSplices 89 = .ok (.aload_n 0, 1) := by decide +kernel
theorem dX6_wearSplices_90 : decode cX6_wearSplices 90 = .ok (.getfield 18, 3) := by decide +kernel
theorem dX6_wearSplices_93 : decode cX6_wearSplices 93 = .ok (.iload_n 2, 1) := by decide +kernel
theorem dX6_wearSplices_94 : decode cX6_wearSplices 94 = .ok (.aload_n 0, 1) := by decide +kernel
theorem dX6_wearSplices_95 : decode cX6_wearSplices 95 = .ok (.getfield 22, 3) := by decide +kernel
theorem dX6_wearSplices_98 : decode cX6_wearSplices 98 = .ok (.getfield 158, 3) := by decide +kernel
theorem dX6_wearSplices_101 : decode cX6_wearSplices 101 = .ok (.iload_n 1, 1) := by decide +kernel
theorem dX6_wearSplices_102 : decode cX6_wearSplices 102 = .ok (.iaload, 1) := by decide +kernel
theorem dX6_wearSplices_103 : decode cX6_wearSplices 103 = .ok (.invokevirtual 139, 3) := by decide +kernel
theorem dX6_wearSplices_106 : decode cX6_wearSplices 106 = .ok (.invokevirtual 164, 3) := by decide +kernel
theorem dX6_wearSplices_109 : decode cX6_wearSplices 109 = .ok (.iadd, 1) := by decide +kernel
theorem dX6_wearSplices_110 : decode cX6_wearSplices 110 = .ok (.iastore, 1) := by decide +kernel
theorem dX6_wearSplices_111 : decode cX6_wearSplices 111 = .ok (.aload_n 0, 1) := by decide +kernel
theorem dX6_wearSplices_112 : decode cX6_wearSplices 112 = .ok (.getfield 22, 3) := by decide +kernel
theorem dX6_wearSplices_115 : decode cX6_wearSplices 115 = .ok (.getfield 161, 3) := by decide +kernel
theorem dX6_wearSplices_118 : decode cX6_wearSplices 118 = .ok (.iload_n 1, 1) := by decide +kernel
theorem dX6_wearSplices_119 : decode cX6_wearSplices 119 = .ok (.iaload, 1) := by decide +kernel
theorem dX6_wearSplices_120 : decode cX6_wearSplices 120 = .ok (.aload_n 0, 1) := by decide +kernel
theorem dX6_wearSplices_121 : decode cX6_wearSplices 121 = .ok (.getfield 18, 3) := by decide +kernel
theorem dX6_wearSplices_124 : decode cX6_wearSplices 124 = .ok (.getfield 168, 3) := by decide +kernel
theorem dX6_wearSplices_127 : decode cX6_wearSplices 127 = .ok (.iload_n 1, 1) := by decide +kernel
theorem dX6_wearSplices_128 : decode cX6_wearSplices 128 = .ok (.iaload, 1) := by decide +kernel
theorem dX6_wearSplices_129 : decode cX6_wearSplices 129 = .ok (.if_icmp .lt 18, 3) := by decide +kernel
theorem dX6_wearSplices_132 : decode cX6_wearSplices 132 = .ok (.aload_n 0, 1) := by decide +kernel
theorem dX6_wearSplices_133 : decode cX6_wearSplices 133 = .ok (.iload_n 2, 1) := by decide +kernel
theorem dX6_wearSplices_134 : decode cX6_wearSplices 134 = .ok (.iconst (-1), 1) := by decide +kernel
theorem dX6_wearSplices_135 : decode cX6_wearSplices 135 = .ok (.aload_n 0, 1) := by decide +kernel
theorem dX6_wearSplices_136 : decode cX6_wearSplices 136 = .ok (.bipush 7, 2) := by decide +kernel
theorem dX6_wearSplices_138 : decode cX6_wearSplices 138 = .ok (.iconst (-1), 1) := by decide +kernel
theorem dX6_wearSplices_139 : decode cX6_wearSplices 139 = .ok (.iload_n 2, 1) := by decide +kernel
theorem dX6_wearSplices_140 : decode cX6_wearSplices 140 = .ok (.iconst (-1), 1) := by decide +kernel
theorem dX6_wearSplices_141 : decode cX6_wearSplices 141 = .ok (.invokevirtual 117, 3) := by decide +kernel
theorem dX6_wearSplices_144 : decode cX6_wearSplices 144 = .ok (.invokevirtual 171, 3) := by decide +kernel
theorem dX6_wearSplices_147 : decode cX6_wearSplices 147 = .ok (.iinc 1 1, 3) := by decide +kernel
theorem dX6_wearSplices_150 : decode cX6_wearSplices 150 = .ok (.goto (-148), 3) := by decide +kernel
theorem dX6_wearSplices_153 : decode cX6_wearSplices 153 = .ok (.return_, 1) := by decide +kernel
theorem dX7_init_0 : decode cX7_init 0 = .ok (.aload_n 0, 1) := by decide +kernel
theorem dX7_init_1 : decode cX7_init 1 = .ok (.invokespecial 3, 3) := by decide +kernel
theorem dX7_init_4 : decode cX7_init 4 = .ok (.aload_n 0, 1) := by decide +kernel
theorem dX7_init_5 : decode cX7_init 5 = .ok (.iconst 3, 1) := by decide +kernel
theorem dX7_init_6 : decode cX7_init 6 = .ok (.anewarray 9, 3) := by decide +kernel
theorem dX7_init_9 : decode cX7_init 9 = .ok (.putfield 11, 3) := by decide +kernel
theorem dX7_init_12 : decode cX7_init 12 = .ok (.aload_n 0, 1) := by decide +kernel
theorem dX7_init_13 : decode cX7_init 13 = .ok (.bipush 60, 2) := by decide +kernel
theorem dX7_init_15 : decode cX7_init 15 = .ok (.newarray .int, 2) := by decide +kernel
theorem dX7_init_17 : decode cX7_init 17 = .ok (.putfield 17, 3) := by decide +kernel
theorem dX7_init_20 : decode cX7_init 20 = .ok (.aload_n 0, 1) := by decide +kernel
theorem dX7_init_21 : decode cX7_init 21 = .ok (.bipush 60, 2) := by decide +kernel
theorem dX7_init_23 : decode cX7_init 23 = .ok (.newarray .int, 2) := by decide +kernel
theorem dX7_init_25 : decode cX7_init 25 = .ok (.putfield 21, 3) := by decide +kernel
theorem dX7_init_28 : decode cX7_init 28 = .ok (.aload_n 0, 1) := by decide +kernel
theorem dX7_init_29 : decode cX7_init 29 = .ok (.iconst 5, 1) := by decide +kernel
theorem dX7_init_30 : decode cX7_init 30 = .ok (.newarray .int, 2) := by decide +kernel
theorem dX7_init_32 : decode cX7_init 32 = .ok (.putfield 24, 3) := by decide +kernel
theorem dX7_init_35 : decode cX7_init 35 = .ok (.aload_n 0, 1) := by decide +kernel
theorem dX7_init_36 : decode cX7_init 36 = .ok (.iconst 5, 1) := by decide +kernel
theorem dX7_init_37 : decode cX7_init 37 = .ok (.newarray .int, 2) := by decide +kernel
theorem dX7_init_39 : decode cX7_init 39 = .ok (.putfield 27, 3) := by decide +kernel
theorem dX7_init_42 : decode cX7_init 42 = .ok (.aload_n 0, 1) := by decide +kernel
theorem dX7_init_43 : decode cX7_init 43 = .ok (.iconst 4, 1) := by decide +kernel
theorem dX7_init_44 : decode cX7_init 44 = .ok (.bipush 60, 2) := by decide +kernel
theorem dX7_init_46 : decode cX7_init 46 = .ok (.multianewarray 30 2, 4) := by decide +kernel
theorem dX7_init_50 : decode cX7_init 50 = .ok (.putfield 32, 3) := by decide +kernel
theorem dX7_init_53 : decode cX7_init 53 = .ok (.aload_n 0, 1) := by decide +kernel
theorem dX7_init_54 : decode cX7_init 54 = .ok (.bipush 6, 2) := by decide +kernel
theorem dX7_init_56 : decode cX7_init 56 = .ok (.newarray .int, 2) := by decide +kernel
theorem dX7_init_58 : decode cX7_init 58 = .ok (.putfield 35, 3) := by decide +kernel
theorem dX7_init_61 : decode cX7_init 61 = .ok (.aload_n 0, 1) := by decide +kernel
theorem dX7_init_62 : decode cX7_init 62 = .ok (.bipush 6, 2) := by decide +kernel
theorem dX7_init_64 : decode cX7_init 64 = .ok (.newarray .int, 2) := by decide +kernel
theorem dX7_init_66 : decode cX7_init 66 = .ok (.putfield 38, 3) := by decide +kernel
theorem dX7_init_69 : decode cX7_init 69 = .ok (.aload_n 0, 1) := by decide +kernel
theorem dX7_init_70 : decode cX7_init 70 = .ok (.bipush 6, 2) := by decide +kernel
theorem dX7_init_72 : decode cX7_init 72 = .ok (.newarray .int, 2) := by decide +kernel
theorem dX7_init_74 : decode cX7_init 74 = .ok (.putfield 41, 3) := by decide +kernel
theorem dX7_init_77 : decode cX7_init 77 = .ok (.aload_n 0, 1) := by decide +kernel
theorem dX7_init_78 : decode cX7_init 78 = .ok (.new 44, 3) := by decide +kernel
theorem dX7_init_81 : decode cX7_init 81 = .ok (.dup, 1) := by decide +kernel
theorem dX7_init_82 : decode cX7_init 82 = .ok (.invokespecial 46, 3) := by decide +kernel
theorem dX7_init_85 : decode cX7_init 85 = .ok (.putfield 47, 3) := by decide +kernel
theorem dX7_init_88 : decode cX7_init 88 = .ok (.iconst 0, 1) := by decide +kernel
theorem dX7_init_89 : decode cX7_init 89 = .ok (.istore_n 1, 1) := by decide +kernel
theorem dX7_init_90 : decode cX7_init 90 = .ok (.iload_n 1, 1) := by decide +kernel
theorem dX7_init_91 : decode cX7_init 91 = .ok (.iconst 3, 1) := by decide +kernel
theorem dX7_init_92 : decode cX7_init 92 = .ok (.if_icmp .ge 22, 3) := by decide +kernel
theorem dX7_init_95 : decode cX7_init 95 = .ok (.aload_n 0, 1) := by decide +kernel
theorem dX7_init_96 : decode cX7_init 96 = .ok (.getfield 11, 3) := by decide +kernel
theorem dX7_init_99 : decode cX7_init 99 = .ok (.iload_n 1, 1) := by decide +kernel
theorem dX7_init_100 : decode cX7_init 100 = .ok (.new 9, 3) := by decide +kernel
theorem dX7_init_103 : decode cX7_init 103 = .ok (.dup, 1) := by decide +kernel
theorem dX7_init_104 : decode cX7_init 104 = .ok (.invokespecial 51, 3) := by decide +kernel
theorem dX7_init_107 : decode cX7_init 107 = .ok (.aastore, 1) := by decide +kernel
theorem dX7_init_108 : decode cX7_init 108 = .ok (.iinc 1 1, 3) := by decide +kernel
theorem dX7_init_111 : decode cX7_init 111 = .ok (.goto (-21), 3) := by decide +kernel
theorem dX7_init_114 : decode cX7_init 114 = .ok (.aload_n 0, 1) := by decide +kernel
theorem dX7_init_115 : decode cX7_init 115 = .ok (.invokevirtual 52, 3) := by decide +kernel
theorem dX7_init_118 : decode cX7_init 118 = .ok (.return_, 1) := by decide +kernel
theorem dX7_brakesHold_0 : decode cX7_brakesHold 0 = .ok (.aload_n 0, 1) := by decide +kernel
theorem dX7_brakesHold_1 : decode cX7_brakesHold 1 = .ok (.iload_n 1, 1) := by decide +kernel
theorem dX7_brakesHold_2 : decode cX7_brakesHold 2 = .ok (.iload_n 2, 1) := by decide +kernel
theorem dX7_brakesHold_3 : decode cX7_brakesHold 3 = .ok (.invokevirtual 118, 3) := by decide +kernel
theorem dX7_brakesHold_6 : decode cX7_brakesHold 6 = .ok (.aload_n 0, 1) := by decide +kernel
theorem dX7_brakesHold_7 : decode cX7_brakesHold 7 = .ok (.getfield 74, 3) := by decide +kernel
theorem dX7_brakesHold_10 : decode cX7_brakesHold 10 = .ok (.if_icmp .gt 7, 3) := by decide +kernel
theorem dX7_brakesHold_13 : decode cX7_brakesHold 13 = .ok (.iconst 1, 1) := by decide +kernel
theorem dX7_brakesHold_14 : decode cX7_brakesHold 14 = .ok (.goto 4, 3) := by decide +kernel
theorem dX7_brakesHold_17 : decode cX7_brakesHold 17 = .ok (.iconst 0, 1) := by decide +kernel
theorem dX7_brakesHold_18 : decode cX7_brakesHold 18 = .ok (.ireturn, 1) := by decide +kernel
theorem dX7_clear_0 : decode cX7_clear 0 = .ok (.aload_n 0, 1) := by decide +kernel
theorem dX7_clear_1 : decode cX7_clear 1 = .ok (.iconst 0, 1) := by decide +kernel
theorem dX7_clear_2 : decode cX7_clear 2 = .ok (.putfield 55, 3) := by decide +kernel
theorem dX7_clear_5 : decode cX7_clear 5 = .ok (.aload_n 0, 1) := by decide +kernel
theorem dX7_clear_6 : decode cX7_clear 6 = .ok (.iconst 0, 1) := by decide +kernel
theorem dX7_clear_7 : decode cX7_clear 7 = .ok (.putfield 59, 3) := by decide +kernel
theorem dX7_clear_10 : decode cX7_clear 10 = .ok (.aload_n 0, 1) := by decide +kernel
theorem dX7_clear_11 : decode cX7_clear 11 = .ok (.iconst 0, 1) := by decide +kernel
theorem dX7_clear_12 : decode cX7_clear 12 = .ok (.putfield 62, 3) := by decide +kernel
theorem dX7_clear_15 : decode cX7_clear 15 = .ok (.aload_n 0, 1) := by decide +kernel
theorem dX7_clear_16 : decode cX7_clear 16 = .ok (.iconst 0, 1) := by decide +kernel
