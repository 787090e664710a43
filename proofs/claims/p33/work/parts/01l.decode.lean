theorem dX12_rankHere_65 : decode cX12_rankHere 65 = .ok (.invokevirtual 374, 3) := by decide +kernel
theorem dX12_rankHere_68 : decode cX12_rankHere 68 = .ok (.ifCond .eq 5, 3) := by decide +kernel
theorem dX12_rankHere_71 : decode cX12_rankHere 71 = .ok (.iconst 5, 1) := by decide +kernel
theorem dX12_rankHere_72 : decode cX12_rankHere 72 = .ok (.ireturn, 1) := by decide +kernel
theorem dX12_rankHere_73 : decode cX12_rankHere 73 = .ok (.aload_n 0, 1) := by decide +kernel
theorem dX12_rankHere_74 : decode cX12_rankHere 74 = .ok (.bipush 42, 2) := by decide +kernel
theorem dX12_rankHere_76 : decode cX12_rankHere 76 = .ok (.invokevirtual 374, 3) := by decide +kernel
theorem dX12_rankHere_79 : decode cX12_rankHere 79 = .ok (.ifCond .eq 8, 3) := by decide +kernel
theorem dX12_rankHere_82 : decode cX12_rankHere 82 = .ok (.bipush 6, 2) := by decide +kernel
theorem dX12_rankHere_84 : decode cX12_rankHere 84 = .ok (.goto 4, 3) := by decide +kernel
theorem dX12_rankHere_87 : decode cX12_rankHere 87 = .ok (.iconst 0, 1) := by decide +kernel
theorem dX12_rankHere_88 : decode cX12_rankHere 88 = .ok (.ireturn, 1) := by decide +kernel
theorem dX12_readCar_0 : decode cX12_readCar 0 = .ok (.iconst 5, 1) := by decide +kernel
theorem dX12_readCar_1 : decode cX12_readCar 1 = .ok (.aload_n 0, 1) := by decide +kernel
theorem dX12_readCar_2 : decode cX12_readCar 2 = .ok (.getfield 377, 3) := by decide +kernel
theorem dX12_readCar_5 : decode cX12_readCar 5 = .ok (.imul, 1) := by decide +kernel
theorem dX12_readCar_6 : decode cX12_readCar 6 = .ok (.aload_n 0, 1) := by decide +kernel
theorem dX12_readCar_7 : decode cX12_readCar 7 = .ok (.getfield 24, 3) := by decide +kernel
theorem dX12_readCar_10 : decode cX12_readCar 10 = .ok (.aload_n 0, 1) := by decide +kernel
theorem dX12_readCar_11 : decode cX12_readCar 11 = .ok (.getfield 377, 3) := by decide +kernel
theorem dX12_readCar_14 : decode cX12_readCar 14 = .ok (.iaload, 1) := by decide +kernel
theorem dX12_readCar_15 : decode cX12_readCar 15 = .ok (.iadd, 1) := by decide +kernel
theorem dX12_readCar_16 : decode cX12_readCar 16 = .ok (.istore_n 1, 1) := by decide +kernel
theorem dX12_readCar_17 : decode cX12_readCar 17 = .ok (.aload_n 0, 1) := by decide +kernel
theorem dX12_readCar_18 : decode cX12_readCar 18 = .ok (.getfield 56, 3) := by decide +kernel
theorem dX12_readCar_21 : decode cX12_readCar 21 = .ok (.iload_n 1, 1) := by decide +kernel
theorem dX12_readCar_22 : decode cX12_readCar 22 = .ok (.aload_n 0, 1) := by decide +kernel
theorem dX12_readCar_23 : decode cX12_readCar 23 = .ok (.aload_n 0, 1) := by decide +kernel
theorem dX12_readCar_24 : decode cX12_readCar 24 = .ok (.getfield 56, 3) := by decide +kernel
theorem dX12_readCar_27 : decode cX12_readCar 27 = .ok (.iconst 5, 1) := by decide +kernel
theorem dX12_readCar_28 : decode cX12_readCar 28 = .ok (.aload_n 0, 1) := by decide +kernel
theorem dX12_readCar_29 : decode cX12_readCar 29 = .ok (.getfield 377, 3) := by decide +kernel
theorem dX12_readCar_32 : decode cX12_readCar 32 = .ok (.imul, 1) := by decide +kernel
theorem dX12_readCar_33 : decode cX12_readCar 33 = .ok (.aload_n 0, 1) := by decide +kernel
theorem dX12_readCar_34 : decode cX12_readCar 34 = .ok (.getfield 24, 3) := by decide +kernel
theorem dX12_readCar_37 : decode cX12_readCar 37 = .ok (.aload_n 0, 1) := by decide +kernel
theorem dX12_readCar_38 : decode cX12_readCar 38 = .ok (.getfield 377, 3) := by decide +kernel
theorem dX12_readCar_41 : decode cX12_readCar 41 = .ok (.iaload, 1) := by decide +kernel
theorem dX12_readCar_42 : decode cX12_readCar 42 = .ok (.invokevirtual 430, 3) := by decide +kernel
theorem dX12_readCar_45 : decode cX12_readCar 45 = .ok (.lastore, 1) := by decide +kernel
theorem dX12_readCar_46 : decode cX12_readCar 46 = .ok (.aload_n 0, 1) := by decide +kernel
theorem dX12_readCar_47 : decode cX12_readCar 47 = .ok (.getfield 83, 3) := by decide +kernel
theorem dX12_readCar_50 : decode cX12_readCar 50 = .ok (.iload_n 1, 1) := by decide +kernel
theorem dX12_readCar_51 : decode cX12_readCar 51 = .ok (.aload_n 0, 1) := by decide +kernel
theorem dX12_readCar_52 : decode cX12_readCar 52 = .ok (.ldc2_w 282, 3) := by decide +kernel
theorem dX12_readCar_55 : decode cX12_readCar 55 = .ok (.iconst 0, 1) := by decide +kernel
theorem dX12_readCar_56 : decode cX12_readCar 56 = .ok (.bipush 59, 2) := by decide +kernel
theorem dX12_readCar_58 : decode cX12_readCar 58 = .ok (.invokevirtual 434, 3) := by decide +kernel
theorem dX12_readCar_61 : decode cX12_readCar 61 = .ok (.iastore, 1) := by decide +kernel
theorem dX12_readCar_62 : decode cX12_readCar 62 = .ok (.aload_n 0, 1) := by decide +kernel
theorem dX12_readCar_63 : decode cX12_readCar 63 = .ok (.getfield 86, 3) := by decide +kernel
theorem dX12_readCar_66 : decode cX12_readCar 66 = .ok (.iload_n 1, 1) := by decide +kernel
theorem dX12_readCar_67 : decode cX12_readCar 67 = .ok (.aload_n 0, 1) := by decide +kernel
theorem dX12_readCar_68 : decode cX12_readCar 68 = .ok (.ldc2_w 310, 3) := by decide +kernel
theorem dX12_readCar_71 : decode cX12_readCar 71 = .ok (.iconst 1, 1) := by decide +kernel
theorem dX12_readCar_72 : decode cX12_readCar 72 = .ok (.bipush 99, 2) := by decide +kernel
theorem dX12_readCar_74 : decode cX12_readCar 74 = .ok (.invokevirtual 434, 3) := by decide +kernel
theorem dX12_readCar_77 : decode cX12_readCar 77 = .ok (.iastore, 1) := by decide +kernel
theorem dX12_readCar_78 : decode cX12_readCar 78 = .ok (.aload_n 0, 1) := by decide +kernel
theorem dX12_readCar_79 : decode cX12_readCar 79 = .ok (.getfield 24, 3) := by decide +kernel
theorem dX12_readCar_82 : decode cX12_readCar 82 = .ok (.aload_n 0, 1) := by decide +kernel
theorem dX12_readCar_83 : decode cX12_readCar 83 = .ok (.getfield 377, 3) := by decide +kernel
theorem dX12_readCar_86 : decode cX12_readCar 86 = .ok (.dup2, 1) := by decide +kernel
theorem dX12_readCar_87 : decode cX12_readCar 87 = .ok (.iaload, 1) := by decide +kernel
theorem dX12_readCar_88 : decode cX12_readCar 88 = .ok (.iconst 1, 1) := by decide +kernel
theorem dX12_readCar_89 : decode cX12_readCar 89 = .ok (.iadd, 1) := by decide +kernel
theorem dX12_readCar_90 : decode cX12_readCar 90 = .ok (.iastore, 1) := by decide +kernel
theorem dX12_readCar_91 : decode cX12_readCar 91 = .ok (.return_, 1) := by decide +kernel
theorem dX12_readCross_0 : decode cX12_readCross 0 = .ok (.iconst 4, 1) := by decide +kernel
theorem dX12_readCross_1 : decode cX12_readCross 1 = .ok (.aload_n 0, 1) := by decide +kernel
theorem dX12_readCross_2 : decode cX12_readCross 2 = .ok (.getfield 377, 3) := by decide +kernel
theorem dX12_readCross_5 : decode cX12_readCross 5 = .ok (.imul, 1) := by decide +kernel
theorem dX12_readCross_6 : decode cX12_readCross 6 = .ok (.aload_n 0, 1) := by decide +kernel
theorem dX12_readCross_7 : decode cX12_readCross 7 = .ok (.getfield 95, 3) := by decide +kernel
theorem dX12_readCross_10 : decode cX12_readCross 10 = .ok (.aload_n 0, 1) := by decide +kernel
theorem dX12_readCross_11 : decode cX12_readCross 11 = .ok (.getfield 377, 3) := by decide +kernel
theorem dX12_readCross_14 : decode cX12_readCross 14 = .ok (.iaload, 1) := by decide +kernel
theorem dX12_readCross_15 : decode cX12_readCross 15 = .ok (.iadd, 1) := by decide +kernel
theorem dX12_readCross_16 : decode cX12_readCross 16 = .ok (.istore_n 1, 1) := by decide +kernel
theorem dX12_readCross_17 : decode cX12_readCross 17 = .ok (.iconst 4, 1) := by decide +kernel
theorem dX12_readCross_18 : decode cX12_readCross 18 = .ok (.aload_n 0, 1) := by decide +kernel
theorem dX12_readCross_19 : decode cX12_readCross 19 = .ok (.getfield 377, 3) := by decide +kernel
theorem dX12_readCross_22 : decode cX12_readCross 22 = .ok (.imul, 1) := by decide +kernel
theorem dX12_readCross_23 : decode cX12_readCross 23 = .ok (.istore_n 2, 1) := by decide +kernel
theorem dX12_readCross_24 : decode cX12_readCross 24 = .ok (.iload_n 2, 1) := by decide +kernel
theorem dX12_readCross_25 : decode cX12_readCross 25 = .ok (.iload_n 1, 1) := by decide +kernel
theorem dX12_readCross_26 : decode cX12_readCross 26 = .ok (.if_icmp .ge 39, 3) := by decide +kernel
theorem dX12_readCross_29 : decode cX12_readCross 29 = .ok (.aload_n 0, 1) := by decide +kernel
theorem dX12_readCross_30 : decode cX12_readCross 30 = .ok (.getfield 336, 3) := by decide +kernel
theorem dX12_readCross_33 : decode cX12_readCross 33 = .ok (.iconst 4, 1) := by decide +kernel
theorem dX12_readCross_34 : decode cX12_readCross 34 = .ok (.if_icmp .ne 31, 3) := by decide +kernel
theorem dX12_readCross_37 : decode cX12_readCross 37 = .ok (.aload_n 0, 1) := by decide +kernel
theorem dX12_readCross_38 : decode cX12_readCross 38 = .ok (.getfield 110, 3) := by decide +kernel
theorem dX12_readCross_41 : decode cX12_readCross 41 = .ok (.iload_n 2, 1) := by decide +kernel
theorem dX12_readCross_42 : decode cX12_readCross 42 = .ok (.iaload, 1) := by decide +kernel
theorem dX12_readCross_43 : decode cX12_readCross 43 = .ok (.aload_n 0, 1) := by decide +kernel
theorem dX12_readCross_44 : decode cX12_readCross 44 = .ok (.getfield 354, 3) := by decide +kernel
theorem dX12_readCross_47 : decode cX12_readCross 47 = .ok (.if_icmp .ne 12, 3) := by decide +kernel
theorem dX12_readCross_50 : decode cX12_readCross 50 = .ok (.aload_n 0, 1) := by decide +kernel
theorem dX12_readCross_51 : decode cX12_readCross 51 = .ok (.iconst 3, 1) := by decide +kernel
theorem dX12_readCross_52 : decode cX12_readCross 52 = .ok (.aload_n 0, 1) := by decide +kernel
theorem dX12_readCross_53 : decode cX12_readCross 53 = .ok (.getfield 329, 3) := by decide +kernel
theorem dX12_readCross_56 : decode cX12_readCross 56 = .ok (.invokevirtual 360, 3) := by decide +kernel
theorem dX12_readCross_59 : decode cX12_readCross 59 = .ok (.iinc 2 1, 3) := by decide +kernel
theorem dX12_readCross_62 : decode cX12_readCross 62 = .ok (.goto (-38), 3) := by decide +kernel
theorem dX12_readCross_65 : decode cX12_readCross 65 = .ok (.aload_n 0, 1) := by decide +kernel
theorem dX12_readCross_66 : decode cX12_readCross 66 = .ok (.getfield 110, 3) := by decide +kernel
theorem dX12_readCross_69 : decode cX12_readCross 69 = .ok (.iload_n 1, 1) := by decide +kernel
theorem dX12_readCross_70 : decode cX12_readCross 70 = .ok (.aload_n 0, 1) := by decide +kernel
theorem dX12_readCross_71 : decode cX12_readCross 71 = .ok (.iconst 0, 1) := by decide +kernel
theorem dX12_readCross_72 : decode cX12_readCross 72 = .ok (.bipush 59, 2) := by decide +kernel
theorem dX12_readCross_74 : decode cX12_readCross 74 = .ok (.invokevirtual 418, 3) := by decide +kernel
theorem dX12_readCross_77 : decode cX12_readCross 77 = .ok (.iastore, 1) := by decide +kernel
theorem dX12_readCross_78 : decode cX12_readCross 78 = .ok (.aload_n 0, 1) := by decide +kernel
theorem dX12_readCross_79 : decode cX12_readCross 79 = .ok (.aload_n 0, 1) := by decide +kernel
theorem dX12_readCross_80 : decode cX12_readCross 80 = .ok (.ldc2_w 294, 3) := by decide +kernel
theorem dX12_readCross_83 : decode cX12_readCross 83 = .ok (.invokevirtual 395, 3) := by decide +kernel
theorem dX12_readCross_86 : decode cX12_readCross 86 = .ok (.invokevirtual 426, 3) := by decide +kernel
theorem dX12_readCross_89 : decode cX12_readCross 89 = .ok (.aload_n 0, 1) := by decide +kernel
theorem dX12_readCross_90 : decode cX12_readCross 90 = .ok (.getfield 113, 3) := by decide +kernel
theorem dX12_readCross_93 : decode cX12_readCross 93 = .ok (.iload_n 1, 1) := by decide +kernel
theorem dX12_readCross_94 : decode cX12_readCross 94 = .ok (.aload_n 0, 1) := by decide +kernel
theorem dX12_readCross_95 : decode cX12_readCross 95 = .ok (.getfield 380, 3) := by decide +kernel
theorem dX12_readCross_98 : decode cX12_readCross 98 = .ok (.iastore, 1) := by decide +kernel
theorem dX12_readCross_99 : decode cX12_readCross 99 = .ok (.aload_n 0, 1) := by decide +kernel
theorem dX12_readCross_100 : decode cX12_readCross 100 = .ok (.invokevirtual 364, 3) := by decide +kernel
theorem dX12_readCross_103 : decode cX12_readCross 103 = .ok (.ifCond .eq 7, 3) := by decide +kernel
theorem dX12_readCross_106 : decode cX12_readCross 106 = .ok (.aload_n 0, 1) := by decide +kernel
theorem dX12_readCross_107 : decode cX12_readCross 107 = .ok (.invokevirtual 447, 3) := by decide +kernel
theorem dX12_readCross_110 : decode cX12_readCross 110 = .ok (.aload_n 0, 1) := by decide +kernel
theorem dX12_readCross_111 : decode cX12_readCross 111 = .ok (.getfield 116, 3) := by decide +kernel
theorem dX12_readCross_114 : decode cX12_readCross 114 = .ok (.iload_n 1, 1) := by decide +kernel
theorem dX12_readCross_115 : decode cX12_readCross 115 = .ok (.aload_n 0, 1) := by decide +kernel
theorem dX12_readCross_116 : decode cX12_readCross 116 = .ok (.getfield 380, 3) := by decide +kernel
theorem dX12_readCross_119 : decode cX12_readCross 119 = .ok (.iastore, 1) := by decide +kernel
theorem dX12_readCross_120 : decode cX12_readCross 120 = .ok (.aload_n 0, 1) := by decide +kernel
theorem dX12_readCross_121 : decode cX12_readCross 121 = .ok (.getfield 95, 3) := by decide +kernel
theorem dX12_readCross_124 : decode cX12_readCross 124 = .ok (.aload_n 0, 1) := by decide +kernel
theorem dX12_readCross_125 : decode cX12_readCross 125 = .ok (.getfield 377, 3) := by decide +kernel
theorem dX12_readCross_128 : decode cX12_readCross 128 = .ok (.dup2, 1) := by decide +kernel
theorem dX12_readCross_129 : decode cX12_readCross 129 = .ok (.iaload, 1) := by decide +kernel
theorem dX12_readCross_130 : decode cX12_readCross 130 = .ok (.iconst 1, 1) := by decide +kernel
theorem dX12_readCross_131 : decode cX12_readCross 131 = .ok (.iadd, 1) := by decide +kernel
theorem dX12_readCross_132 : decode cX12_readCross 132 = .ok (.iastore, 1) := by decide +kernel
theorem dX12_readCross_133 : decode cX12_readCross 133 = .ok (.return_, 1) := by decide +kernel
theorem dX12_readGrade_0 : decode cX12_readGrade 0 = .ok (.aload_n 0, 1) := by decide +kernel
theorem dX12_readGrade_1 : decode cX12_readGrade 1 = .ok (.iconst 0, 1) := by decide +kernel
theorem dX12_readGrade_2 : decode cX12_readGrade 2 = .ok (.bipush 59, 2) := by decide +kernel
theorem dX12_readGrade_4 : decode cX12_readGrade 4 = .ok (.invokevirtual 418, 3) := by decide +kernel
theorem dX12_readGrade_7 : decode cX12_readGrade 7 = .ok (.istore_n 1, 1) := by decide +kernel
theorem dX12_readGrade_8 : decode cX12_readGrade 8 = .ok (.aload_n 0, 1) := by decide +kernel
theorem dX12_readGrade_9 : decode cX12_readGrade 9 = .ok (.aload_n 0, 1) := by decide +kernel
theorem dX12_readGrade_10 : decode cX12_readGrade 10 = .ok (.ldc2_w 274, 3) := by decide +kernel
theorem dX12_readGrade_13 : decode cX12_readGrade 13 = .ok (.invokevirtual 395, 3) := by decide +kernel
theorem dX12_readGrade_16 : decode cX12_readGrade 16 = .ok (.invokevirtual 426, 3) := by decide +kernel
theorem dX12_readGrade_19 : decode cX12_readGrade 19 = .ok (.aload_n 0, 1) := by decide +kernel
theorem dX12_readGrade_20 : decode cX12_readGrade 20 = .ok (.iload_n 1, 1) := by decide +kernel
theorem dX12_readGrade_21 : decode cX12_readGrade 21 = .ok (.bipush 59, 2) := by decide +kernel
theorem dX12_readGrade_23 : decode cX12_readGrade 23 = .ok (.invokevirtual 418, 3) := by decide +kernel
theorem dX12_readGrade_26 : decode cX12_readGrade 26 = .ok (.istore_n 2, 1) := by decide +kernel
theorem dX12_readGrade_27 : decode cX12_readGrade 27 = .ok (.aload_n 0, 1) := by decide +kernel
theorem dX12_readGrade_28 : decode cX12_readGrade 28 = .ok (.bipush 9, 2) := by decide +kernel
theorem dX12_readGrade_30 : decode cX12_readGrade 30 = .ok (.invokevirtual 500, 3) := by decide +kernel
theorem dX12_readGrade_33 : decode cX12_readGrade 33 = .ok (.istore_n 3, 1) := by decide +kernel
theorem dX12_readGrade_34 : decode cX12_readGrade 34 = .ok (.iload_n 1, 1) := by decide +kernel
theorem dX12_readGrade_35 : decode cX12_readGrade 35 = .ok (.istore 4, 2) := by decide +kernel
theorem dX12_readGrade_37 : decode cX12_readGrade 37 = .ok (.iload 4, 2) := by decide +kernel
theorem dX12_readGrade_39 : decode cX12_readGrade 39 = .ok (.iload_n 2, 1) := by decide +kernel
theorem dX12_readGrade_40 : decode cX12_readGrade 40 = .ok (.if_icmp .gt 32, 3) := by decide +kernel
theorem dX12_readGrade_43 : decode cX12_readGrade 43 = .ok (.aload_n 0, 1) := by decide +kernel
theorem dX12_readGrade_44 : decode cX12_readGrade 44 = .ok (.invokevirtual 364, 3) := by decide +kernel
theorem dX12_readGrade_47 : decode cX12_readGrade 47 = .ok (.ifCond .eq 25, 3) := by decide +kernel
theorem dX12_readGrade_50 : decode cX12_readGrade 50 = .ok (.aload_n 0, 1) := by decide +kernel
theorem dX12_readGrade_51 : decode cX12_readGrade 51 = .ok (.getfield 74, 3) := by decide +kernel
theorem dX12_readGrade_54 : decode cX12_readGrade 54 = .ok (.bipush 60, 2) := by decide +kernel
theorem dX12_readGrade_56 : decode cX12_readGrade 56 = .ok (.aload_n 0, 1) := by decide +kernel
theorem dX12_readGrade_57 : decode cX12_readGrade 57 = .ok (.getfield 377, 3) := by decide +kernel
theorem dX12_readGrade_60 : decode cX12_readGrade 60 = .ok (.imul, 1) := by decide +kernel
theorem dX12_readGrade_61 : decode cX12_readGrade 61 = .ok (.iload 4, 2) := by decide +kernel
theorem dX12_readGrade_63 : decode cX12_readGrade 63 = .ok (.iadd, 1) := by decide +kernel
theorem dX12_readGrade_64 : decode cX12_readGrade 64 = .ok (.iload_n 3, 1) := by decide +kernel
theorem dX12_readGrade_65 : decode cX12_readGrade 65 = .ok (.iastore, 1) := by decide +kernel
theorem dX12_readGrade_66 : decode cX12_readGrade 66 = .ok (.iinc 4 1, 3) := by decide +kernel
theorem dX12_readGrade_69 : decode cX12_readGrade 69 = .ok (.goto (-32), 3) := by decide +kernel
theorem dX12_readGrade_72 : decode cX12_readGrade 72 = .ok (.aload_n 0, 1) := by decide +kernel
theorem dX12_readGrade_73 : decode cX12_readGrade 73 = .ok (.getfield 27, 3) := by decide +kernel
theorem dX12_readGrade_76 : decode cX12_readGrade 76 = .ok (.aload_n 0, 1) := by decide +kernel
theorem dX12_readGrade_77 : decode cX12_readGrade 77 = .ok (.getfield 377, 3) := by decide +kernel
theorem dX12_readGrade_80 : decode cX12_readGrade 80 = .ok (.dup2, 1) := by decide +kernel
theorem dX12_readGrade_81 : decode cX12_readGrade 81 = .ok (.iaload, 1) := by decide +kernel
theorem dX12_readGrade_82 : decode cX12_readGrade 82 = .ok (.iconst 1, 1) := by decide +kernel
theorem dX12_readGrade_83 : decode cX12_readGrade 83 = .ok (.iadd, 1) := by decide +kernel
theorem dX12_readGrade_84 : decode cX12_readGrade 84 = .ok (.iastore, 1) := by decide +kernel
theorem dX12_readGrade_85 : decode cX12_readGrade 85 = .ok (.return_, 1) := by decide +kernel
theorem dX12_readGrown_0 : decode cX12_readGrown 0 = .ok (.lload_n 1, 1) := by decide +kernel
theorem dX12_readGrown_1 : decode cX12_readGrown 1 = .ok (.ldc2_w 284, 3) := by decide +kernel
theorem dX12_readGrown_4 : decode cX12_readGrown 4 = .ok (.lcmp, 1) := by decide +kernel
theorem dX12_readGrown_5 : decode cX12_readGrown 5 = .ok (.ifCond .ne 7, 3) := by decide +kernel
theorem dX12_readGrown_8 : decode cX12_readGrown 8 = .ok (.aload_n 0, 1) := by decide +kernel
theorem dX12_readGrown_9 : decode cX12_readGrown 9 = .ok (.invokevirtual 438, 3) := by decide +kernel
theorem dX12_readGrown_12 : decode cX12_readGrown 12 = .ok (.lload_n 1, 1) := by decide +kernel
theorem dX12_readGrown_13 : decode cX12_readGrown 13 = .ok (.ldc2_w 290, 3) := by decide +kernel
theorem dX12_readGrown_16 : decode cX12_readGrown 16 = .ok (.lcmp, 1) := by decide +kernel
theorem dX12_readGrown_17 : decode cX12_readGrown 17 = .ok (.ifCond .ne 19, 3) := by decide +kernel
theorem dX12_readGrown_20 : decode cX12_readGrown 20 = .ok (.aload_n 0, 1) := by decide +kernel
theorem dX12_readGrown_21 : decode cX12_readGrown 21 = .ok (.getfield 92, 3) := by decide +kernel
theorem dX12_readGrown_24 : decode cX12_readGrown 24 = .ok (.aload_n 0, 1) := by decide +kernel
theorem dX12_readGrown_25 : decode cX12_readGrown 25 = .ok (.getfield 377, 3) := by decide +kernel
theorem dX12_readGrown_28 : decode cX12_readGrown 28 = .ok (.aload_n 0, 1) := by decide +kernel
theorem dX12_readGrown_29 : decode cX12_readGrown 29 = .ok (.iconst 1, 1) := by decide +kernel
theorem dX12_readGrown_30 : decode cX12_readGrown 30 = .ok (.bipush 99, 2) := by decide +kernel
theorem dX12_readGrown_32 : decode cX12_readGrown 32 = .ok (.invokevirtual 418, 3) := by decide +kernel
theorem dX12_readGrown_35 : decode cX12_readGrown 35 = .ok (.iastore, 1) := by decide +kernel
theorem dX12_readGrown_36 : decode cX12_readGrown 36 = .ok (.lload_n 1, 1) := by decide +kernel
theorem dX12_readGrown_37 : decode cX12_readGrown 37 = .ok (.ldc2_w 292, 3) := by decide +kernel
theorem dX12_readGrown_40 : decode cX12_readGrown 40 = .ok (.lcmp, 1) := by decide +kernel
theorem dX12_readGrown_41 : decode cX12_readGrown 41 = .ok (.ifCond .ne 7, 3) := by decide +kernel
theorem dX12_readGrown_44 : decode cX12_readGrown 44 = .ok (.aload_n 0, 1) := by decide +kernel
theorem dX12_readGrown_45 : decode cX12_readGrown 45 = .ok (.invokevirtual 441, 3) := by decide +kernel
theorem dX12_readGrown_48 : decode cX12_readGrown 48 = .ok (.return_, 1) := by decide +kernel
theorem dX12_readLine_0 : decode cX12_readLine 0 = .ok (.aload_n 0, 1) := by decide +kernel
theorem dX12_readLine_1 : decode cX12_readLine 1 = .ok (.ldc2_w 266, 3) := by decide +kernel
theorem dX12_readLine_4 : decode cX12_readLine 4 = .ok (.invokevirtual 395, 3) := by decide +kernel
theorem dX12_readLine_7 : decode cX12_readLine 7 = .ok (.istore_n 1, 1) := by decide +kernel
theorem dX12_readLine_8 : decode cX12_readLine 8 = .ok (.aload_n 0, 1) := by decide +kernel
theorem dX12_readLine_9 : decode cX12_readLine 9 = .ok (.ldc2_w 278, 3) := by decide +kernel
theorem dX12_readLine_12 : decode cX12_readLine 12 = .ok (.invokevirtual 395, 3) := by decide +kernel
theorem dX12_readLine_15 : decode cX12_readLine 15 = .ok (.istore_n 2, 1) := by decide +kernel
theorem dX12_readLine_16 : decode cX12_readLine 16 = .ok (.aload_n 0, 1) := by decide +kernel
theorem dX12_readLine_17 : decode cX12_readLine 17 = .ok (.ldc2_w 280, 3) := by decide +kernel
theorem dX12_readLine_20 : decode cX12_readLine 20 = .ok (.invokevirtual 395, 3) := by decide +kernel
theorem dX12_readLine_23 : decode cX12_readLine 23 = .ok (.istore_n 3, 1) := by decide +kernel
theorem dX12_readLine_24 : decode cX12_readLine 24 = .ok (.aload_n 0, 1) := by decide +kernel
theorem dX12_readLine_25 : decode cX12_readLine 25 = .ok (.ldc2_w 322, 3) := by decide +kernel
theorem dX12_readLine_28 : decode cX12_readLine 28 = .ok (.invokevirtual 395, 3) := by decide +kernel
theorem dX12_readLine_31 : decode cX12_readLine 31 = .ok (.istore 4, 2) := by decide +kernel
theorem dX12_readLine_33 : decode cX12_readLine 33 = .ok (.aload_n 0, 1) := by decide +kernel
theorem dX12_readLine_34 : decode cX12_readLine 34 = .ok (.ldc2_w 324, 3) := by decide +kernel
theorem dX12_readLine_37 : decode cX12_readLine 37 = .ok (.invokevirtual 395, 3) := by decide +kernel
theorem dX12_readLine_40 : decode cX12_readLine 40 = .ok (.istore 5, 2) := by decide +kernel
theorem dX12_readLine_42 : decode cX12_readLine 42 = .ok (.aload_n 0, 1) := by decide +kernel
theorem dX12_readLine_43 : decode cX12_readLine 43 = .ok (.invokevirtual 398, 3) := by decide +kernel
theorem dX12_readLine_46 : decode cX12_readLine 46 = .ok (.istore 6, 2) := by decide +kernel
theorem dX12_readLine_48 : decode cX12_readLine 48 = .ok (.aload_n 0, 1) := by decide +kernel
theorem dX12_readLine_49 : decode cX12_readLine 49 = .ok (.ldc2_w 284, 3) := by decide +kernel
theorem dX12_readLine_52 : decode cX12_readLine 52 = .ok (.invokevirtual 395, 3) := by decide +kernel
theorem dX12_readLine_55 : decode cX12_readLine 55 = .ok (.ifCond .ne 23, 3) := by decide +kernel
theorem dX12_readLine_58 : decode cX12_readLine 58 = .ok (.aload_n 0, 1) := by decide +kernel
theorem dX12_readLine_59 : decode cX12_readLine 59 = .ok (.ldc2_w 290, 3) := by decide +kernel
theorem dX12_readLine_62 : decode cX12_readLine 62 = .ok (.invokevirtual 395, 3) := by decide +kernel
theorem dX12_readLine_65 : decode cX12_readLine 65 = .ok (.ifCond .ne 13, 3) := by decide +kernel
theorem dX12_readLine_68 : decode cX12_readLine 68 = .ok (.aload_n 0, 1) := by decide +kernel
theorem dX12_readLine_69 : decode cX12_readLine 69 = .ok (.ldc2_w 292, 3) := by decide +kernel
theorem dX12_readLine_72 : decode cX12_readLine 72 = .ok (.invokevirtual 395, 3) := by decide +kernel
theorem dX12_readLine_75 : decode cX12_readLine 75 = .ok (.ifCond .eq 7, 3) := by decide +kernel
theorem dX12_readLine_78 : decode cX12_readLine 78 = .ok (.iconst 1, 1) := by decide +kernel
theorem dX12_readLine_79 : decode cX12_readLine 79 = .ok (.goto 4, 3) := by decide +kernel
theorem dX12_readLine_82 : decode cX12_readLine 82 = .ok (.iconst 0, 1) := by decide +kernel
theorem dX12_readLine_83 : decode cX12_readLine 83 = .ok (.istore 7, 2) := by decide +kernel
theorem dX12_readLine_85 : decode cX12_readLine 85 = .ok (.aload_n 0, 1) := by decide +kernel
theorem dX12_readLine_86 : decode cX12_readLine 86 = .ok (.getfield 343, 3) := by decide +kernel
theorem dX12_readLine_89 : decode cX12_readLine 89 = .ok (.lstore 8, 2) := by decide +kernel
theorem dX12_readLine_91 : decode cX12_readLine 91 = .ok (.iload_n 1, 1) := by decide +kernel
theorem dX12_readLine_92 : decode cX12_readLine 92 = .ok (.ifCond .ne 31, 3) := by decide +kernel
theorem dX12_readLine_95 : decode cX12_readLine 95 = .ok (.iload_n 2, 1) := by decide +kernel
theorem dX12_readLine_96 : decode cX12_readLine 96 = .ok (.ifCond .ne 27, 3) := by decide +kernel
theorem dX12_readLine_99 : decode cX12_readLine 99 = .ok (.iload_n 3, 1) := by decide +kernel
theorem dX12_readLine_100 : decode cX12_readLine 100 = .ok (.ifCond .ne 23, 3) := by decide +kernel
theorem dX12_readLine_103 : decode cX12_readLine 103 = .ok (.iload 4, 2) := by decide +kernel
theorem dX12_readLine_105 : decode cX12_readLine 105 = .ok (.ifCond .ne 18, 3) := by decide +kernel
theorem dX12_readLine_108 : decode cX12_readLine 108 = .ok (.iload 5, 2) := by decide +kernel
theorem dX12_readLine_110 : decode cX12_readLine 110 = .ok (.ifCond .ne 13, 3) := by decide +kernel
theorem dX12_readLine_113 : decode cX12_readLine 113 = .ok (.iload 6, 2) := by decide +kernel
theorem dX12_readLine_115 : decode cX12_readLine 115 = .ok (.ifCond .ge 8, 3) := by decide +kernel
theorem dX12_readLine_118 : decode cX12_readLine 118 = .ok (.iload 7, 2) := by decide +kernel
theorem dX12_readLine_120 : decode cX12_readLine 120 = .ok (.ifCond .eq 15, 3) := by decide +kernel
theorem dX12_readLine_123 : decode cX12_readLine 123 = .ok (.iload 7, 2) := by decide +kernel
theorem dX12_readLine_125 : decode cX12_readLine 125 = .ok (.ifCond .eq 14, 3) := by decide +kernel
theorem dX12_readLine_128 : decode cX12_readLine 128 = .ok (.aload_n 0, 1) := by decide +kernel
theorem dX12_readLine_129 : decode cX12_readLine 129 = .ok (.invokevirtual 402, 3) := by decide +kernel
theorem dX12_readLine_132 : decode cX12_readLine 132 = .ok (.ifCond .eq 7, 3) := by decide +kernel
theorem dX12_readLine_135 : decode cX12_readLine 135 = .ok (.aload_n 0, 1) := by decide +kernel
theorem dX12_readLine_136 : decode cX12_readLine 136 = .ok (.invokevirtual 371, 3) := by decide +kernel
theorem dX12_readLine_139 : decode cX12_readLine 139 = .ok (.iload_n 1, 1) := by decide +kernel
theorem dX12_readLine_140 : decode cX12_readLine 140 = .ok (.ifCond .eq 16, 3) := by decide +kernel
theorem dX12_readLine_143 : decode cX12_readLine 143 = .ok (.aload_n 0, 1) := by decide +kernel
theorem dX12_readLine_144 : decode cX12_readLine 144 = .ok (.getfield 20, 3) := by decide +kernel
theorem dX12_readLine_147 : decode cX12_readLine 147 = .ok (.aload_n 0, 1) := by decide +kernel
theorem dX12_readLine_148 : decode cX12_readLine 148 = .ok (.getfield 377, 3) := by decide +kernel
theorem dX12_readLine_151 : decode cX12_readLine 151 = .ok (.iaload, 1) := by decide +kernel
theorem dX12_readLine_152 : decode cX12_readLine 152 = .ok (.iconst 3, 1) := by decide +kernel
theorem dX12_readLine_153 : decode cX12_readLine 153 = .ok (.if_icmp .eq 91, 3) := by decide +kernel
theorem dX12_readLine_156 : decode cX12_readLine 156 = .ok (.iload_n 2, 1) := by decide +kernel
theorem dX12_readLine_157 : decode cX12_readLine 157 = .ok (.ifCond .eq 17, 3) := by decide +kernel
theorem dX12_readLine_160 : decode cX12_readLine 160 = .ok (.aload_n 0, 1) := by decide +kernel
theorem dX12_readLine_161 : decode cX12_readLine 161 = .ok (.getfield 27, 3) := by decide +kernel
theorem dX12_readLine_164 : decode cX12_readLine 164 = .ok (.aload_n 0, 1) := by decide +kernel
theorem dX12_readLine_165 : decode cX12_readLine 165 = .ok (.getfield 377, 3) := by decide +kernel
theorem dX12_readLine_168 : decode cX12_readLine 168 = .ok (.iaload, 1) := by decide +kernel
theorem dX12_readLine_169 : decode cX12_readLine 169 = .ok (.bipush 12, 2) := by decide +kernel
theorem dX12_readLine_171 : decode cX12_readLine 171 = .ok (.if_icmp .eq 73, 3) := by decide +kernel
theorem dX12_readLine_174 : decode cX12_readLine 174 = .ok (.iload_n 3, 1) := by decide +kernel
theorem dX12_readLine_175 : decode cX12_readLine 175 = .ok (.ifCond .eq 16, 3) := by decide +kernel
theorem dX12_readLine_178 : decode cX12_readLine 178 = .ok (.aload_n 0, 1) := by decide +kernel
theorem dX12_readLine_179 : decode cX12_readLine 179 = .ok (.getfield 24, 3) := by decide +kernel
theorem dX12_readLine_182 : decode cX12_readLine 182 = .ok (.aload_n 0, 1) := by decide +kernel
theorem dX12_readLine_183 : decode cX12_readLine 183 = .ok (.getfield 377, 3) := by decide +kernel
theorem dX12_readLine_186 : decode cX12_readLine 186 = .ok (.iaload, 1) := by decide +kernel
theorem dX12_readLine_187 : decode cX12_readLine 187 = .ok (.iconst 5, 1) := by decide +kernel
theorem dX12_readLine_188 : decode cX12_readLine 188 = .ok (.if_icmp .eq 56, 3) := by decide +kernel
theorem dX12_readLine_191 : decode cX12_readLine 191 = .ok (.iload 6, 2) := by decide +kernel
theorem dX12_readLine_193 : decode cX12_readLine 193 = .ok (.ifCond .lt 17, 3) := by decide +kernel
theorem dX12_readLine_196 : decode cX12_readLine 196 = .ok (.aload_n 0, 1) := by decide +kernel
theorem dX12_readLine_197 : decode cX12_readLine 197 = .ok (.getfield 30, 3) := by decide +kernel
theorem dX12_readLine_200 : decode cX12_readLine 200 = .ok (.aload_n 0, 1) := by decide +kernel
theorem dX12_readLine_201 : decode cX12_readLine 201 = .ok (.getfield 377, 3) := by decide +kernel
theorem dX12_readLine_204 : decode cX12_readLine 204 = .ok (.iaload, 1) := by decide +kernel
theorem dX12_readLine_205 : decode cX12_readLine 205 = .ok (.bipush 24, 2) := by decide +kernel
theorem dX12_readLine_207 : decode cX12_readLine 207 = .ok (.if_icmp .eq 37, 3) := by decide +kernel
theorem dX12_readLine_210 : decode cX12_readLine 210 = .ok (.iload 4, 2) := by decide +kernel
theorem dX12_readLine_212 : decode cX12_readLine 212 = .ok (.ifCond .eq 15, 3) := by decide +kernel
theorem dX12_readLine_215 : decode cX12_readLine 215 = .ok (.aload_n 0, 1) := by decide +kernel
theorem dX12_readLine_216 : decode cX12_readLine 216 = .ok (.getfield 42, 3) := by decide +kernel
theorem dX12_readLine_219 : decode cX12_readLine 219 = .ok (.aload_n 0, 1) := by decide +kernel
theorem dX12_readLine_220 : decode cX12_readLine 220 = .ok (.getfield 377, 3) := by decide +kernel
theorem dX12_readLine_223 : decode cX12_readLine 223 = .ok (.baload, 1) := by decide +kernel
theorem dX12_readLine_224 : decode cX12_readLine 224 = .ok (.ifCond .ne 20, 3) := by decide +kernel
theorem dX12_readLine_227 : decode cX12_readLine 227 = .ok (.iload 5, 2) := by decide +kernel
theorem dX12_readLine_229 : decode cX12_readLine 229 = .ok (.ifCond .eq 19, 3) := by decide +kernel
theorem dX12_readLine_232 : decode cX12_readLine 232 = .ok (.aload_n 0, 1) := by decide +kernel
theorem dX12_readLine_233 : decode cX12_readLine 233 = .ok (.getfield 46, 3) := by decide +kernel
theorem dX12_readLine_236 : decode cX12_readLine 236 = .ok (.aload_n 0, 1) := by decide +kernel
theorem dX12_readLine_237 : decode cX12_readLine 237 = .ok (.getfield 377, 3) := by decide +kernel
theorem dX12_readLine_240 : decode cX12_readLine 240 = .ok (.baload, 1) := by decide +kernel
theorem dX12_readLine_241 : decode cX12_readLine 241 = .ok (.ifCond .eq 7, 3) := by decide +kernel
theorem dX12_readLine_244 : decode cX12_readLine 244 = .ok (.aload_n 0, 1) := by decide +kernel
theorem dX12_readLine_245 : decode cX12_readLine 245 = .ok (.invokevirtual 371, 3) := by decide +kernel
theorem dX12_readLine_248 : decode cX12_readLine 248 = .ok (.aload_n 0, 1) := by decide +kernel
theorem dX12_readLine_249 : decode cX12_readLine 249 = .ok (.invokevirtual 364, 3) := by decide +kernel
theorem dX12_readLine_252 : decode cX12_readLine 252 = .ok (.ifCond .ne 4, 3) := by decide +kernel
theorem dX12_readLine_255 : decode cX12_readLine 255 = .ok (.return_, 1) := by decide +kernel
theorem dX12_readLine_256 : decode cX12_readLine 256 = .ok (.aload_n 0, 1) := by decide +kernel
theorem dX12_readLine_257 : decode cX12_readLine 257 = .ok (.invokevirtual 368, 3) := by decide +kernel
theorem dX12_readLine_260 : decode cX12_readLine 260 = .ok (.iload_n 1, 1) := by decide +kernel
theorem dX12_readLine_261 : decode cX12_readLine 261 = .ok (.ifCond .eq 7, 3) := by decide +kernel
theorem dX12_readLine_264 : decode cX12_readLine 264 = .ok (.aload_n 0, 1) := by decide +kernel
theorem dX12_readLine_265 : decode cX12_readLine 265 = .ok (.invokevirtual 405, 3) := by decide +kernel
theorem dX12_readLine_268 : decode cX12_readLine 268 = .ok (.iload_n 2, 1) := by decide +kernel
theorem dX12_readLine_269 : decode cX12_readLine 269 = .ok (.ifCond .eq 7, 3) := by decide +kernel
theorem dX12_readLine_272 : decode cX12_readLine 272 = .ok (.aload_n 0, 1) := by decide +kernel
theorem dX12_readLine_273 : decode cX12_readLine 273 = .ok (.invokevirtual 408, 3) := by decide +kernel
theorem dX12_readLine_276 : decode cX12_readLine 276 = .ok (.iload_n 3, 1) := by decide +kernel
theorem dX12_readLine_277 : decode cX12_readLine 277 = .ok (.ifCond .eq 7, 3) := by decide +kernel
theorem dX12_readLine_280 : decode cX12_readLine 280 = .ok (.aload_n 0, 1) := by decide +kernel
theorem dX12_readLine_281 : decode cX12_readLine 281 = .ok (.invokevirtual 411, 3) := by decide +kernel
theorem dX12_readLine_284 : decode cX12_readLine 284 = .ok (.iload 6, 2) := by decide +kernel
theorem dX12_readLine_286 : decode cX12_readLine 286 = .ok (.ifCond .lt 9, 3) := by decide +kernel
theorem dX12_readLine_289 : decode cX12_readLine 289 = .ok (.aload_n 0, 1) := by decide +kernel
theorem dX12_readLine_290 : decode cX12_readLine 290 = .ok (.iload 6, 2) := by decide +kernel
theorem dX12_readLine_292 : decode cX12_readLine 292 = .ok (.invokevirtual 414, 3) := by decide +kernel
theorem dX12_readLine_295 : decode cX12_readLine 295 = .ok (.iload 4, 2) := by decide +kernel
theorem dX12_readLine_297 : decode cX12_readLine 297 = .ok (.ifCond .eq 19, 3) := by decide +kernel
theorem dX12_readLine_300 : decode cX12_readLine 300 = .ok (.aload_n 0, 1) := by decide +kernel
theorem dX12_readLine_301 : decode cX12_readLine 301 = .ok (.getfield 36, 3) := by decide +kernel
theorem dX12_readLine_304 : decode cX12_readLine 304 = .ok (.aload_n 0, 1) := by decide +kernel
theorem dX12_readLine_305 : decode cX12_readLine 305 = .ok (.getfield 377, 3) := by decide +kernel
theorem dX12_readLine_308 : decode cX12_readLine 308 = .ok (.aload_n 0, 1) := by decide +kernel
theorem dX12_readLine_309 : decode cX12_readLine 309 = .ok (.iconst 0, 1) := by decide +kernel
theorem dX12_readLine_310 : decode cX12_readLine 310 = .ok (.bipush 9, 2) := by decide +kernel
theorem dX12_readLine_312 : decode cX12_readLine 312 = .ok (.invokevirtual 418, 3) := by decide +kernel
theorem dX12_readLine_315 : decode cX12_readLine 315 = .ok (.iastore, 1) := by decide +kernel
theorem dX12_readLine_316 : decode cX12_readLine 316 = .ok (.iload 5, 2) := by decide +kernel
theorem dX12_readLine_318 : decode cX12_readLine 318 = .ok (.ifCond .eq 20, 3) := by decide +kernel
theorem dX12_readLine_321 : decode cX12_readLine 321 = .ok (.aload_n 0, 1) := by decide +kernel
theorem dX12_readLine_322 : decode cX12_readLine 322 = .ok (.getfield 39, 3) := by decide +kernel
theorem dX12_readLine_325 : decode cX12_readLine 325 = .ok (.aload_n 0, 1) := by decide +kernel
theorem dX12_readLine_326 : decode cX12_readLine 326 = .ok (.getfield 377, 3) := by decide +kernel
theorem dX12_readLine_329 : decode cX12_readLine 329 = .ok (.aload_n 0, 1) := by decide +kernel
theorem dX12_readLine_330 : decode cX12_readLine 330 = .ok (.iconst 1, 1) := by decide +kernel
theorem dX12_readLine_331 : decode cX12_readLine 331 = .ok (.sipush 9999, 3) := by decide +kernel
theorem dX12_readLine_334 : decode cX12_readLine 334 = .ok (.invokevirtual 418, 3) := by decide +kernel
theorem dX12_readLine_337 : decode cX12_readLine 337 = .ok (.iastore, 1) := by decide +kernel
theorem dX12_readLine_338 : decode cX12_readLine 338 = .ok (.iload 7, 2) := by decide +kernel
theorem dX12_readLine_340 : decode cX12_readLine 340 = .ok (.ifCond .eq 9, 3) := by decide +kernel
theorem dX12_readLine_343 : decode cX12_readLine 343 = .ok (.aload_n 0, 1) := by decide +kernel
theorem dX12_readLine_344 : decode cX12_readLine 344 = .ok (.lload 8, 2) := by decide +kernel
theorem dX12_readLine_346 : decode cX12_readLine 346 = .ok (.invokevirtual 422, 3) := by decide +kernel
theorem dX12_readLine_349 : decode cX12_readLine 349 = .ok (.aload_n 0, 1) := by decide +kernel
theorem dX12_readLine_350 : decode cX12_readLine 350 = .ok (.getfield 42, 3) := by decide +kernel
theorem dX12_readLine_353 : decode cX12_readLine 353 = .ok (.aload_n 0, 1) := by decide +kernel
theorem dX12_readLine_354 : decode cX12_readLine 354 = .ok (.getfield 377, 3) := by decide +kernel
theorem dX12_readLine_357 : decode cX12_readLine 357 = .ok (.aload_n 0, 1) := by decide +kernel
theorem dX12_readLine_358 : decode cX12_readLine 358 = .ok (.getfield 42, 3) := by decide +kernel
theorem dX12_readLine_361 : decode cX12_readLine 361 = .ok (.aload_n 0, 1) := by decide +kernel
theorem dX12_readLine_362 : decode cX12_readLine 362 = .ok (.getfield 377, 3) := by decide +kernel
theorem dX12_readLine_365 : decode cX12_readLine 365 = .ok (.baload, 1) := by decide +kernel
theorem dX12_readLine_366 : decode cX12_readLine 366 = .ok (.ifCond .ne 8, 3) := by decide +kernel
theorem dX12_readLine_369 : decode cX12_readLine 369 = .ok (.iload 4, 2) := by decide +kernel
theorem dX12_readLine_371 : decode cX12_readLine 371 = .ok (.ifCond .eq 7, 3) := by decide +kernel
theorem dX12_readLine_374 : decode cX12_readLine 374 = .ok (.iconst 1, 1) := by decide +kernel
theorem dX12_readLine_375 : decode cX12_readLine 375 = .ok (.goto 4, 3) := by decide +kernel
theorem dX12_readLine_378 : decode cX12_readLine 378 = .ok (.iconst 0, 1) := by decide +kernel
theorem dX12_readLine_379 : decode cX12_readLine 379 = .ok (.bastore, 1) := by decide +kernel
theorem dX12_readLine_380 : decode cX12_readLine 380 = .ok (.aload_n 0, 1) := by decide +kernel
theorem dX12_readLine_381 : decode cX12_readLine 381 = .ok (.getfield 46, 3) := by decide +kernel
theorem dX12_readLine_384 : decode cX12_readLine 384 = .ok (.aload_n 0, 1) := by decide +kernel
theorem dX12_readLine_385 : decode cX12_readLine 385 = .ok (.getfield 377, 3) := by decide +kernel
theorem dX12_readLine_388 : decode cX12_readLine 388 = .ok (.aload_n 0, 1) := by decide +kernel
theorem dX12_readLine_389 : decode cX12_readLine 389 = .ok (.getfield 46, 3) := by decide +kernel
theorem dX12_readLine_392 : decode cX12_readLine 392 = .ok (.aload_n 0, 1) := by decide +kernel
theorem dX12_readLine_393 : decode cX12_readLine 393 = .ok (.getfield 377, 3) := by decide +kernel
theorem dX12_readLine_396 : decode cX12_readLine 396 = .ok (.baload, 1) := by decide +kernel
theorem dX12_readLine_397 : decode cX12_readLine 397 = .ok (.ifCond .ne 8, 3) := by decide +kernel
theorem dX12_readLine_400 : decode cX12_readLine 400 = .ok (.iload 5, 2) := by decide +kernel
theorem dX12_readLine_402 : decode cX12_readLine 402 = .ok (.ifCond .eq 7, 3) := by decide +kernel
theorem dX12_readLine_405 : decode cX12_readLine 405 = .ok (.iconst 1, 1) := by decide +kernel
theorem dX12_readLine_406 : decode cX12_readLine 406 = .ok (.goto 4, 3) := by decide +kernel
theorem dX12_readLine_409 : decode cX12_readLine 409 = .ok (.iconst 0, 1) := by decide +kernel
theorem dX12_readLine_410 : decode cX12_readLine 410 = .ok (.bastore, 1) := by decide +kernel
theorem dX12_readLine_411 : decode cX12_readLine 411 = .ok (.aload_n 0, 1) := by decide +kernel
theorem dX12_readLine_412 : decode cX12_readLine 412 = .ok (.aload_n 0, 1) := by decide +kernel
theorem dX12_readLine_413 : decode cX12_readLine 413 = .ok (.bipush 59, 2) := by decide +kernel
theorem dX12_readLine_415 : decode cX12_readLine 415 = .ok (.invokevirtual 374, 3) := by decide +kernel
theorem dX12_readLine_418 : decode cX12_readLine 418 = .ok (.invokevirtual 426, 3) := by decide +kernel
theorem dX12_readLine_421 : decode cX12_readLine 421 = .ok (.aload_n 0, 1) := by decide +kernel
theorem dX12_readLine_422 : decode cX12_readLine 422 = .ok (.getfield 33, 3) := by decide +kernel
theorem dX12_readLine_425 : decode cX12_readLine 425 = .ok (.aload_n 0, 1) := by decide +kernel
theorem dX12_readLine_426 : decode cX12_readLine 426 = .ok (.getfield 377, 3) := by decide +kernel
theorem dX12_readLine_429 : decode cX12_readLine 429 = .ok (.dup2, 1) := by decide +kernel
theorem dX12_readLine_430 : decode cX12_readLine 430 = .ok (.iaload, 1) := by decide +kernel
theorem dX12_readLine_431 : decode cX12_readLine 431 = .ok (.iconst 1, 1) := by decide +kernel
theorem dX12_readLine_432 : decode cX12_readLine 432 = .ok (.iadd, 1) := by decide +kernel
theorem dX12_readLine_433 : decode cX12_readLine 433 = .ok (.iastore, 1) := by decide +kernel
theorem dX12_readLine_434 : decode cX12_readLine 434 = .ok (.return_, 1) := by decide +kernel
theorem dX12_readMark_0 : decode cX12_readMark 0 = .ok (.sipush 240, 3) := by decide +kernel
theorem dX12_readMark_3 : decode cX12_readMark 3 = .ok (.aload_n 0, 1) := by decide +kernel
theorem dX12_readMark_4 : decode cX12_readMark 4 = .ok (.getfield 377, 3) := by decide +kernel
theorem dX12_readMark_7 : decode cX12_readMark 7 = .ok (.imul, 1) := by decide +kernel
theorem dX12_readMark_8 : decode cX12_readMark 8 = .ok (.bipush 60, 2) := by decide +kernel
theorem dX12_readMark_10 : decode cX12_readMark 10 = .ok (.iload_n 1, 1) := by decide +kernel
theorem dX12_readMark_11 : decode cX12_readMark 11 = .ok (.imul, 1) := by decide +kernel
theorem dX12_readMark_12 : decode cX12_readMark 12 = .ok (.iadd, 1) := by decide +kernel
theorem dX12_readMark_13 : decode cX12_readMark 13 = .ok (.istore_n 2, 1) := by decide +kernel
theorem dX12_readMark_14 : decode cX12_readMark 14 = .ok (.aload_n 0, 1) := by decide +kernel
theorem dX12_readMark_15 : decode cX12_readMark 15 = .ok (.getfield 336, 3) := by decide +kernel
theorem dX12_readMark_18 : decode cX12_readMark 18 = .ok (.iconst 4, 1) := by decide +kernel
theorem dX12_readMark_19 : decode cX12_readMark 19 = .ok (.if_icmp .ne 35, 3) := by decide +kernel
theorem dX12_readMark_22 : decode cX12_readMark 22 = .ok (.aload_n 0, 1) := by decide +kernel
theorem dX12_readMark_23 : decode cX12_readMark 23 = .ok (.getfield 354, 3) := by decide +kernel
theorem dX12_readMark_26 : decode cX12_readMark 26 = .ok (.bipush 60, 2) := by decide +kernel
theorem dX12_readMark_28 : decode cX12_readMark 28 = .ok (.if_icmp .ge 26, 3) := by decide +kernel
theorem dX12_readMark_31 : decode cX12_readMark 31 = .ok (.aload_n 0, 1) := by decide +kernel
theorem dX12_readMark_32 : decode cX12_readMark 32 = .ok (.getfield 49, 3) := by decide +kernel
theorem dX12_readMark_35 : decode cX12_readMark 35 = .ok (.iload_n 2, 1) := by decide +kernel
theorem dX12_readMark_36 : decode cX12_readMark 36 = .ok (.aload_n 0, 1) := by decide +kernel
theorem dX12_readMark_37 : decode cX12_readMark 37 = .ok (.getfield 354, 3) := by decide +kernel
theorem dX12_readMark_40 : decode cX12_readMark 40 = .ok (.iadd, 1) := by decide +kernel
theorem dX12_readMark_41 : decode cX12_readMark 41 = .ok (.baload, 1) := by decide +kernel
theorem dX12_readMark_42 : decode cX12_readMark 42 = .ok (.ifCond .eq 12, 3) := by decide +kernel
theorem dX12_readMark_45 : decode cX12_readMark 45 = .ok (.aload_n 0, 1) := by decide +kernel
theorem dX12_readMark_46 : decode cX12_readMark 46 = .ok (.iconst 3, 1) := by decide +kernel
theorem dX12_readMark_47 : decode cX12_readMark 47 = .ok (.aload_n 0, 1) := by decide +kernel
theorem dX12_readMark_48 : decode cX12_readMark 48 = .ok (.getfield 329, 3) := by decide +kernel
theorem dX12_readMark_51 : decode cX12_readMark 51 = .ok (.invokevirtual 360, 3) := by decide +kernel
theorem dX12_readMark_54 : decode cX12_readMark 54 = .ok (.aload_n 0, 1) := by decide +kernel
theorem dX12_readMark_55 : decode cX12_readMark 55 = .ok (.iconst 0, 1) := by decide +kernel
theorem dX12_readMark_56 : decode cX12_readMark 56 = .ok (.bipush 59, 2) := by decide +kernel
theorem dX12_readMark_58 : decode cX12_readMark 58 = .ok (.invokevirtual 418, 3) := by decide +kernel
theorem dX12_readMark_61 : decode cX12_readMark 61 = .ok (.istore_n 3, 1) := by decide +kernel
theorem dX12_readMark_62 : decode cX12_readMark 62 = .ok (.aload_n 0, 1) := by decide +kernel
theorem dX12_readMark_63 : decode cX12_readMark 63 = .ok (.getfield 49, 3) := by decide +kernel
theorem dX12_readMark_66 : decode cX12_readMark 66 = .ok (.iload_n 2, 1) := by decide +kernel
theorem dX12_readMark_67 : decode cX12_readMark 67 = .ok (.iload_n 3, 1) := by decide +kernel
theorem dX12_readMark_68 : decode cX12_readMark 68 = .ok (.iadd, 1) := by decide +kernel
theorem dX12_readMark_69 : decode cX12_readMark 69 = .ok (.iconst 1, 1) := by decide +kernel
theorem dX12_readMark_70 : decode cX12_readMark 70 = .ok (.bastore, 1) := by decide +kernel
theorem dX12_readMark_71 : decode cX12_readMark 71 = .ok (.iload_n 1, 1) := by decide +kernel
theorem dX12_readMark_72 : decode cX12_readMark 72 = .ok (.iconst 2, 1) := by decide +kernel
theorem dX12_readMark_73 : decode cX12_readMark 73 = .ok (.if_icmp .ne 27, 3) := by decide +kernel
theorem dX12_readMark_76 : decode cX12_readMark 76 = .ok (.aload_n 0, 1) := by decide +kernel
theorem dX12_readMark_77 : decode cX12_readMark 77 = .ok (.getfield 80, 3) := by decide +kernel
theorem dX12_readMark_80 : decode cX12_readMark 80 = .ok (.bipush 60, 2) := by decide +kernel
theorem dX12_readMark_82 : decode cX12_readMark 82 = .ok (.aload_n 0, 1) := by decide +kernel
theorem dX12_readMark_83 : decode cX12_readMark 83 = .ok (.getfield 377, 3) := by decide +kernel
theorem dX12_readMark_86 : decode cX12_readMark 86 = .ok (.imul, 1) := by decide +kernel
theorem dX12_readMark_87 : decode cX12_readMark 87 = .ok (.iload_n 3, 1) := by decide +kernel
theorem dX12_readMark_88 : decode cX12_readMark 88 = .ok (.iadd, 1) := by decide +kernel
theorem dX12_readMark_89 : decode cX12_readMark 89 = .ok (.aload_n 0, 1) := by decide +kernel
theorem dX12_readMark_90 : decode cX12_readMark 90 = .ok (.ldc2_w 318, 3) := by decide +kernel
theorem dX12_readMark_93 : decode cX12_readMark 93 = .ok (.iconst 1, 1) := by decide +kernel
theorem dX12_readMark_94 : decode cX12_readMark 94 = .ok (.bipush 99, 2) := by decide +kernel
theorem dX12_readMark_96 : decode cX12_readMark 96 = .ok (.invokevirtual 434, 3) := by decide +kernel
theorem dX12_readMark_99 : decode cX12_readMark 99 = .ok (.iastore, 1) := by decide +kernel
theorem dX12_readMark_100 : decode cX12_readMark 100 = .ok (.aload_n 0, 1) := by decide +kernel
theorem dX12_readMark_101 : decode cX12_readMark 101 = .ok (.getfield 30, 3) := by decide +kernel
theorem dX12_readMark_104 : decode cX12_readMark 104 = .ok (.aload_n 0, 1) := by decide +kernel
theorem dX12_readMark_105 : decode cX12_readMark 105 = .ok (.getfield 377, 3) := by decide +kernel
theorem dX12_readMark_108 : decode cX12_readMark 108 = .ok (.dup2, 1) := by decide +kernel
theorem dX12_readMark_109 : decode cX12_readMark 109 = .ok (.iaload, 1) := by decide +kernel
theorem dX12_readMark_110 : decode cX12_readMark 110 = .ok (.iconst 1, 1) := by decide +kernel
theorem dX12_readMark_111 : decode cX12_readMark 111 = .ok (.iadd, 1) := by decide +kernel
theorem dX12_readMark_112 : decode cX12_readMark 112 = .ok (.iastore, 1) := by decide +kernel
theorem dX12_readMark_113 : decode cX12_readMark 113 = .ok (.return_, 1) := by decide +kernel
theorem dX12_readMarks_0 : decode cX12_readMarks 0 = .ok (.aload_n 0, 1) := by decide +kernel
theorem dX12_readMarks_1 : decode cX12_readMarks 1 = .ok (.iconst 2, 1) := by decide +kernel
theorem dX12_readMarks_2 : decode cX12_readMarks 2 = .ok (.iload_n 2, 1) := by decide +kernel
theorem dX12_readMarks_3 : decode cX12_readMarks 3 = .ok (.invokevirtual 596, 3) := by decide +kernel
theorem dX12_readMarks_6 : decode cX12_readMarks 6 = .ok (.ifCond .eq 49, 3) := by decide +kernel
theorem dX12_readMarks_9 : decode cX12_readMarks 9 = .ok (.aload_n 0, 1) := by decide +kernel
theorem dX12_readMarks_10 : decode cX12_readMarks 10 = .ok (.getfield 155, 3) := by decide +kernel
theorem dX12_readMarks_13 : decode cX12_readMarks 13 = .ok (.iload_n 1, 1) := by decide +kernel
theorem dX12_readMarks_14 : decode cX12_readMarks 14 = .ok (.baload, 1) := by decide +kernel
theorem dX12_readMarks_15 : decode cX12_readMarks 15 = .ok (.ifCond .ne 40, 3) := by decide +kernel
theorem dX12_readMarks_18 : decode cX12_readMarks 18 = .ok (.aload_n 0, 1) := by decide +kernel
theorem dX12_readMarks_19 : decode cX12_readMarks 19 = .ok (.getfield 143, 3) := by decide +kernel
theorem dX12_readMarks_22 : decode cX12_readMarks 22 = .ok (.iload_n 1, 1) := by decide +kernel
theorem dX12_readMarks_23 : decode cX12_readMarks 23 = .ok (.iconst 2, 1) := by decide +kernel
theorem dX12_readMarks_24 : decode cX12_readMarks 24 = .ok (.iastore, 1) := by decide +kernel
theorem dX12_readMarks_25 : decode cX12_readMarks 25 = .ok (.aload_n 0, 1) := by decide +kernel
theorem dX12_readMarks_26 : decode cX12_readMarks 26 = .ok (.getfield 146, 3) := by decide +kernel
theorem dX12_readMarks_29 : decode cX12_readMarks 29 = .ok (.iload_n 1, 1) := by decide +kernel
theorem dX12_readMarks_30 : decode cX12_readMarks 30 = .ok (.aload_n 0, 1) := by decide +kernel
theorem dX12_readMarks_31 : decode cX12_readMarks 31 = .ok (.getfield 80, 3) := by decide +kernel
theorem dX12_readMarks_34 : decode cX12_readMarks 34 = .ok (.bipush 60, 2) := by decide +kernel
theorem dX12_readMarks_36 : decode cX12_readMarks 36 = .ok (.aload_n 0, 1) := by decide +kernel
theorem dX12_readMarks_37 : decode cX12_readMarks 37 = .ok (.getfield 386, 3) := by decide +kernel
theorem dX12_readMarks_40 : decode cX12_readMarks 40 = .ok (.imul, 1) := by decide +kernel
theorem dX12_readMarks_41 : decode cX12_readMarks 41 = .ok (.iload_n 2, 1) := by decide +kernel
theorem dX12_readMarks_42 : decode cX12_readMarks 42 = .ok (.iadd, 1) := by decide +kernel
theorem dX12_readMarks_43 : decode cX12_readMarks 43 = .ok (.iaload, 1) := by decide +kernel
theorem dX12_readMarks_44 : decode cX12_readMarks 44 = .ok (.iastore, 1) := by decide +kernel
theorem dX12_readMarks_45 : decode cX12_readMarks 45 = .ok (.aload_n 0, 1) := by decide +kernel
theorem dX12_readMarks_46 : decode cX12_readMarks 46 = .ok (.getfield 140, 3) := by decide +kernel
theorem dX12_readMarks_49 : decode cX12_readMarks 49 = .ok (.iload_n 1, 1) := by decide +kernel
theorem dX12_readMarks_50 : decode cX12_readMarks 50 = .ok (.iconst 0, 1) := by decide +kernel
theorem dX12_readMarks_51 : decode cX12_readMarks 51 = .ok (.iastore, 1) := by decide +kernel
theorem dX12_readMarks_52 : decode cX12_readMarks 52 = .ok (.goto 66, 3) := by decide +kernel
theorem dX12_readMarks_55 : decode cX12_readMarks 55 = .ok (.aload_n 0, 1) := by decide +kernel
theorem dX12_readMarks_56 : decode cX12_readMarks 56 = .ok (.iconst 0, 1) := by decide +kernel
theorem dX12_readMarks_57 : decode cX12_readMarks 57 = .ok (.iload_n 2, 1) := by decide +kernel
theorem dX12_readMarks_58 : decode cX12_readMarks 58 = .ok (.invokevirtual 596, 3) := by decide +kernel
theorem dX12_readMarks_61 : decode cX12_readMarks 61 = .ok (.ifCond .eq 31, 3) := by decide +kernel
theorem dX12_readMarks_64 : decode cX12_readMarks 64 = .ok (.aload_n 0, 1) := by decide +kernel
theorem dX12_readMarks_65 : decode cX12_readMarks 65 = .ok (.getfield 143, 3) := by decide +kernel
theorem dX12_readMarks_68 : decode cX12_readMarks 68 = .ok (.iload_n 1, 1) := by decide +kernel
theorem dX12_readMarks_69 : decode cX12_readMarks 69 = .ok (.iaload, 1) := by decide +kernel
theorem dX12_readMarks_70 : decode cX12_readMarks 70 = .ok (.ifCond .ne 22, 3) := by decide +kernel
theorem dX12_readMarks_73 : decode cX12_readMarks 73 = .ok (.aload_n 0, 1) := by decide +kernel
theorem dX12_readMarks_74 : decode cX12_readMarks 74 = .ok (.getfield 155, 3) := by decide +kernel
theorem dX12_readMarks_77 : decode cX12_readMarks 77 = .ok (.iload_n 1, 1) := by decide +kernel
theorem dX12_readMarks_78 : decode cX12_readMarks 78 = .ok (.baload, 1) := by decide +kernel
theorem dX12_readMarks_79 : decode cX12_readMarks 79 = .ok (.ifCond .ne 13, 3) := by decide +kernel
theorem dX12_readMarks_82 : decode cX12_readMarks 82 = .ok (.aload_n 0, 1) := by decide +kernel
theorem dX12_readMarks_83 : decode cX12_readMarks 83 = .ok (.getfield 143, 3) := by decide +kernel
theorem dX12_readMarks_86 : decode cX12_readMarks 86 = .ok (.iload_n 1, 1) := by decide +kernel
theorem dX12_readMarks_87 : decode cX12_readMarks 87 = .ok (.iconst 1, 1) := by decide +kernel
theorem dX12_readMarks_88 : decode cX12_readMarks 88 = .ok (.iastore, 1) := by decide +kernel
theorem dX12_readMarks_89 : decode cX12_readMarks 89 = .ok (.goto 29, 3) := by decide +kernel
theorem dX12_readMarks_92 : decode cX12_readMarks 92 = .ok (.aload_n 0, 1) := by decide +kernel
theorem dX12_readMarks_93 : decode cX12_readMarks 93 = .ok (.iconst 1, 1) := by decide +kernel
theorem dX12_readMarks_94 : decode cX12_readMarks 94 = .ok (.iload_n 2, 1) := by decide +kernel
theorem dX12_readMarks_95 : decode cX12_readMarks 95 = .ok (.invokevirtual 596, 3) := by decide +kernel
theorem dX12_readMarks_98 : decode cX12_readMarks 98 = .ok (.ifCond .eq 20, 3) := by decide +kernel
theorem dX12_readMarks_101 : decode cX12_readMarks 101 = .ok (.aload_n 0, 1) := by decide +kernel
theorem dX12_readMarks_102 : decode cX12_readMarks 102 = .ok (.getfield 143, 3) := by decide +kernel
theorem dX12_readMarks_105 : decode cX12_readMarks 105 = .ok (.iload_n 1, 1) := by decide +kernel
theorem dX12_readMarks_106 : decode cX12_readMarks 106 = .ok (.iaload, 1) := by decide +kernel
theorem dX12_readMarks_107 : decode cX12_readMarks 107 = .ok (.iconst 1, 1) := by decide +kernel
theorem dX12_readMarks_108 : decode cX12_readMarks 108 = .ok (.if_icmp .ne 10, 3) := by decide +kernel
theorem dX12_readMarks_111 : decode cX12_readMarks 111 = .ok (.aload_n 0, 1) := by decide +kernel
theorem dX12_readMarks_112 : decode cX12_readMarks 112 = .ok (.getfield 143, 3) := by decide +kernel
theorem dX12_readMarks_115 : decode cX12_readMarks 115 = .ok (.iload_n 1, 1) := by decide +kernel
theorem dX12_readMarks_116 : decode cX12_readMarks 116 = .ok (.iconst 0, 1) := by decide +kernel
theorem dX12_readMarks_117 : decode cX12_readMarks 117 = .ok (.iastore, 1) := by decide +kernel
theorem dX12_readMarks_118 : decode cX12_readMarks 118 = .ok (.return_, 1) := by decide +kernel
theorem dX12_readRope_0 : decode cX12_readRope 0 = .ok (.iconst 3, 1) := by decide +kernel
theorem dX12_readRope_1 : decode cX12_readRope 1 = .ok (.aload_n 0, 1) := by decide +kernel
theorem dX12_readRope_2 : decode cX12_readRope 2 = .ok (.getfield 377, 3) := by decide +kernel
theorem dX12_readRope_5 : decode cX12_readRope 5 = .ok (.imul, 1) := by decide +kernel
theorem dX12_readRope_6 : decode cX12_readRope 6 = .ok (.aload_n 0, 1) := by decide +kernel
theorem dX12_readRope_7 : decode cX12_readRope 7 = .ok (.getfield 20, 3) := by decide +kernel
theorem dX12_readRope_10 : decode cX12_readRope 10 = .ok (.aload_n 0, 1) := by decide +kernel
theorem dX12_readRope_11 : decode cX12_readRope 11 = .ok (.getfield 377, 3) := by decide +kernel
theorem dX12_readRope_14 : decode cX12_readRope 14 = .ok (.iaload, 1) := by decide +kernel
theorem dX12_readRope_15 : decode cX12_readRope 15 = .ok (.iadd, 1) := by decide +kernel
theorem dX12_readRope_16 : decode cX12_readRope 16 = .ok (.istore_n 1, 1) := by decide +kernel
theorem dX12_readRope_17 : decode cX12_readRope 17 = .ok (.aload_n 0, 1) := by decide +kernel
theorem dX12_readRope_18 : decode cX12_readRope 18 = .ok (.getfield 52, 3) := by decide +kernel
theorem dX12_readRope_21 : decode cX12_readRope 21 = .ok (.iload_n 1, 1) := by decide +kernel
theorem dX12_readRope_22 : decode cX12_readRope 22 = .ok (.aload_n 0, 1) := by decide +kernel
theorem dX12_readRope_23 : decode cX12_readRope 23 = .ok (.aload_n 0, 1) := by decide +kernel
theorem dX12_readRope_24 : decode cX12_readRope 24 = .ok (.getfield 52, 3) := by decide +kernel
theorem dX12_readRope_27 : decode cX12_readRope 27 = .ok (.iconst 3, 1) := by decide +kernel
theorem dX12_readRope_28 : decode cX12_readRope 28 = .ok (.aload_n 0, 1) := by decide +kernel
theorem dX12_readRope_29 : decode cX12_readRope 29 = .ok (.getfield 377, 3) := by decide +kernel
theorem dX12_readRope_32 : decode cX12_readRope 32 = .ok (.imul, 1) := by decide +kernel
theorem dX12_readRope_33 : decode cX12_readRope 33 = .ok (.aload_n 0, 1) := by decide +kernel
theorem dX12_readRope_34 : decode cX12_readRope 34 = .ok (.getfield 20, 3) := by decide +kernel
theorem dX12_readRope_37 : decode cX12_readRope 37 = .ok (.aload_n 0, 1) := by decide +kernel
theorem dX12_readRope_38 : decode cX12_readRope 38 = .ok (.getfield 377, 3) := by decide +kernel
theorem dX12_readRope_41 : decode cX12_readRope 41 = .ok (.iaload, 1) := by decide +kernel
theorem dX12_readRope_42 : decode cX12_readRope 42 = .ok (.invokevirtual 430, 3) := by decide +kernel
theorem dX12_readRope_45 : decode cX12_readRope 45 = .ok (.lastore, 1) := by decide +kernel
theorem dX12_readRope_46 : decode cX12_readRope 46 = .ok (.aload_n 0, 1) := by decide +kernel
theorem dX12_readRope_47 : decode cX12_readRope 47 = .ok (.getfield 59, 3) := by decide +kernel
theorem dX12_readRope_50 : decode cX12_readRope 50 = .ok (.iload_n 1, 1) := by decide +kernel
theorem dX12_readRope_51 : decode cX12_readRope 51 = .ok (.aload_n 0, 1) := by decide +kernel
theorem dX12_readRope_52 : decode cX12_readRope 52 = .ok (.ldc2_w 268, 3) := by decide +kernel
theorem dX12_readRope_55 : decode cX12_readRope 55 = .ok (.iconst 1, 1) := by decide +kernel
theorem dX12_readRope_56 : decode cX12_readRope 56 = .ok (.bipush 30, 2) := by decide +kernel
theorem dX12_readRope_58 : decode cX12_readRope 58 = .ok (.invokevirtual 434, 3) := by decide +kernel
theorem dX12_readRope_61 : decode cX12_readRope 61 = .ok (.iastore, 1) := by decide +kernel
theorem dX12_readRope_62 : decode cX12_readRope 62 = .ok (.aload_n 0, 1) := by decide +kernel
theorem dX12_readRope_63 : decode cX12_readRope 63 = .ok (.getfield 62, 3) := by decide +kernel
theorem dX12_readRope_66 : decode cX12_readRope 66 = .ok (.iload_n 1, 1) := by decide +kernel
theorem dX12_readRope_67 : decode cX12_readRope 67 = .ok (.aload_n 0, 1) := by decide +kernel
theorem dX12_readRope_68 : decode cX12_readRope 68 = .ok (.ldc2_w 270, 3) := by decide +kernel
theorem dX12_readRope_71 : decode cX12_readRope 71 = .ok (.bipush 10, 2) := by decide +kernel
theorem dX12_readRope_73 : decode cX12_readRope 73 = .ok (.sipush 200, 3) := by decide +kernel
theorem dX12_readRope_76 : decode cX12_readRope 76 = .ok (.invokevirtual 434, 3) := by decide +kernel
theorem dX12_readRope_79 : decode cX12_readRope 79 = .ok (.iastore, 1) := by decide +kernel
theorem dX12_readRope_80 : decode cX12_readRope 80 = .ok (.aload_n 0, 1) := by decide +kernel
theorem dX12_readRope_81 : decode cX12_readRope 81 = .ok (.getfield 65, 3) := by decide +kernel
theorem dX12_readRope_84 : decode cX12_readRope 84 = .ok (.iload_n 1, 1) := by decide +kernel
theorem dX12_readRope_85 : decode cX12_readRope 85 = .ok (.aload_n 0, 1) := by decide +kernel
theorem dX12_readRope_86 : decode cX12_readRope 86 = .ok (.ldc2_w 272, 3) := by decide +kernel
theorem dX12_readRope_89 : decode cX12_readRope 89 = .ok (.iconst 0, 1) := by decide +kernel
theorem dX12_readRope_90 : decode cX12_readRope 90 = .ok (.bipush 59, 2) := by decide +kernel
theorem dX12_readRope_92 : decode cX12_readRope 92 = .ok (.invokevirtual 434, 3) := by decide +kernel
theorem dX12_readRope_95 : decode cX12_readRope 95 = .ok (.iastore, 1) := by decide +kernel
theorem dX12_readRope_96 : decode cX12_readRope 96 = .ok (.aload_n 0, 1) := by decide +kernel
theorem dX12_readRope_97 : decode cX12_readRope 97 = .ok (.aload_n 0, 1) := by decide +kernel
theorem dX12_readRope_98 : decode cX12_readRope 98 = .ok (.ldc2_w 274, 3) := by decide +kernel
theorem dX12_readRope_101 : decode cX12_readRope 101 = .ok (.invokevirtual 395, 3) := by decide +kernel
theorem dX12_readRope_104 : decode cX12_readRope 104 = .ok (.invokevirtual 426, 3) := by decide +kernel
theorem dX12_readRope_107 : decode cX12_readRope 107 = .ok (.aload_n 0, 1) := by decide +kernel
theorem dX12_readRope_108 : decode cX12_readRope 108 = .ok (.invokevirtual 364, 3) := by decide +kernel
theorem dX12_readRope_111 : decode cX12_readRope 111 = .ok (.ifCond .ne 4, 3) := by decide +kernel
theorem dX12_readRope_114 : decode cX12_readRope 114 = .ok (.return_, 1) := by decide +kernel
theorem dX12_readRope_115 : decode cX12_readRope 115 = .ok (.aload_n 0, 1) := by decide +kernel
theorem dX12_readRope_116 : decode cX12_readRope 116 = .ok (.getfield 329, 3) := by decide +kernel
theorem dX12_readRope_119 : decode cX12_readRope 119 = .ok (.istore_n 2, 1) := by decide +kernel
theorem dX12_readRope_120 : decode cX12_readRope 120 = .ok (.aload_n 0, 1) := by decide +kernel
theorem dX12_readRope_121 : decode cX12_readRope 121 = .ok (.getfield 65, 3) := by decide +kernel
theorem dX12_readRope_124 : decode cX12_readRope 124 = .ok (.iload_n 1, 1) := by decide +kernel
theorem dX12_readRope_125 : decode cX12_readRope 125 = .ok (.iaload, 1) := by decide +kernel
theorem dX12_readRope_126 : decode cX12_readRope 126 = .ok (.aload_n 0, 1) := by decide +kernel
theorem dX12_readRope_127 : decode cX12_readRope 127 = .ok (.getfield 62, 3) := by decide +kernel
theorem dX12_readRope_130 : decode cX12_readRope 130 = .ok (.iload_n 1, 1) := by decide +kernel
theorem dX12_readRope_131 : decode cX12_readRope 131 = .ok (.iaload, 1) := by decide +kernel
theorem dX12_readRope_132 : decode cX12_readRope 132 = .ok (.iadd, 1) := by decide +kernel
theorem dX12_readRope_133 : decode cX12_readRope 133 = .ok (.iconst 1, 1) := by decide +kernel
theorem dX12_readRope_134 : decode cX12_readRope 134 = .ok (.isub, 1) := by decide +kernel
theorem dX12_readRope_135 : decode cX12_readRope 135 = .ok (.istore_n 3, 1) := by decide +kernel
theorem dX12_readRope_136 : decode cX12_readRope 136 = .ok (.aload_n 0, 1) := by decide +kernel
theorem dX12_readRope_137 : decode cX12_readRope 137 = .ok (.getfield 336, 3) := by decide +kernel
theorem dX12_readRope_140 : decode cX12_readRope 140 = .ok (.iconst 4, 1) := by decide +kernel
theorem dX12_readRope_141 : decode cX12_readRope 141 = .ok (.if_icmp .ne 37, 3) := by decide +kernel
theorem dX12_readRope_144 : decode cX12_readRope 144 = .ok (.aload_n 0, 1) := by decide +kernel
theorem dX12_readRope_145 : decode cX12_readRope 145 = .ok (.getfield 354, 3) := by decide +kernel
theorem dX12_readRope_148 : decode cX12_readRope 148 = .ok (.aload_n 0, 1) := by decide +kernel
theorem dX12_readRope_149 : decode cX12_readRope 149 = .ok (.getfield 65, 3) := by decide +kernel
theorem dX12_readRope_152 : decode cX12_readRope 152 = .ok (.iload_n 1, 1) := by decide +kernel
theorem dX12_readRope_153 : decode cX12_readRope 153 = .ok (.iaload, 1) := by decide +kernel
theorem dX12_readRope_154 : decode cX12_readRope 154 = .ok (.if_icmp .lt 24, 3) := by decide +kernel
theorem dX12_readRope_157 : decode cX12_readRope 157 = .ok (.aload_n 0, 1) := by decide +kernel
theorem dX12_readRope_158 : decode cX12_readRope 158 = .ok (.getfield 354, 3) := by decide +kernel
theorem dX12_readRope_161 : decode cX12_readRope 161 = .ok (.bipush 60, 2) := by decide +kernel
theorem dX12_readRope_163 : decode cX12_readRope 163 = .ok (.if_icmp .ge 15, 3) := by decide +kernel
theorem dX12_readRope_166 : decode cX12_readRope 166 = .ok (.aload_n 0, 1) := by decide +kernel
theorem dX12_readRope_167 : decode cX12_readRope 167 = .ok (.getfield 354, 3) := by decide +kernel
theorem dX12_readRope_170 : decode cX12_readRope 170 = .ok (.iload_n 3, 1) := by decide +kernel
theorem dX12_readRope_171 : decode cX12_readRope 171 = .ok (.if_icmp .gt 7, 3) := by decide +kernel
theorem dX12_readRope_174 : decode cX12_readRope 174 = .ok (.iconst 1, 1) := by decide +kernel
theorem dX12_readRope_175 : decode cX12_readRope 175 = .ok (.goto 4, 3) := by decide +kernel
theorem dX12_readRope_178 : decode cX12_readRope 178 = .ok (.iconst 0, 1) := by decide +kernel
theorem dX12_readRope_179 : decode cX12_readRope 179 = .ok (.istore 4, 2) := by decide +kernel
theorem dX12_readRope_181 : decode cX12_readRope 181 = .ok (.aload_n 0, 1) := by decide +kernel
theorem dX12_readRope_182 : decode cX12_readRope 182 = .ok (.getfield 65, 3) := by decide +kernel
theorem dX12_readRope_185 : decode cX12_readRope 185 = .ok (.iload_n 1, 1) := by decide +kernel
theorem dX12_readRope_186 : decode cX12_readRope 186 = .ok (.iaload, 1) := by decide +kernel
theorem dX12_readRope_187 : decode cX12_readRope 187 = .ok (.istore 5, 2) := by decide +kernel
theorem dX12_readRope_189 : decode cX12_readRope 189 = .ok (.iload 4, 2) := by decide +kernel
theorem dX12_readRope_191 : decode cX12_readRope 191 = .ok (.ifCond .eq 43, 3) := by decide +kernel
theorem dX12_readRope_194 : decode cX12_readRope 194 = .ok (.iload 5, 2) := by decide +kernel
theorem dX12_readRope_196 : decode cX12_readRope 196 = .ok (.aload_n 0, 1) := by decide +kernel
theorem dX12_readRope_197 : decode cX12_readRope 197 = .ok (.getfield 354, 3) := by decide +kernel
theorem dX12_readRope_200 : decode cX12_readRope 200 = .ok (.if_icmp .gt 34, 3) := by decide +kernel
theorem dX12_readRope_203 : decode cX12_readRope 203 = .ok (.aload_n 0, 1) := by decide +kernel
theorem dX12_readRope_204 : decode cX12_readRope 204 = .ok (.getfield 77, 3) := by decide +kernel
theorem dX12_readRope_207 : decode cX12_readRope 207 = .ok (.bipush 60, 2) := by decide +kernel
theorem dX12_readRope_209 : decode cX12_readRope 209 = .ok (.aload_n 0, 1) := by decide +kernel
theorem dX12_readRope_210 : decode cX12_readRope 210 = .ok (.getfield 377, 3) := by decide +kernel
theorem dX12_readRope_213 : decode cX12_readRope 213 = .ok (.imul, 1) := by decide +kernel
theorem dX12_readRope_214 : decode cX12_readRope 214 = .ok (.iload 5, 2) := by decide +kernel
theorem dX12_readRope_216 : decode cX12_readRope 216 = .ok (.iadd, 1) := by decide +kernel
theorem dX12_readRope_217 : decode cX12_readRope 217 = .ok (.iaload, 1) := by decide +kernel
theorem dX12_readRope_218 : decode cX12_readRope 218 = .ok (.ifCond .lt 10, 3) := by decide +kernel
theorem dX12_readRope_221 : decode cX12_readRope 221 = .ok (.aload_n 0, 1) := by decide +kernel
theorem dX12_readRope_222 : decode cX12_readRope 222 = .ok (.bipush 6, 2) := by decide +kernel
theorem dX12_readRope_224 : decode cX12_readRope 224 = .ok (.iload_n 2, 1) := by decide +kernel
theorem dX12_readRope_225 : decode cX12_readRope 225 = .ok (.invokevirtual 360, 3) := by decide +kernel
theorem dX12_readRope_228 : decode cX12_readRope 228 = .ok (.iinc 5 1, 3) := by decide +kernel
theorem dX12_readRope_231 : decode cX12_readRope 231 = .ok (.goto (-42), 3) := by decide +kernel
theorem dX12_readRope_234 : decode cX12_readRope 234 = .ok (.aload_n 0, 1) := by decide +kernel
theorem dX12_readRope_235 : decode cX12_readRope 235 = .ok (.getfield 68, 3) := by decide +kernel
theorem dX12_readRope_238 : decode cX12_readRope 238 = .ok (.iload_n 1, 1) := by decide +kernel
theorem dX12_readRope_239 : decode cX12_readRope 239 = .ok (.aload_n 0, 1) := by decide +kernel
theorem dX12_readRope_240 : decode cX12_readRope 240 = .ok (.aload_n 0, 1) := by decide +kernel
theorem dX12_readRope_241 : decode cX12_readRope 241 = .ok (.getfield 65, 3) := by decide +kernel
theorem dX12_readRope_244 : decode cX12_readRope 244 = .ok (.iload_n 1, 1) := by decide +kernel
theorem dX12_readRope_245 : decode cX12_readRope 245 = .ok (.iaload, 1) := by decide +kernel
theorem dX12_readRope_246 : decode cX12_readRope 246 = .ok (.iload_n 3, 1) := by decide +kernel
theorem dX12_readRope_247 : decode cX12_readRope 247 = .ok (.bipush 60, 2) := by decide +kernel
theorem dX12_readRope_249 : decode cX12_readRope 249 = .ok (.if_icmp .ge 7, 3) := by decide +kernel
theorem dX12_readRope_252 : decode cX12_readRope 252 = .ok (.iload_n 3, 1) := by decide +kernel
theorem dX12_readRope_253 : decode cX12_readRope 253 = .ok (.goto 5, 3) := by decide +kernel
theorem dX12_readRope_256 : decode cX12_readRope 256 = .ok (.bipush 59, 2) := by decide +kernel
theorem dX12_readRope_258 : decode cX12_readRope 258 = .ok (.invokevirtual 418, 3) := by decide +kernel
theorem dX12_readRope_261 : decode cX12_readRope 261 = .ok (.iastore, 1) := by decide +kernel
theorem dX12_readRope_262 : decode cX12_readRope 262 = .ok (.aload_n 0, 1) := by decide +kernel
theorem dX12_readRope_263 : decode cX12_readRope 263 = .ok (.getfield 71, 3) := by decide +kernel
theorem dX12_readRope_266 : decode cX12_readRope 266 = .ok (.iload_n 1, 1) := by decide +kernel
theorem dX12_readRope_267 : decode cX12_readRope 267 = .ok (.aload_n 0, 1) := by decide +kernel
theorem dX12_readRope_268 : decode cX12_readRope 268 = .ok (.ldc2_w 276, 3) := by decide +kernel
theorem dX12_readRope_271 : decode cX12_readRope 271 = .ok (.iconst 1, 1) := by decide +kernel
theorem dX12_readRope_272 : decode cX12_readRope 272 = .ok (.sipush 9999, 3) := by decide +kernel
theorem dX12_readRope_275 : decode cX12_readRope 275 = .ok (.invokevirtual 434, 3) := by decide +kernel
theorem dX12_readRope_278 : decode cX12_readRope 278 = .ok (.iastore, 1) := by decide +kernel
theorem dX12_readRope_279 : decode cX12_readRope 279 = .ok (.aload_n 0, 1) := by decide +kernel
theorem dX12_readRope_280 : decode cX12_readRope 280 = .ok (.getfield 65, 3) := by decide +kernel
theorem dX12_readRope_283 : decode cX12_readRope 283 = .ok (.iload_n 1, 1) := by decide +kernel
theorem dX12_readRope_284 : decode cX12_readRope 284 = .ok (.iaload, 1) := by decide +kernel
theorem dX12_readRope_285 : decode cX12_readRope 285 = .ok (.istore 5, 2) := by decide +kernel
theorem dX12_readRope_287 : decode cX12_readRope 287 = .ok (.iload 5, 2) := by decide +kernel
theorem dX12_readRope_289 : decode cX12_readRope 289 = .ok (.aload_n 0, 1) := by decide +kernel
theorem dX12_readRope_290 : decode cX12_readRope 290 = .ok (.getfield 68, 3) := by decide +kernel
theorem dX12_readRope_293 : decode cX12_readRope 293 = .ok (.iload_n 1, 1) := by decide +kernel
theorem dX12_readRope_294 : decode cX12_readRope 294 = .ok (.iaload, 1) := by decide +kernel
theorem dX12_readRope_295 : decode cX12_readRope 295 = .ok (.if_icmp .gt 40, 3) := by decide +kernel
theorem dX12_readRope_298 : decode cX12_readRope 298 = .ok (.aload_n 0, 1) := by decide +kernel
theorem dX12_readRope_299 : decode cX12_readRope 299 = .ok (.invokevirtual 364, 3) := by decide +kernel
theorem dX12_readRope_302 : decode cX12_readRope 302 = .ok (.ifCond .eq 33, 3) := by decide +kernel
theorem dX12_readRope_305 : decode cX12_readRope 305 = .ok (.aload_n 0, 1) := by decide +kernel
theorem dX12_readRope_306 : decode cX12_readRope 306 = .ok (.getfield 77, 3) := by decide +kernel
theorem dX12_readRope_309 : decode cX12_readRope 309 = .ok (.bipush 60, 2) := by decide +kernel
theorem dX12_readRope_311 : decode cX12_readRope 311 = .ok (.aload_n 0, 1) := by decide +kernel
theorem dX12_readRope_312 : decode cX12_readRope 312 = .ok (.getfield 377, 3) := by decide +kernel
theorem dX12_readRope_315 : decode cX12_readRope 315 = .ok (.imul, 1) := by decide +kernel
theorem dX12_readRope_316 : decode cX12_readRope 316 = .ok (.iload 5, 2) := by decide +kernel
theorem dX12_readRope_318 : decode cX12_readRope 318 = .ok (.iadd, 1) := by decide +kernel
theorem dX12_readRope_319 : decode cX12_readRope 319 = .ok (.aload_n 0, 1) := by decide +kernel
theorem dX12_readRope_320 : decode cX12_readRope 320 = .ok (.getfield 20, 3) := by decide +kernel
theorem dX12_readRope_323 : decode cX12_readRope 323 = .ok (.aload_n 0, 1) := by decide +kernel
theorem dX12_readRope_324 : decode cX12_readRope 324 = .ok (.getfield 377, 3) := by decide +kernel
theorem dX12_readRope_327 : decode cX12_readRope 327 = .ok (.iaload, 1) := by decide +kernel
theorem dX12_readRope_328 : decode cX12_readRope 328 = .ok (.iastore, 1) := by decide +kernel
theorem dX12_readRope_329 : decode cX12_readRope 329 = .ok (.iinc 5 1, 3) := by decide +kernel
theorem dX12_readRope_332 : decode cX12_readRope 332 = .ok (.goto (-45), 3) := by decide +kernel
theorem dX12_readRope_335 : decode cX12_readRope 335 = .ok (.aload_n 0, 1) := by decide +kernel
theorem dX12_readRope_336 : decode cX12_readRope 336 = .ok (.getfield 20, 3) := by decide +kernel
theorem dX12_readRope_339 : decode cX12_readRope 339 = .ok (.aload_n 0, 1) := by decide +kernel
theorem dX12_readRope_340 : decode cX12_readRope 340 = .ok (.getfield 377, 3) := by decide +kernel
theorem dX12_readRope_343 : decode cX12_readRope 343 = .ok (.dup2, 1) := by decide +kernel
theorem dX12_readRope_344 : decode cX12_readRope 344 = .ok (.iaload, 1) := by decide +kernel
theorem dX12_readRope_345 : decode cX12_readRope 345 = .ok (.iconst 1, 1) := by decide +kernel
theorem dX12_readRope_346 : decode cX12_readRope 346 = .ok (.iadd, 1) := by decide +kernel
theorem dX12_readRope_347 : decode cX12_readRope 347 = .ok (.iastore, 1) := by decide +kernel
theorem dX12_readRope_348 : decode cX12_readRope 348 = .ok (.return_, 1) := by decide +kernel
theorem dX12_readSplice_0 : decode cX12_readSplice 0 = .ok (.bipush 6, 2) := by decide +kernel
theorem dX12_readSplice_2 : decode cX12_readSplice 2 = .ok (.aload_n 0, 1) := by decide +kernel
theorem dX12_readSplice_3 : decode cX12_readSplice 3 = .ok (.getfield 377, 3) := by decide +kernel
theorem dX12_readSplice_6 : decode cX12_readSplice 6 = .ok (.imul, 1) := by decide +kernel
theorem dX12_readSplice_7 : decode cX12_readSplice 7 = .ok (.aload_n 0, 1) := by decide +kernel
theorem dX12_readSplice_8 : decode cX12_readSplice 8 = .ok (.getfield 89, 3) := by decide +kernel
theorem dX12_readSplice_11 : decode cX12_readSplice 11 = .ok (.aload_n 0, 1) := by decide +kernel
theorem dX12_readSplice_12 : decode cX12_readSplice 12 = .ok (.getfield 377, 3) := by decide +kernel
theorem dX12_readSplice_15 : decode cX12_readSplice 15 = .ok (.iaload, 1) := by decide +kernel
theorem dX12_readSplice_16 : decode cX12_readSplice 16 = .ok (.iadd, 1) := by decide +kernel
theorem dX12_readSplice_17 : decode cX12_readSplice 17 = .ok (.istore_n 1, 1) := by decide +kernel
theorem dX12_readSplice_18 : decode cX12_readSplice 18 = .ok (.aload_n 0, 1) := by decide +kernel
theorem dX12_readSplice_19 : decode cX12_readSplice 19 = .ok (.getfield 119, 3) := by decide +kernel
theorem dX12_readSplice_22 : decode cX12_readSplice 22 = .ok (.iload_n 1, 1) := by decide +kernel
theorem dX12_readSplice_23 : decode cX12_readSplice 23 = .ok (.aload_n 0, 1) := by decide +kernel
theorem dX12_readSplice_24 : decode cX12_readSplice 24 = .ok (.aload_n 0, 1) := by decide +kernel
theorem dX12_readSplice_25 : decode cX12_readSplice 25 = .ok (.getfield 119, 3) := by decide +kernel
theorem dX12_readSplice_28 : decode cX12_readSplice 28 = .ok (.bipush 6, 2) := by decide +kernel
theorem dX12_readSplice_30 : decode cX12_readSplice 30 = .ok (.aload_n 0, 1) := by decide +kernel
theorem dX12_readSplice_31 : decode cX12_readSplice 31 = .ok (.getfield 377, 3) := by decide +kernel
theorem dX12_readSplice_34 : decode cX12_readSplice 34 = .ok (.imul, 1) := by decide +kernel
theorem dX12_readSplice_35 : decode cX12_readSplice 35 = .ok (.aload_n 0, 1) := by decide +kernel
theorem dX12_readSplice_36 : decode cX12_readSplice 36 = .ok (.getfield 89, 3) := by decide +kernel
theorem dX12_readSplice_39 : decode cX12_readSplice 39 = .ok (.aload_n 0, 1) := by decide +kernel
theorem dX12_readSplice_40 : decode cX12_readSplice 40 = .ok (.getfield 377, 3) := by decide +kernel
theorem dX12_readSplice_43 : decode cX12_readSplice 43 = .ok (.iaload, 1) := by decide +kernel
theorem dX12_readSplice_44 : decode cX12_readSplice 44 = .ok (.invokevirtual 430, 3) := by decide +kernel
theorem dX12_readSplice_47 : decode cX12_readSplice 47 = .ok (.lastore, 1) := by decide +kernel
theorem dX12_readSplice_48 : decode cX12_readSplice 48 = .ok (.aload_n 0, 1) := by decide +kernel
theorem dX12_readSplice_49 : decode cX12_readSplice 49 = .ok (.aload_n 0, 1) := by decide +kernel
theorem dX12_readSplice_50 : decode cX12_readSplice 50 = .ok (.ldc2_w 286, 3) := by decide +kernel
theorem dX12_readSplice_53 : decode cX12_readSplice 53 = .ok (.invokevirtual 395, 3) := by decide +kernel
theorem dX12_readSplice_56 : decode cX12_readSplice 56 = .ok (.invokevirtual 426, 3) := by decide +kernel
theorem dX12_readSplice_59 : decode cX12_readSplice 59 = .ok (.aload_n 0, 1) := by decide +kernel
theorem dX12_readSplice_60 : decode cX12_readSplice 60 = .ok (.invokevirtual 364, 3) := by decide +kernel
theorem dX12_readSplice_63 : decode cX12_readSplice 63 = .ok (.ifCond .ne 4, 3) := by decide +kernel
theorem dX12_readSplice_66 : decode cX12_readSplice 66 = .ok (.return_, 1) := by decide +kernel
theorem dX12_readSplice_67 : decode cX12_readSplice 67 = .ok (.aload_n 0, 1) := by decide +kernel
theorem dX12_readSplice_68 : decode cX12_readSplice 68 = .ok (.invokevirtual 444, 3) := by decide +kernel
theorem dX12_readSplice_71 : decode cX12_readSplice 71 = .ok (.istore_n 2, 1) := by decide +kernel
theorem dX12_readSplice_72 : decode cX12_readSplice 72 = .ok (.aload_n 0, 1) := by decide +kernel
theorem dX12_readSplice_73 : decode cX12_readSplice 73 = .ok (.getfield 336, 3) := by decide +kernel
theorem dX12_readSplice_76 : decode cX12_readSplice 76 = .ok (.iconst 2, 1) := by decide +kernel
theorem dX12_readSplice_77 : decode cX12_readSplice 77 = .ok (.if_icmp .eq 10, 3) := by decide +kernel
theorem dX12_readSplice_80 : decode cX12_readSplice 80 = .ok (.aload_n 0, 1) := by decide +kernel
theorem dX12_readSplice_81 : decode cX12_readSplice 81 = .ok (.invokevirtual 371, 3) := by decide +kernel
theorem dX12_readSplice_84 : decode cX12_readSplice 84 = .ok (.goto 16, 3) := by decide +kernel
theorem dX12_readSplice_87 : decode cX12_readSplice 87 = .ok (.iload_n 2, 1) := by decide +kernel
theorem dX12_readSplice_88 : decode cX12_readSplice 88 = .ok (.ifCond .ge 12, 3) := by decide +kernel
theorem dX12_readSplice_91 : decode cX12_readSplice 91 = .ok (.aload_n 0, 1) := by decide +kernel
theorem dX12_readSplice_92 : decode cX12_readSplice 92 = .ok (.iconst 5, 1) := by decide +kernel
theorem dX12_readSplice_93 : decode cX12_readSplice 93 = .ok (.aload_n 0, 1) := by decide +kernel
theorem dX12_readSplice_94 : decode cX12_readSplice 94 = .ok (.getfield 329, 3) := by decide +kernel
theorem dX12_readSplice_97 : decode cX12_readSplice 97 = .ok (.invokevirtual 360, 3) := by decide +kernel
theorem dX12_readSplice_100 : decode cX12_readSplice 100 = .ok (.aload_n 0, 1) := by decide +kernel
theorem dX12_readSplice_101 : decode cX12_readSplice 101 = .ok (.invokevirtual 364, 3) := by decide +kernel
theorem dX12_readSplice_104 : decode cX12_readSplice 104 = .ok (.ifCond .ne 4, 3) := by decide +kernel
theorem dX12_readSplice_107 : decode cX12_readSplice 107 = .ok (.return_, 1) := by decide +kernel
theorem dX12_readSplice_108 : decode cX12_readSplice 108 = .ok (.aload_n 0, 1) := by decide +kernel
theorem dX12_readSplice_109 : decode cX12_readSplice 109 = .ok (.invokevirtual 368, 3) := by decide +kernel
theorem dX12_readSplice_112 : decode cX12_readSplice 112 = .ok (.aload_n 0, 1) := by decide +kernel
theorem dX12_readSplice_113 : decode cX12_readSplice 113 = .ok (.getfield 101, 3) := by decide +kernel
theorem dX12_readSplice_116 : decode cX12_readSplice 116 = .ok (.iload_n 1, 1) := by decide +kernel
theorem dX12_readSplice_117 : decode cX12_readSplice 117 = .ok (.iload_n 2, 1) := by decide +kernel
theorem dX12_readSplice_118 : decode cX12_readSplice 118 = .ok (.iastore, 1) := by decide +kernel
theorem dX12_readSplice_119 : decode cX12_readSplice 119 = .ok (.aload_n 0, 1) := by decide +kernel
theorem dX12_readSplice_120 : decode cX12_readSplice 120 = .ok (.getfield 104, 3) := by decide +kernel
theorem dX12_readSplice_123 : decode cX12_readSplice 123 = .ok (.iload_n 1, 1) := by decide +kernel
theorem dX12_readSplice_124 : decode cX12_readSplice 124 = .ok (.aload_n 0, 1) := by decide +kernel
theorem dX12_readSplice_125 : decode cX12_readSplice 125 = .ok (.ldc2_w 282, 3) := by decide +kernel
theorem dX12_readSplice_128 : decode cX12_readSplice 128 = .ok (.iconst 0, 1) := by decide +kernel
theorem dX12_readSplice_129 : decode cX12_readSplice 129 = .ok (.bipush 10, 2) := by decide +kernel
theorem dX12_readSplice_131 : decode cX12_readSplice 131 = .ok (.aload_n 0, 1) := by decide +kernel
theorem dX12_readSplice_132 : decode cX12_readSplice 132 = .ok (.getfield 62, 3) := by decide +kernel
theorem dX12_readSplice_135 : decode cX12_readSplice 135 = .ok (.iconst 3, 1) := by decide +kernel
theorem dX12_readSplice_136 : decode cX12_readSplice 136 = .ok (.aload_n 0, 1) := by decide +kernel
theorem dX12_readSplice_137 : decode cX12_readSplice 137 = .ok (.getfield 377, 3) := by decide +kernel
theorem dX12_readSplice_140 : decode cX12_readSplice 140 = .ok (.imul, 1) := by decide +kernel
theorem dX12_readSplice_141 : decode cX12_readSplice 141 = .ok (.iload_n 2, 1) := by decide +kernel
theorem dX12_readSplice_142 : decode cX12_readSplice 142 = .ok (.iadd, 1) := by decide +kernel
theorem dX12_readSplice_143 : decode cX12_readSplice 143 = .ok (.iaload, 1) := by decide +kernel
theorem dX12_readSplice_144 : decode cX12_readSplice 144 = .ok (.imul, 1) := by decide +kernel
theorem dX12_readSplice_145 : decode cX12_readSplice 145 = .ok (.iconst 1, 1) := by decide +kernel
theorem dX12_readSplice_146 : decode cX12_readSplice 146 = .ok (.isub, 1) := by decide +kernel
theorem dX12_readSplice_147 : decode cX12_readSplice 147 = .ok (.invokevirtual 434, 3) := by decide +kernel
theorem dX12_readSplice_150 : decode cX12_readSplice 150 = .ok (.iastore, 1) := by decide +kernel
theorem dX12_readSplice_151 : decode cX12_readSplice 151 = .ok (.aload_n 0, 1) := by decide +kernel
theorem dX12_readSplice_152 : decode cX12_readSplice 152 = .ok (.getfield 107, 3) := by decide +kernel
theorem dX12_readSplice_155 : decode cX12_readSplice 155 = .ok (.iload_n 1, 1) := by decide +kernel
theorem dX12_readSplice_156 : decode cX12_readSplice 156 = .ok (.aload_n 0, 1) := by decide +kernel
theorem dX12_readSplice_157 : decode cX12_readSplice 157 = .ok (.ldc2_w 288, 3) := by decide +kernel
theorem dX12_readSplice_160 : decode cX12_readSplice 160 = .ok (.iconst 1, 1) := by decide +kernel
theorem dX12_readSplice_161 : decode cX12_readSplice 161 = .ok (.sipush 9999, 3) := by decide +kernel
theorem dX12_readSplice_164 : decode cX12_readSplice 164 = .ok (.invokevirtual 434, 3) := by decide +kernel
theorem dX12_readSplice_167 : decode cX12_readSplice 167 = .ok (.iastore, 1) := by decide +kernel
theorem dX12_readSplice_168 : decode cX12_readSplice 168 = .ok (.aload_n 0, 1) := by decide +kernel
theorem dX12_readSplice_169 : decode cX12_readSplice 169 = .ok (.getfield 89, 3) := by decide +kernel
theorem dX12_readSplice_172 : decode cX12_readSplice 172 = .ok (.aload_n 0, 1) := by decide +kernel
theorem dX12_readSplice_173 : decode cX12_readSplice 173 = .ok (.getfield 377, 3) := by decide +kernel
theorem dX12_readSplice_176 : decode cX12_readSplice 176 = .ok (.dup2, 1) := by decide +kernel
theorem dX12_readSplice_177 : decode cX12_readSplice 177 = .ok (.iaload, 1) := by decide +kernel
theorem dX12_readSplice_178 : decode cX12_readSplice 178 = .ok (.iconst 1, 1) := by decide +kernel
theorem dX12_readSplice_179 : decode cX12_readSplice 179 = .ok (.iadd, 1) := by decide +kernel
theorem dX12_readSplice_180 : decode cX12_readSplice 180 = .ok (.iastore, 1) := by decide +kernel
theorem dX12_readSplice_181 : decode cX12_readSplice 181 = .ok (.return_, 1) := by decide +kernel
theorem dX12_rolls_0 : decode cX12_rolls 0 = .ok (.iconst 0, 1) := by decide +kernel
theorem dX12_rolls_1 : decode cX12_rolls 1 = .ok (.istore_n 1, 1) := by decide +kernel
theorem dX12_rolls_2 : decode cX12_rolls 2 = .ok (.iconst 0, 1) := by decide +kernel
theorem dX12_rolls_3 : decode cX12_rolls 3 = .ok (.istore_n 2, 1) := by decide +kernel
theorem dX12_rolls_4 : decode cX12_rolls 4 = .ok (.iload_n 2, 1) := by decide +kernel
theorem dX12_rolls_5 : decode cX12_rolls 5 = .ok (.aload_n 0, 1) := by decide +kernel
theorem dX12_rolls_6 : decode cX12_rolls 6 = .ok (.invokevirtual 477, 3) := by decide +kernel
theorem dX12_rolls_9 : decode cX12_rolls 9 = .ok (.if_icmp .ge 59, 3) := by decide +kernel
theorem dX12_rolls_12 : decode cX12_rolls 12 = .ok (.iload_n 1, 1) := by decide +kernel
theorem dX12_rolls_13 : decode cX12_rolls 13 = .ok (.aload_n 0, 1) := by decide +kernel
theorem dX12_rolls_14 : decode cX12_rolls 14 = .ok (.getfield 143, 3) := by decide +kernel
theorem dX12_rolls_17 : decode cX12_rolls 17 = .ok (.iload_n 2, 1) := by decide +kernel
theorem dX12_rolls_18 : decode cX12_rolls 18 = .ok (.iaload, 1) := by decide +kernel
theorem dX12_rolls_19 : decode cX12_rolls 19 = .ok (.iconst 3, 1) := by decide +kernel
theorem dX12_rolls_20 : decode cX12_rolls 20 = .ok (.if_icmp .eq 39, 3) := by decide +kernel
theorem dX12_rolls_23 : decode cX12_rolls 23 = .ok (.aload_n 0, 1) := by decide +kernel
theorem dX12_rolls_24 : decode cX12_rolls 24 = .ok (.iload_n 2, 1) := by decide +kernel
theorem dX12_rolls_25 : decode cX12_rolls 25 = .ok (.invokevirtual 480, 3) := by decide +kernel
theorem dX12_rolls_28 : decode cX12_rolls 28 = .ok (.aload_n 0, 1) := by decide +kernel
theorem dX12_rolls_29 : decode cX12_rolls 29 = .ok (.aload_n 0, 1) := by decide +kernel
theorem dX12_rolls_30 : decode cX12_rolls 30 = .ok (.iload_n 2, 1) := by decide +kernel
theorem dX12_rolls_31 : decode cX12_rolls 31 = .ok (.invokevirtual 553, 3) := by decide +kernel
theorem dX12_rolls_34 : decode cX12_rolls 34 = .ok (.invokevirtual 559, 3) := by decide +kernel
theorem dX12_rolls_37 : decode cX12_rolls 37 = .ok (.invokestatic 600, 3) := by decide +kernel
theorem dX12_rolls_40 : decode cX12_rolls 40 = .ok (.imul, 1) := by decide +kernel
theorem dX12_rolls_41 : decode cX12_rolls 41 = .ok (.aload_n 0, 1) := by decide +kernel
