theorem dX12_rolls_42 : decode cX12_rolls 42 = .ok (.getfield 39, 3) := by decide +kernel
theorem dX12_rolls_45 : decode cX12_rolls 45 = .ok (.aload_n 0, 1) := by decide +kernel
theorem dX12_rolls_46 : decode cX12_rolls 46 = .ok (.getfield 386, 3) := by decide +kernel
theorem dX12_rolls_49 : decode cX12_rolls 49 = .ok (.iaload, 1) := by decide +kernel
theorem dX12_rolls_50 : decode cX12_rolls 50 = .ok (.if_icmp .le 9, 3) := by decide +kernel
theorem dX12_rolls_53 : decode cX12_rolls 53 = .ok (.iconst 1, 1) := by decide +kernel
theorem dX12_rolls_54 : decode cX12_rolls 54 = .ok (.iload_n 2, 1) := by decide +kernel
theorem dX12_rolls_55 : decode cX12_rolls 55 = .ok (.ishl, 1) := by decide +kernel
theorem dX12_rolls_56 : decode cX12_rolls 56 = .ok (.goto 4, 3) := by decide +kernel
theorem dX12_rolls_59 : decode cX12_rolls 59 = .ok (.iconst 0, 1) := by decide +kernel
theorem dX12_rolls_60 : decode cX12_rolls 60 = .ok (.ior, 1) := by decide +kernel
theorem dX12_rolls_61 : decode cX12_rolls 61 = .ok (.istore_n 1, 1) := by decide +kernel
theorem dX12_rolls_62 : decode cX12_rolls 62 = .ok (.iinc 2 1, 3) := by decide +kernel
theorem dX12_rolls_65 : decode cX12_rolls 65 = .ok (.goto (-61), 3) := by decide +kernel
theorem dX12_rolls_68 : decode cX12_rolls 68 = .ok (.iload_n 1, 1) := by decide +kernel
theorem dX12_rolls_69 : decode cX12_rolls 69 = .ok (.ireturn, 1) := by decide +kernel
theorem dX12_rope_0 : decode cX12_rope 0 = .ok (.aload_n 0, 1) := by decide +kernel
theorem dX12_rope_1 : decode cX12_rope 1 = .ok (.iload_n 1, 1) := by decide +kernel
theorem dX12_rope_2 : decode cX12_rope 2 = .ok (.invokevirtual 631, 3) := by decide +kernel
theorem dX12_rope_5 : decode cX12_rope 5 = .ok (.ifCond .ne 5, 3) := by decide +kernel
theorem dX12_rope_8 : decode cX12_rope 8 = .ok (.iconst (-1), 1) := by decide +kernel
theorem dX12_rope_9 : decode cX12_rope 9 = .ok (.ireturn, 1) := by decide +kernel
theorem dX12_rope_10 : decode cX12_rope 10 = .ok (.iload_n 2, 1) := by decide +kernel
theorem dX12_rope_11 : decode cX12_rope 11 = .ok (.tableswitch 82 0 2 #[25, 31, 46], 25) := by decide +kernel
theorem dX12_rope_36 : decode cX12_rope 36 = .ok (.aload_n 0, 1) := by decide +kernel
theorem dX12_rope_37 : decode cX12_rope 37 = .ok (.iload_n 1, 1) := by decide +kernel
theorem dX12_rope_38 : decode cX12_rope 38 = .ok (.invokevirtual 490, 3) := by decide +kernel
theorem dX12_rope_41 : decode cX12_rope 41 = .ok (.ireturn, 1) := by decide +kernel
theorem dX12_rope_42 : decode cX12_rope 42 = .ok (.aload_n 0, 1) := by decide +kernel
theorem dX12_rope_43 : decode cX12_rope 43 = .ok (.getfield 161, 3) := by decide +kernel
theorem dX12_rope_46 : decode cX12_rope 46 = .ok (.iload_n 1, 1) := by decide +kernel
theorem dX12_rope_47 : decode cX12_rope 47 = .ok (.baload, 1) := by decide +kernel
theorem dX12_rope_48 : decode cX12_rope 48 = .ok (.ifCond .eq 7, 3) := by decide +kernel
theorem dX12_rope_51 : decode cX12_rope 51 = .ok (.iconst 1, 1) := by decide +kernel
theorem dX12_rope_52 : decode cX12_rope 52 = .ok (.goto 4, 3) := by decide +kernel
theorem dX12_rope_55 : decode cX12_rope 55 = .ok (.iconst 0, 1) := by decide +kernel
theorem dX12_rope_56 : decode cX12_rope 56 = .ok (.ireturn, 1) := by decide +kernel
theorem dX12_rope_57 : decode cX12_rope 57 = .ok (.aload_n 0, 1) := by decide +kernel
theorem dX12_rope_58 : decode cX12_rope 58 = .ok (.getfield 161, 3) := by decide +kernel
theorem dX12_rope_61 : decode cX12_rope 61 = .ok (.iload_n 1, 1) := by decide +kernel
theorem dX12_rope_62 : decode cX12_rope 62 = .ok (.baload, 1) := by decide +kernel
theorem dX12_rope_63 : decode cX12_rope 63 = .ok (.ifCond .ne 28, 3) := by decide +kernel
theorem dX12_rope_66 : decode cX12_rope 66 = .ok (.aload_n 0, 1) := by decide +kernel
theorem dX12_rope_67 : decode cX12_rope 67 = .ok (.iload_n 1, 1) := by decide +kernel
theorem dX12_rope_68 : decode cX12_rope 68 = .ok (.invokevirtual 490, 3) := by decide +kernel
theorem dX12_rope_71 : decode cX12_rope 71 = .ok (.aload_n 0, 1) := by decide +kernel
theorem dX12_rope_72 : decode cX12_rope 72 = .ok (.getfield 71, 3) := by decide +kernel
theorem dX12_rope_75 : decode cX12_rope 75 = .ok (.iconst 3, 1) := by decide +kernel
theorem dX12_rope_76 : decode cX12_rope 76 = .ok (.aload_n 0, 1) := by decide +kernel
theorem dX12_rope_77 : decode cX12_rope 77 = .ok (.getfield 386, 3) := by decide +kernel
theorem dX12_rope_80 : decode cX12_rope 80 = .ok (.imul, 1) := by decide +kernel
theorem dX12_rope_81 : decode cX12_rope 81 = .ok (.iload_n 1, 1) := by decide +kernel
theorem dX12_rope_82 : decode cX12_rope 82 = .ok (.iadd, 1) := by decide +kernel
theorem dX12_rope_83 : decode cX12_rope 83 = .ok (.iaload, 1) := by decide +kernel
theorem dX12_rope_84 : decode cX12_rope 84 = .ok (.if_icmp .le 7, 3) := by decide +kernel
theorem dX12_rope_87 : decode cX12_rope 87 = .ok (.iconst 1, 1) := by decide +kernel
theorem dX12_rope_88 : decode cX12_rope 88 = .ok (.goto 4, 3) := by decide +kernel
theorem dX12_rope_91 : decode cX12_rope 91 = .ok (.iconst 0, 1) := by decide +kernel
theorem dX12_rope_92 : decode cX12_rope 92 = .ok (.ireturn, 1) := by decide +kernel
theorem dX12_rope_93 : decode cX12_rope 93 = .ok (.iconst (-1), 1) := by decide +kernel
theorem dX12_rope_94 : decode cX12_rope 94 = .ok (.ireturn, 1) := by decide +kernel
theorem dX12_ropeAt_0 : decode cX12_ropeAt 0 = .ok (.aload_n 0, 1) := by decide +kernel
theorem dX12_ropeAt_1 : decode cX12_ropeAt 1 = .ok (.getfield 77, 3) := by decide +kernel
theorem dX12_ropeAt_4 : decode cX12_ropeAt 4 = .ok (.bipush 60, 2) := by decide +kernel
theorem dX12_ropeAt_6 : decode cX12_ropeAt 6 = .ok (.aload_n 0, 1) := by decide +kernel
theorem dX12_ropeAt_7 : decode cX12_ropeAt 7 = .ok (.getfield 386, 3) := by decide +kernel
theorem dX12_ropeAt_10 : decode cX12_ropeAt 10 = .ok (.imul, 1) := by decide +kernel
theorem dX12_ropeAt_11 : decode cX12_ropeAt 11 = .ok (.iload_n 1, 1) := by decide +kernel
theorem dX12_ropeAt_12 : decode cX12_ropeAt 12 = .ok (.iadd, 1) := by decide +kernel
theorem dX12_ropeAt_13 : decode cX12_ropeAt 13 = .ok (.iaload, 1) := by decide +kernel
theorem dX12_ropeAt_14 : decode cX12_ropeAt 14 = .ok (.ireturn, 1) := by decide +kernel
theorem dX12_ropeHere_0 : decode cX12_ropeHere 0 = .ok (.iconst 0, 1) := by decide +kernel
theorem dX12_ropeHere_1 : decode cX12_ropeHere 1 = .ok (.istore_n 1, 1) := by decide +kernel
theorem dX12_ropeHere_2 : decode cX12_ropeHere 2 = .ok (.iload_n 1, 1) := by decide +kernel
theorem dX12_ropeHere_3 : decode cX12_ropeHere 3 = .ok (.aload_n 0, 1) := by decide +kernel
theorem dX12_ropeHere_4 : decode cX12_ropeHere 4 = .ok (.getfield 20, 3) := by decide +kernel
theorem dX12_ropeHere_7 : decode cX12_ropeHere 7 = .ok (.aload_n 0, 1) := by decide +kernel
theorem dX12_ropeHere_8 : decode cX12_ropeHere 8 = .ok (.getfield 377, 3) := by decide +kernel
theorem dX12_ropeHere_11 : decode cX12_ropeHere 11 = .ok (.iaload, 1) := by decide +kernel
theorem dX12_ropeHere_12 : decode cX12_ropeHere 12 = .ok (.if_icmp .ge 40, 3) := by decide +kernel
theorem dX12_ropeHere_15 : decode cX12_ropeHere 15 = .ok (.aload_n 0, 1) := by decide +kernel
theorem dX12_ropeHere_16 : decode cX12_ropeHere 16 = .ok (.getfield 336, 3) := by decide +kernel
theorem dX12_ropeHere_19 : decode cX12_ropeHere 19 = .ok (.iconst 2, 1) := by decide +kernel
theorem dX12_ropeHere_20 : decode cX12_ropeHere 20 = .ok (.if_icmp .ne 26, 3) := by decide +kernel
theorem dX12_ropeHere_23 : decode cX12_ropeHere 23 = .ok (.aload_n 0, 1) := by decide +kernel
theorem dX12_ropeHere_24 : decode cX12_ropeHere 24 = .ok (.getfield 52, 3) := by decide +kernel
theorem dX12_ropeHere_27 : decode cX12_ropeHere 27 = .ok (.iconst 3, 1) := by decide +kernel
theorem dX12_ropeHere_28 : decode cX12_ropeHere 28 = .ok (.aload_n 0, 1) := by decide +kernel
theorem dX12_ropeHere_29 : decode cX12_ropeHere 29 = .ok (.getfield 377, 3) := by decide +kernel
theorem dX12_ropeHere_32 : decode cX12_ropeHere 32 = .ok (.imul, 1) := by decide +kernel
theorem dX12_ropeHere_33 : decode cX12_ropeHere 33 = .ok (.iload_n 1, 1) := by decide +kernel
theorem dX12_ropeHere_34 : decode cX12_ropeHere 34 = .ok (.iadd, 1) := by decide +kernel
theorem dX12_ropeHere_35 : decode cX12_ropeHere 35 = .ok (.laload, 1) := by decide +kernel
theorem dX12_ropeHere_36 : decode cX12_ropeHere 36 = .ok (.aload_n 0, 1) := by decide +kernel
theorem dX12_ropeHere_37 : decode cX12_ropeHere 37 = .ok (.getfield 343, 3) := by decide +kernel
theorem dX12_ropeHere_40 : decode cX12_ropeHere 40 = .ok (.lcmp, 1) := by decide +kernel
theorem dX12_ropeHere_41 : decode cX12_ropeHere 41 = .ok (.ifCond .ne 5, 3) := by decide +kernel
theorem dX12_ropeHere_44 : decode cX12_ropeHere 44 = .ok (.iload_n 1, 1) := by decide +kernel
theorem dX12_ropeHere_45 : decode cX12_ropeHere 45 = .ok (.ireturn, 1) := by decide +kernel
theorem dX12_ropeHere_46 : decode cX12_ropeHere 46 = .ok (.iinc 1 1, 3) := by decide +kernel
theorem dX12_ropeHere_49 : decode cX12_ropeHere 49 = .ok (.goto (-47), 3) := by decide +kernel
theorem dX12_ropeHere_52 : decode cX12_ropeHere 52 = .ok (.iconst (-1), 1) := by decide +kernel
theorem dX12_ropeHere_53 : decode cX12_ropeHere 53 = .ok (.ireturn, 1) := by decide +kernel
theorem dX12_run_0 : decode cX12_run 0 = .ok (.iload_n 1, 1) := by decide +kernel
theorem dX12_run_1 : decode cX12_run 1 = .ok (.iconst 0, 1) := by decide +kernel
theorem dX12_run_2 : decode cX12_run 2 = .ok (.sipush 500, 3) := by decide +kernel
theorem dX12_run_5 : decode cX12_run 5 = .ok (.invokestatic 503, 3) := by decide +kernel
theorem dX12_run_8 : decode cX12_run 8 = .ok (.ifCond .eq 15, 3) := by decide +kernel
theorem dX12_run_11 : decode cX12_run 11 = .ok (.aload_n 0, 1) := by decide +kernel
theorem dX12_run_12 : decode cX12_run 12 = .ok (.getfield 483, 3) := by decide +kernel
theorem dX12_run_15 : decode cX12_run 15 = .ok (.iload_n 1, 1) := by decide +kernel
theorem dX12_run_16 : decode cX12_run 16 = .ok (.iadd, 1) := by decide +kernel
theorem dX12_run_17 : decode cX12_run 17 = .ok (.ldc_w 621, 3) := by decide +kernel
theorem dX12_run_20 : decode cX12_run 20 = .ok (.if_icmp .le 5, 3) := by decide +kernel
theorem dX12_run_23 : decode cX12_run 23 = .ok (.iconst (-1), 1) := by decide +kernel
theorem dX12_run_24 : decode cX12_run 24 = .ok (.ireturn, 1) := by decide +kernel
theorem dX12_run_25 : decode cX12_run 25 = .ok (.iconst 0, 1) := by decide +kernel
theorem dX12_run_26 : decode cX12_run 26 = .ok (.istore_n 2, 1) := by decide +kernel
theorem dX12_run_27 : decode cX12_run 27 = .ok (.iload_n 2, 1) := by decide +kernel
theorem dX12_run_28 : decode cX12_run 28 = .ok (.iload_n 1, 1) := by decide +kernel
theorem dX12_run_29 : decode cX12_run 29 = .ok (.if_icmp .ge 13, 3) := by decide +kernel
theorem dX12_run_32 : decode cX12_run 32 = .ok (.aload_n 0, 1) := by decide +kernel
theorem dX12_run_33 : decode cX12_run 33 = .ok (.invokevirtual 622, 3) := by decide +kernel
theorem dX12_run_36 : decode cX12_run 36 = .ok (.iinc 2 1, 3) := by decide +kernel
theorem dX12_run_39 : decode cX12_run 39 = .ok (.goto (-12), 3) := by decide +kernel
theorem dX12_run_42 : decode cX12_run 42 = .ok (.aload_n 0, 1) := by decide +kernel
theorem dX12_run_43 : decode cX12_run 43 = .ok (.invokevirtual 625, 3) := by decide +kernel
theorem dX12_run_46 : decode cX12_run 46 = .ok (.ireturn, 1) := by decide +kernel
theorem dX12_runaway_0 : decode cX12_runaway 0 = .ok (.aload_n 0, 1) := by decide +kernel
theorem dX12_runaway_1 : decode cX12_runaway 1 = .ok (.iload_n 1, 1) := by decide +kernel
theorem dX12_runaway_2 : decode cX12_runaway 2 = .ok (.invokevirtual 628, 3) := by decide +kernel
theorem dX12_runaway_5 : decode cX12_runaway 5 = .ok (.ifCond .eq 36, 3) := by decide +kernel
theorem dX12_runaway_8 : decode cX12_runaway 8 = .ok (.iload_n 2, 1) := by decide +kernel
theorem dX12_runaway_9 : decode cX12_runaway 9 = .ok (.invokestatic 647, 3) := by decide +kernel
theorem dX12_runaway_12 : decode cX12_runaway 12 = .ok (.ifCond .eq 29, 3) := by decide +kernel
theorem dX12_runaway_15 : decode cX12_runaway 15 = .ok (.aload_n 0, 1) := by decide +kernel
theorem dX12_runaway_16 : decode cX12_runaway 16 = .ok (.iload_n 1, 1) := by decide +kernel
theorem dX12_runaway_17 : decode cX12_runaway 17 = .ok (.invokevirtual 480, 3) := by decide +kernel
theorem dX12_runaway_20 : decode cX12_runaway 20 = .ok (.aload_n 0, 1) := by decide +kernel
theorem dX12_runaway_21 : decode cX12_runaway 21 = .ok (.iload_n 2, 1) := by decide +kernel
theorem dX12_runaway_22 : decode cX12_runaway 22 = .ok (.invokevirtual 559, 3) := by decide +kernel
theorem dX12_runaway_25 : decode cX12_runaway 25 = .ok (.invokestatic 600, 3) := by decide +kernel
theorem dX12_runaway_28 : decode cX12_runaway 28 = .ok (.imul, 1) := by decide +kernel
theorem dX12_runaway_29 : decode cX12_runaway 29 = .ok (.aload_n 0, 1) := by decide +kernel
theorem dX12_runaway_30 : decode cX12_runaway 30 = .ok (.getfield 39, 3) := by decide +kernel
theorem dX12_runaway_33 : decode cX12_runaway 33 = .ok (.aload_n 0, 1) := by decide +kernel
theorem dX12_runaway_34 : decode cX12_runaway 34 = .ok (.getfield 386, 3) := by decide +kernel
theorem dX12_runaway_37 : decode cX12_runaway 37 = .ok (.iaload, 1) := by decide +kernel
theorem dX12_runaway_38 : decode cX12_runaway 38 = .ok (.if_icmp .gt 5, 3) := by decide +kernel
theorem dX12_runaway_41 : decode cX12_runaway 41 = .ok (.iconst (-1), 1) := by decide +kernel
theorem dX12_runaway_42 : decode cX12_runaway 42 = .ok (.ireturn, 1) := by decide +kernel
theorem dX12_runaway_43 : decode cX12_runaway 43 = .ok (.bipush 10, 2) := by decide +kernel
theorem dX12_runaway_45 : decode cX12_runaway 45 = .ok (.iload_n 2, 1) := by decide +kernel
theorem dX12_runaway_46 : decode cX12_runaway 46 = .ok (.imul, 1) := by decide +kernel
theorem dX12_runaway_47 : decode cX12_runaway 47 = .ok (.iconst 5, 1) := by decide +kernel
theorem dX12_runaway_48 : decode cX12_runaway 48 = .ok (.iadd, 1) := by decide +kernel
theorem dX12_runaway_49 : decode cX12_runaway 49 = .ok (.istore_n 3, 1) := by decide +kernel
theorem dX12_runaway_50 : decode cX12_runaway 50 = .ok (.iconst 0, 1) := by decide +kernel
theorem dX12_runaway_51 : decode cX12_runaway 51 = .ok (.istore 4, 2) := by decide +kernel
theorem dX12_runaway_53 : decode cX12_runaway 53 = .ok (.iconst 0, 1) := by decide +kernel
theorem dX12_runaway_54 : decode cX12_runaway 54 = .ok (.istore 5, 2) := by decide +kernel
theorem dX12_runaway_56 : decode cX12_runaway 56 = .ok (.iconst 1, 1) := by decide +kernel
theorem dX12_runaway_57 : decode cX12_runaway 57 = .ok (.istore 6, 2) := by decide +kernel
theorem dX12_runaway_59 : decode cX12_runaway 59 = .ok (.iconst 0, 1) := by decide +kernel
theorem dX12_runaway_60 : decode cX12_runaway 60 = .ok (.istore 7, 2) := by decide +kernel
theorem dX12_runaway_62 : decode cX12_runaway 62 = .ok (.iload 7, 2) := by decide +kernel
theorem dX12_runaway_64 : decode cX12_runaway 64 = .ok (.sipush 500, 3) := by decide +kernel
theorem dX12_runaway_67 : decode cX12_runaway 67 = .ok (.if_icmp .ge 76, 3) := by decide +kernel
theorem dX12_runaway_70 : decode cX12_runaway 70 = .ok (.iload 6, 2) := by decide +kernel
theorem dX12_runaway_72 : decode cX12_runaway 72 = .ok (.ifCond .eq 71, 3) := by decide +kernel
theorem dX12_runaway_75 : decode cX12_runaway 75 = .ok (.aload_n 0, 1) := by decide +kernel
theorem dX12_runaway_76 : decode cX12_runaway 76 = .ok (.iload 4, 2) := by decide +kernel
theorem dX12_runaway_78 : decode cX12_runaway 78 = .ok (.iload_n 3, 1) := by decide +kernel
theorem dX12_runaway_79 : decode cX12_runaway 79 = .ok (.bipush 10, 2) := by decide +kernel
theorem dX12_runaway_81 : decode cX12_runaway 81 = .ok (.idiv, 1) := by decide +kernel
theorem dX12_runaway_82 : decode cX12_runaway 82 = .ok (.invokevirtual 584, 3) := by decide +kernel
theorem dX12_runaway_85 : decode cX12_runaway 85 = .ok (.istore 4, 2) := by decide +kernel
theorem dX12_runaway_87 : decode cX12_runaway 87 = .ok (.iload_n 3, 1) := by decide +kernel
theorem dX12_runaway_88 : decode cX12_runaway 88 = .ok (.iload 4, 2) := by decide +kernel
theorem dX12_runaway_90 : decode cX12_runaway 90 = .ok (.iadd, 1) := by decide +kernel
theorem dX12_runaway_91 : decode cX12_runaway 91 = .ok (.istore_n 3, 1) := by decide +kernel
theorem dX12_runaway_92 : decode cX12_runaway 92 = .ok (.iload 4, 2) := by decide +kernel
theorem dX12_runaway_94 : decode cX12_runaway 94 = .ok (.invokestatic 600, 3) := by decide +kernel
theorem dX12_runaway_97 : decode cX12_runaway 97 = .ok (.iload 5, 2) := by decide +kernel
theorem dX12_runaway_99 : decode cX12_runaway 99 = .ok (.if_icmp .le 11, 3) := by decide +kernel
theorem dX12_runaway_102 : decode cX12_runaway 102 = .ok (.iload 4, 2) := by decide +kernel
theorem dX12_runaway_104 : decode cX12_runaway 104 = .ok (.invokestatic 600, 3) := by decide +kernel
theorem dX12_runaway_107 : decode cX12_runaway 107 = .ok (.goto 5, 3) := by decide +kernel
theorem dX12_runaway_110 : decode cX12_runaway 110 = .ok (.iload 5, 2) := by decide +kernel
theorem dX12_runaway_112 : decode cX12_runaway 112 = .ok (.istore 5, 2) := by decide +kernel
theorem dX12_runaway_114 : decode cX12_runaway 114 = .ok (.iload 4, 2) := by decide +kernel
theorem dX12_runaway_116 : decode cX12_runaway 116 = .ok (.ifCond .eq 18, 3) := by decide +kernel
theorem dX12_runaway_119 : decode cX12_runaway 119 = .ok (.iload_n 3, 1) := by decide +kernel
theorem dX12_runaway_120 : decode cX12_runaway 120 = .ok (.ifCond .lt 14, 3) := by decide +kernel
theorem dX12_runaway_123 : decode cX12_runaway 123 = .ok (.iload_n 3, 1) := by decide +kernel
theorem dX12_runaway_124 : decode cX12_runaway 124 = .ok (.sipush 600, 3) := by decide +kernel
theorem dX12_runaway_127 : decode cX12_runaway 127 = .ok (.if_icmp .ge 7, 3) := by decide +kernel
theorem dX12_runaway_130 : decode cX12_runaway 130 = .ok (.iconst 1, 1) := by decide +kernel
theorem dX12_runaway_131 : decode cX12_runaway 131 = .ok (.goto 4, 3) := by decide +kernel
theorem dX12_runaway_134 : decode cX12_runaway 134 = .ok (.iconst 0, 1) := by decide +kernel
theorem dX12_runaway_135 : decode cX12_runaway 135 = .ok (.istore 6, 2) := by decide +kernel
theorem dX12_runaway_137 : decode cX12_runaway 137 = .ok (.iinc 7 1, 3) := by decide +kernel
theorem dX12_runaway_140 : decode cX12_runaway 140 = .ok (.goto (-78), 3) := by decide +kernel
theorem dX12_runaway_143 : decode cX12_runaway 143 = .ok (.iload 5, 2) := by decide +kernel
theorem dX12_runaway_145 : decode cX12_runaway 145 = .ok (.ireturn, 1) := by decide +kernel
theorem dX12_segmentOf_0 : decode cX12_segmentOf 0 = .ok (.iconst 3, 1) := by decide +kernel
theorem dX12_segmentOf_1 : decode cX12_segmentOf 1 = .ok (.aload_n 0, 1) := by decide +kernel
theorem dX12_segmentOf_2 : decode cX12_segmentOf 2 = .ok (.getfield 386, 3) := by decide +kernel
theorem dX12_segmentOf_5 : decode cX12_segmentOf 5 = .ok (.imul, 1) := by decide +kernel
theorem dX12_segmentOf_6 : decode cX12_segmentOf 6 = .ok (.iload_n 1, 1) := by decide +kernel
theorem dX12_segmentOf_7 : decode cX12_segmentOf 7 = .ok (.iadd, 1) := by decide +kernel
theorem dX12_segmentOf_8 : decode cX12_segmentOf 8 = .ok (.istore_n 3, 1) := by decide +kernel
theorem dX12_segmentOf_9 : decode cX12_segmentOf 9 = .ok (.aload_n 0, 1) := by decide +kernel
theorem dX12_segmentOf_10 : decode cX12_segmentOf 10 = .ok (.getfield 65, 3) := by decide +kernel
theorem dX12_segmentOf_13 : decode cX12_segmentOf 13 = .ok (.iload_n 3, 1) := by decide +kernel
theorem dX12_segmentOf_14 : decode cX12_segmentOf 14 = .ok (.iaload, 1) := by decide +kernel
theorem dX12_segmentOf_15 : decode cX12_segmentOf 15 = .ok (.iload_n 2, 1) := by decide +kernel
theorem dX12_segmentOf_16 : decode cX12_segmentOf 16 = .ok (.bipush 10, 2) := by decide +kernel
theorem dX12_segmentOf_18 : decode cX12_segmentOf 18 = .ok (.idiv, 1) := by decide +kernel
theorem dX12_segmentOf_19 : decode cX12_segmentOf 19 = .ok (.iadd, 1) := by decide +kernel
theorem dX12_segmentOf_20 : decode cX12_segmentOf 20 = .ok (.istore 4, 2) := by decide +kernel
theorem dX12_segmentOf_22 : decode cX12_segmentOf 22 = .ok (.iload 4, 2) := by decide +kernel
theorem dX12_segmentOf_24 : decode cX12_segmentOf 24 = .ok (.aload_n 0, 1) := by decide +kernel
theorem dX12_segmentOf_25 : decode cX12_segmentOf 25 = .ok (.getfield 68, 3) := by decide +kernel
theorem dX12_segmentOf_28 : decode cX12_segmentOf 28 = .ok (.iload_n 3, 1) := by decide +kernel
theorem dX12_segmentOf_29 : decode cX12_segmentOf 29 = .ok (.iaload, 1) := by decide +kernel
theorem dX12_segmentOf_30 : decode cX12_segmentOf 30 = .ok (.if_icmp .gt 8, 3) := by decide +kernel
theorem dX12_segmentOf_33 : decode cX12_segmentOf 33 = .ok (.iload 4, 2) := by decide +kernel
theorem dX12_segmentOf_35 : decode cX12_segmentOf 35 = .ok (.goto 4, 3) := by decide +kernel
theorem dX12_segmentOf_38 : decode cX12_segmentOf 38 = .ok (.iconst (-1), 1) := by decide +kernel
theorem dX12_segmentOf_39 : decode cX12_segmentOf 39 = .ok (.ireturn, 1) := by decide +kernel
theorem dX12_sign_0 : decode cX12_sign 0 = .ok (.iload_n 1, 1) := by decide +kernel
theorem dX12_sign_1 : decode cX12_sign 1 = .ok (.aload_n 0, 1) := by decide +kernel
theorem dX12_sign_2 : decode cX12_sign 2 = .ok (.getfield 260, 3) := by decide +kernel
theorem dX12_sign_5 : decode cX12_sign 5 = .ok (.if_icmp .ge 16, 3) := by decide +kernel
theorem dX12_sign_8 : decode cX12_sign 8 = .ok (.aload_n 0, 1) := by decide +kernel
theorem dX12_sign_9 : decode cX12_sign 9 = .ok (.getfield 13, 3) := by decide +kernel
theorem dX12_sign_12 : decode cX12_sign 12 = .ok (.iload_n 1, 1) := by decide +kernel
theorem dX12_sign_13 : decode cX12_sign 13 = .ok (.baload, 1) := by decide +kernel
theorem dX12_sign_14 : decode cX12_sign 14 = .ok (.sipush 255, 3) := by decide +kernel
theorem dX12_sign_17 : decode cX12_sign 17 = .ok (.iand, 1) := by decide +kernel
theorem dX12_sign_18 : decode cX12_sign 18 = .ok (.goto 4, 3) := by decide +kernel
theorem dX12_sign_21 : decode cX12_sign 21 = .ok (.iconst 0, 1) := by decide +kernel
theorem dX12_sign_22 : decode cX12_sign 22 = .ok (.ireturn, 1) := by decide +kernel
theorem dX12_signOf_0 : decode cX12_signOf 0 = .ok (.iload_n 0, 1) := by decide +kernel
theorem dX12_signOf_1 : decode cX12_signOf 1 = .ok (.ifCond .le 7, 3) := by decide +kernel
theorem dX12_signOf_4 : decode cX12_signOf 4 = .ok (.iconst 1, 1) := by decide +kernel
theorem dX12_signOf_5 : decode cX12_signOf 5 = .ok (.goto 12, 3) := by decide +kernel
theorem dX12_signOf_8 : decode cX12_signOf 8 = .ok (.iload_n 0, 1) := by decide +kernel
theorem dX12_signOf_9 : decode cX12_signOf 9 = .ok (.ifCond .ge 7, 3) := by decide +kernel
theorem dX12_signOf_12 : decode cX12_signOf 12 = .ok (.iconst (-1), 1) := by decide +kernel
theorem dX12_signOf_13 : decode cX12_signOf 13 = .ok (.goto 4, 3) := by decide +kernel
theorem dX12_signOf_16 : decode cX12_signOf 16 = .ok (.iconst 0, 1) := by decide +kernel
theorem dX12_signOf_17 : decode cX12_signOf 17 = .ok (.ireturn, 1) := by decide +kernel
theorem dX12_signed_0 : decode cX12_signed 0 = .ok (.aload_n 0, 1) := by decide +kernel
theorem dX12_signed_1 : decode cX12_signed 1 = .ok (.invokevirtual 364, 3) := by decide +kernel
theorem dX12_signed_4 : decode cX12_signed 4 = .ok (.ifCond .ne 5, 3) := by decide +kernel
theorem dX12_signed_7 : decode cX12_signed 7 = .ok (.iconst 0, 1) := by decide +kernel
theorem dX12_signed_8 : decode cX12_signed 8 = .ok (.ireturn, 1) := by decide +kernel
theorem dX12_signed_9 : decode cX12_signed 9 = .ok (.aload_n 0, 1) := by decide +kernel
theorem dX12_signed_10 : decode cX12_signed 10 = .ok (.getfield 329, 3) := by decide +kernel
theorem dX12_signed_13 : decode cX12_signed 13 = .ok (.istore_n 2, 1) := by decide +kernel
theorem dX12_signed_14 : decode cX12_signed 14 = .ok (.aload_n 0, 1) := by decide +kernel
theorem dX12_signed_15 : decode cX12_signed 15 = .ok (.bipush 45, 2) := by decide +kernel
theorem dX12_signed_17 : decode cX12_signed 17 = .ok (.invokevirtual 374, 3) := by decide +kernel
theorem dX12_signed_20 : decode cX12_signed 20 = .ok (.istore_n 3, 1) := by decide +kernel
theorem dX12_signed_21 : decode cX12_signed 21 = .ok (.iload_n 3, 1) := by decide +kernel
theorem dX12_signed_22 : decode cX12_signed 22 = .ok (.ifCond .eq 7, 3) := by decide +kernel
theorem dX12_signed_25 : decode cX12_signed 25 = .ok (.aload_n 0, 1) := by decide +kernel
theorem dX12_signed_26 : decode cX12_signed 26 = .ok (.invokevirtual 368, 3) := by decide +kernel
theorem dX12_signed_29 : decode cX12_signed 29 = .ok (.aload_n 0, 1) := by decide +kernel
theorem dX12_signed_30 : decode cX12_signed 30 = .ok (.getfield 336, 3) := by decide +kernel
theorem dX12_signed_33 : decode cX12_signed 33 = .ok (.iconst 4, 1) := by decide +kernel
theorem dX12_signed_34 : decode cX12_signed 34 = .ok (.if_icmp .eq 7, 3) := by decide +kernel
theorem dX12_signed_37 : decode cX12_signed 37 = .ok (.aload_n 0, 1) := by decide +kernel
theorem dX12_signed_38 : decode cX12_signed 38 = .ok (.invokevirtual 371, 3) := by decide +kernel
theorem dX12_signed_41 : decode cX12_signed 41 = .ok (.aload_n 0, 1) := by decide +kernel
theorem dX12_signed_42 : decode cX12_signed 42 = .ok (.invokevirtual 364, 3) := by decide +kernel
theorem dX12_signed_45 : decode cX12_signed 45 = .ok (.ifCond .eq 17, 3) := by decide +kernel
theorem dX12_signed_48 : decode cX12_signed 48 = .ok (.aload_n 0, 1) := by decide +kernel
theorem dX12_signed_49 : decode cX12_signed 49 = .ok (.getfield 354, 3) := by decide +kernel
theorem dX12_signed_52 : decode cX12_signed 52 = .ok (.iload_n 1, 1) := by decide +kernel
theorem dX12_signed_53 : decode cX12_signed 53 = .ok (.if_icmp .le 9, 3) := by decide +kernel
theorem dX12_signed_56 : decode cX12_signed 56 = .ok (.aload_n 0, 1) := by decide +kernel
theorem dX12_signed_57 : decode cX12_signed 57 = .ok (.iconst 4, 1) := by decide +kernel
theorem dX12_signed_58 : decode cX12_signed 58 = .ok (.iload_n 2, 1) := by decide +kernel
theorem dX12_signed_59 : decode cX12_signed 59 = .ok (.invokevirtual 360, 3) := by decide +kernel
theorem dX12_signed_62 : decode cX12_signed 62 = .ok (.iload_n 3, 1) := by decide +kernel
theorem dX12_signed_63 : decode cX12_signed 63 = .ok (.ifCond .eq 11, 3) := by decide +kernel
theorem dX12_signed_66 : decode cX12_signed 66 = .ok (.aload_n 0, 1) := by decide +kernel
theorem dX12_signed_67 : decode cX12_signed 67 = .ok (.getfield 354, 3) := by decide +kernel
theorem dX12_signed_70 : decode cX12_signed 70 = .ok (.ineg, 1) := by decide +kernel
theorem dX12_signed_71 : decode cX12_signed 71 = .ok (.goto 7, 3) := by decide +kernel
theorem dX12_signed_74 : decode cX12_signed 74 = .ok (.aload_n 0, 1) := by decide +kernel
theorem dX12_signed_75 : decode cX12_signed 75 = .ok (.getfield 354, 3) := by decide +kernel
theorem dX12_signed_78 : decode cX12_signed 78 = .ok (.istore 4, 2) := by decide +kernel
theorem dX12_signed_80 : decode cX12_signed 80 = .ok (.aload_n 0, 1) := by decide +kernel
theorem dX12_signed_81 : decode cX12_signed 81 = .ok (.invokevirtual 364, 3) := by decide +kernel
theorem dX12_signed_84 : decode cX12_signed 84 = .ok (.ifCond .eq 7, 3) := by decide +kernel
theorem dX12_signed_87 : decode cX12_signed 87 = .ok (.aload_n 0, 1) := by decide +kernel
theorem dX12_signed_88 : decode cX12_signed 88 = .ok (.invokevirtual 368, 3) := by decide +kernel
theorem dX12_signed_91 : decode cX12_signed 91 = .ok (.aload_n 0, 1) := by decide +kernel
theorem dX12_signed_92 : decode cX12_signed 92 = .ok (.invokevirtual 364, 3) := by decide +kernel
theorem dX12_signed_95 : decode cX12_signed 95 = .ok (.ifCond .eq 8, 3) := by decide +kernel
theorem dX12_signed_98 : decode cX12_signed 98 = .ok (.iload 4, 2) := by decide +kernel
theorem dX12_signed_100 : decode cX12_signed 100 = .ok (.goto 4, 3) := by decide +kernel
theorem dX12_signed_103 : decode cX12_signed 103 = .ok (.iconst 0, 1) := by decide +kernel
theorem dX12_signed_104 : decode cX12_signed 104 = .ok (.ireturn, 1) := by decide +kernel
theorem dX12_sizeOf_0 : decode cX12_sizeOf 0 = .ok (.iload_n 0, 1) := by decide +kernel
theorem dX12_sizeOf_1 : decode cX12_sizeOf 1 = .ok (.ifCond .ge 8, 3) := by decide +kernel
theorem dX12_sizeOf_4 : decode cX12_sizeOf 4 = .ok (.iload_n 0, 1) := by decide +kernel
theorem dX12_sizeOf_5 : decode cX12_sizeOf 5 = .ok (.ineg, 1) := by decide +kernel
theorem dX12_sizeOf_6 : decode cX12_sizeOf 6 = .ok (.goto 4, 3) := by decide +kernel
theorem dX12_sizeOf_9 : decode cX12_sizeOf 9 = .ok (.iload_n 0, 1) := by decide +kernel
theorem dX12_sizeOf_10 : decode cX12_sizeOf 10 = .ok (.ireturn, 1) := by decide +kernel
theorem dX12_speed_0 : decode cX12_speed 0 = .ok (.aload_n 0, 1) := by decide +kernel
theorem dX12_speed_1 : decode cX12_speed 1 = .ok (.iload_n 1, 1) := by decide +kernel
theorem dX12_speed_2 : decode cX12_speed 2 = .ok (.invokevirtual 628, 3) := by decide +kernel
theorem dX12_speed_5 : decode cX12_speed 5 = .ok (.ifCond .eq 12, 3) := by decide +kernel
theorem dX12_speed_8 : decode cX12_speed 8 = .ok (.aload_n 0, 1) := by decide +kernel
theorem dX12_speed_9 : decode cX12_speed 9 = .ok (.getfield 140, 3) := by decide +kernel
theorem dX12_speed_12 : decode cX12_speed 12 = .ok (.iload_n 1, 1) := by decide +kernel
theorem dX12_speed_13 : decode cX12_speed 13 = .ok (.iaload, 1) := by decide +kernel
theorem dX12_speed_14 : decode cX12_speed 14 = .ok (.goto 6, 3) := by decide +kernel
theorem dX12_speed_17 : decode cX12_speed 17 = .ok (.sipush (-1000), 3) := by decide +kernel
theorem dX12_speed_20 : decode cX12_speed 20 = .ok (.ireturn, 1) := by decide +kernel
theorem dX12_splice_0 : decode cX12_splice 0 = .ok (.iload_n 1, 1) := by decide +kernel
theorem dX12_splice_1 : decode cX12_splice 1 = .ok (.iconst 0, 1) := by decide +kernel
theorem dX12_splice_2 : decode cX12_splice 2 = .ok (.aload_n 0, 1) := by decide +kernel
theorem dX12_splice_3 : decode cX12_splice 3 = .ok (.getfield 89, 3) := by decide +kernel
theorem dX12_splice_6 : decode cX12_splice 6 = .ok (.aload_n 0, 1) := by decide +kernel
theorem dX12_splice_7 : decode cX12_splice 7 = .ok (.getfield 386, 3) := by decide +kernel
theorem dX12_splice_10 : decode cX12_splice 10 = .ok (.iaload, 1) := by decide +kernel
theorem dX12_splice_11 : decode cX12_splice 11 = .ok (.iconst 1, 1) := by decide +kernel
theorem dX12_splice_12 : decode cX12_splice 12 = .ok (.isub, 1) := by decide +kernel
theorem dX12_splice_13 : decode cX12_splice 13 = .ok (.invokestatic 503, 3) := by decide +kernel
theorem dX12_splice_16 : decode cX12_splice 16 = .ok (.ifCond .ne 5, 3) := by decide +kernel
theorem dX12_splice_19 : decode cX12_splice 19 = .ok (.iconst (-1), 1) := by decide +kernel
theorem dX12_splice_20 : decode cX12_splice 20 = .ok (.ireturn, 1) := by decide +kernel
theorem dX12_splice_21 : decode cX12_splice 21 = .ok (.aload_n 0, 1) := by decide +kernel
theorem dX12_splice_22 : decode cX12_splice 22 = .ok (.getfield 101, 3) := by decide +kernel
theorem dX12_splice_25 : decode cX12_splice 25 = .ok (.bipush 6, 2) := by decide +kernel
theorem dX12_splice_27 : decode cX12_splice 27 = .ok (.aload_n 0, 1) := by decide +kernel
theorem dX12_splice_28 : decode cX12_splice 28 = .ok (.getfield 386, 3) := by decide +kernel
theorem dX12_splice_31 : decode cX12_splice 31 = .ok (.imul, 1) := by decide +kernel
theorem dX12_splice_32 : decode cX12_splice 32 = .ok (.iload_n 1, 1) := by decide +kernel
theorem dX12_splice_33 : decode cX12_splice 33 = .ok (.iadd, 1) := by decide +kernel
theorem dX12_splice_34 : decode cX12_splice 34 = .ok (.iaload, 1) := by decide +kernel
theorem dX12_splice_35 : decode cX12_splice 35 = .ok (.istore_n 3, 1) := by decide +kernel
theorem dX12_splice_36 : decode cX12_splice 36 = .ok (.iload_n 2, 1) := by decide +kernel
theorem dX12_splice_37 : decode cX12_splice 37 = .ok (.tableswitch 59 0 3 #[31, 33, 40, 52], 31) := by decide +kernel
theorem dX12_splice_68 : decode cX12_splice 68 = .ok (.iload_n 3, 1) := by decide +kernel
theorem dX12_splice_69 : decode cX12_splice 69 = .ok (.ireturn, 1) := by decide +kernel
theorem dX12_splice_70 : decode cX12_splice 70 = .ok (.aload_n 0, 1) := by decide +kernel
theorem dX12_splice_71 : decode cX12_splice 71 = .ok (.getfield 170, 3) := by decide +kernel
theorem dX12_splice_74 : decode cX12_splice 74 = .ok (.iload_n 1, 1) := by decide +kernel
theorem dX12_splice_75 : decode cX12_splice 75 = .ok (.iaload, 1) := by decide +kernel
theorem dX12_splice_76 : decode cX12_splice 76 = .ok (.ireturn, 1) := by decide +kernel
theorem dX12_splice_77 : decode cX12_splice 77 = .ok (.aload_n 0, 1) := by decide +kernel
theorem dX12_splice_78 : decode cX12_splice 78 = .ok (.iload_n 3, 1) := by decide +kernel
theorem dX12_splice_79 : decode cX12_splice 79 = .ok (.aload_n 0, 1) := by decide +kernel
theorem dX12_splice_80 : decode cX12_splice 80 = .ok (.getfield 170, 3) := by decide +kernel
theorem dX12_splice_83 : decode cX12_splice 83 = .ok (.iload_n 1, 1) := by decide +kernel
theorem dX12_splice_84 : decode cX12_splice 84 = .ok (.iaload, 1) := by decide +kernel
theorem dX12_splice_85 : decode cX12_splice 85 = .ok (.invokevirtual 562, 3) := by decide +kernel
theorem dX12_splice_88 : decode cX12_splice 88 = .ok (.ireturn, 1) := by decide +kernel
theorem dX12_splice_89 : decode cX12_splice 89 = .ok (.aload_n 0, 1) := by decide +kernel
theorem dX12_splice_90 : decode cX12_splice 90 = .ok (.getfield 173, 3) := by decide +kernel
theorem dX12_splice_93 : decode cX12_splice 93 = .ok (.iload_n 1, 1) := by decide +kernel
theorem dX12_splice_94 : decode cX12_splice 94 = .ok (.iaload, 1) := by decide +kernel
theorem dX12_splice_95 : decode cX12_splice 95 = .ok (.ireturn, 1) := by decide +kernel
theorem dX12_splice_96 : decode cX12_splice 96 = .ok (.iconst (-1), 1) := by decide +kernel
theorem dX12_splice_97 : decode cX12_splice 97 = .ok (.ireturn, 1) := by decide +kernel
theorem dX12_spread_0 : decode cX12_spread 0 = .ok (.aload_n 0, 1) := by decide +kernel
theorem dX12_spread_1 : decode cX12_spread 1 = .ok (.iload_n 1, 1) := by decide +kernel
theorem dX12_spread_2 : decode cX12_spread 2 = .ok (.invokevirtual 628, 3) := by decide +kernel
theorem dX12_spread_5 : decode cX12_spread 5 = .ok (.ifCond .eq 22, 3) := by decide +kernel
theorem dX12_spread_8 : decode cX12_spread 8 = .ok (.aload_n 0, 1) := by decide +kernel
theorem dX12_spread_9 : decode cX12_spread 9 = .ok (.getfield 143, 3) := by decide +kernel
theorem dX12_spread_12 : decode cX12_spread 12 = .ok (.iload_n 1, 1) := by decide +kernel
theorem dX12_spread_13 : decode cX12_spread 13 = .ok (.iaload, 1) := by decide +kernel
theorem dX12_spread_14 : decode cX12_spread 14 = .ok (.iconst 3, 1) := by decide +kernel
theorem dX12_spread_15 : decode cX12_spread 15 = .ok (.if_icmp .eq 12, 3) := by decide +kernel
theorem dX12_spread_18 : decode cX12_spread 18 = .ok (.iload_n 2, 1) := by decide +kernel
theorem dX12_spread_19 : decode cX12_spread 19 = .ok (.iconst 0, 1) := by decide +kernel
theorem dX12_spread_20 : decode cX12_spread 20 = .ok (.iconst 1, 1) := by decide +kernel
theorem dX12_spread_21 : decode cX12_spread 21 = .ok (.invokestatic 503, 3) := by decide +kernel
theorem dX12_spread_24 : decode cX12_spread 24 = .ok (.ifCond .ne 5, 3) := by decide +kernel
theorem dX12_spread_27 : decode cX12_spread 27 = .ok (.iconst (-1), 1) := by decide +kernel
theorem dX12_spread_28 : decode cX12_spread 28 = .ok (.ireturn, 1) := by decide +kernel
theorem dX12_spread_29 : decode cX12_spread 29 = .ok (.iconst (-1), 1) := by decide +kernel
theorem dX12_spread_30 : decode cX12_spread 30 = .ok (.istore_n 3, 1) := by decide +kernel
theorem dX12_spread_31 : decode cX12_spread 31 = .ok (.iconst (-1), 1) := by decide +kernel
theorem dX12_spread_32 : decode cX12_spread 32 = .ok (.istore 4, 2) := by decide +kernel
theorem dX12_spread_34 : decode cX12_spread 34 = .ok (.iconst 0, 1) := by decide +kernel
theorem dX12_spread_35 : decode cX12_spread 35 = .ok (.istore 5, 2) := by decide +kernel
theorem dX12_spread_37 : decode cX12_spread 37 = .ok (.iload 5, 2) := by decide +kernel
theorem dX12_spread_39 : decode cX12_spread 39 = .ok (.bipush 20, 2) := by decide +kernel
theorem dX12_spread_41 : decode cX12_spread 41 = .ok (.if_icmp .gt 93, 3) := by decide +kernel
theorem dX12_spread_44 : decode cX12_spread 44 = .ok (.aload_n 0, 1) := by decide +kernel
theorem dX12_spread_45 : decode cX12_spread 45 = .ok (.iconst 3, 1) := by decide +kernel
theorem dX12_spread_46 : decode cX12_spread 46 = .ok (.invokevirtual 638, 3) := by decide +kernel
theorem dX12_spread_49 : decode cX12_spread 49 = .ok (.iload 5, 2) := by decide +kernel
theorem dX12_spread_51 : decode cX12_spread 51 = .ok (.ifCond .le 46, 3) := by decide +kernel
theorem dX12_spread_54 : decode cX12_spread 54 = .ok (.aload_n 0, 1) := by decide +kernel
theorem dX12_spread_55 : decode cX12_spread 55 = .ok (.getfield 146, 3) := by decide +kernel
theorem dX12_spread_58 : decode cX12_spread 58 = .ok (.iload_n 1, 1) := by decide +kernel
theorem dX12_spread_59 : decode cX12_spread 59 = .ok (.aload_n 0, 1) := by decide +kernel
theorem dX12_spread_60 : decode cX12_spread 60 = .ok (.getfield 143, 3) := by decide +kernel
theorem dX12_spread_63 : decode cX12_spread 63 = .ok (.iload_n 1, 1) := by decide +kernel
theorem dX12_spread_64 : decode cX12_spread 64 = .ok (.iaload, 1) := by decide +kernel
theorem dX12_spread_65 : decode cX12_spread 65 = .ok (.iconst 2, 1) := by decide +kernel
theorem dX12_spread_66 : decode cX12_spread 66 = .ok (.if_icmp .ne 12, 3) := by decide +kernel
theorem dX12_spread_69 : decode cX12_spread 69 = .ok (.aload_n 0, 1) := by decide +kernel
theorem dX12_spread_70 : decode cX12_spread 70 = .ok (.getfield 146, 3) := by decide +kernel
theorem dX12_spread_73 : decode cX12_spread 73 = .ok (.iload_n 1, 1) := by decide +kernel
theorem dX12_spread_74 : decode cX12_spread 74 = .ok (.iaload, 1) := by decide +kernel
theorem dX12_spread_75 : decode cX12_spread 75 = .ok (.goto 4, 3) := by decide +kernel
theorem dX12_spread_78 : decode cX12_spread 78 = .ok (.iconst 0, 1) := by decide +kernel
theorem dX12_spread_79 : decode cX12_spread 79 = .ok (.iload 5, 2) := by decide +kernel
theorem dX12_spread_81 : decode cX12_spread 81 = .ok (.iadd, 1) := by decide +kernel
theorem dX12_spread_82 : decode cX12_spread 82 = .ok (.iastore, 1) := by decide +kernel
theorem dX12_spread_83 : decode cX12_spread 83 = .ok (.aload_n 0, 1) := by decide +kernel
theorem dX12_spread_84 : decode cX12_spread 84 = .ok (.getfield 143, 3) := by decide +kernel
theorem dX12_spread_87 : decode cX12_spread 87 = .ok (.iload_n 1, 1) := by decide +kernel
theorem dX12_spread_88 : decode cX12_spread 88 = .ok (.iconst 2, 1) := by decide +kernel
theorem dX12_spread_89 : decode cX12_spread 89 = .ok (.iastore, 1) := by decide +kernel
theorem dX12_spread_90 : decode cX12_spread 90 = .ok (.aload_n 0, 1) := by decide +kernel
theorem dX12_spread_91 : decode cX12_spread 91 = .ok (.getfield 140, 3) := by decide +kernel
theorem dX12_spread_94 : decode cX12_spread 94 = .ok (.iload_n 1, 1) := by decide +kernel
theorem dX12_spread_95 : decode cX12_spread 95 = .ok (.iconst 0, 1) := by decide +kernel
theorem dX12_spread_96 : decode cX12_spread 96 = .ok (.iastore, 1) := by decide +kernel
theorem dX12_spread_97 : decode cX12_spread 97 = .ok (.aload_n 0, 1) := by decide +kernel
theorem dX12_spread_98 : decode cX12_spread 98 = .ok (.sipush 200, 3) := by decide +kernel
theorem dX12_spread_101 : decode cX12_spread 101 = .ok (.invokevirtual 669, 3) := by decide +kernel
theorem dX12_spread_104 : decode cX12_spread 104 = .ok (.istore 6, 2) := by decide +kernel
theorem dX12_spread_106 : decode cX12_spread 106 = .ok (.aload_n 0, 1) := by decide +kernel
theorem dX12_spread_107 : decode cX12_spread 107 = .ok (.iconst 3, 1) := by decide +kernel
theorem dX12_spread_108 : decode cX12_spread 108 = .ok (.invokevirtual 644, 3) := by decide +kernel
theorem dX12_spread_111 : decode cX12_spread 111 = .ok (.iload 6, 2) := by decide +kernel
theorem dX12_spread_113 : decode cX12_spread 113 = .ok (.iload 4, 2) := by decide +kernel
theorem dX12_spread_115 : decode cX12_spread 115 = .ok (.if_icmp .gt 6, 3) := by decide +kernel
theorem dX12_spread_118 : decode cX12_spread 118 = .ok (.goto 10, 3) := by decide +kernel
theorem dX12_spread_121 : decode cX12_spread 121 = .ok (.iload 5, 2) := by decide +kernel
theorem dX12_spread_123 : decode cX12_spread 123 = .ok (.istore_n 3, 1) := by decide +kernel
theorem dX12_spread_124 : decode cX12_spread 124 = .ok (.iload 6, 2) := by decide +kernel
theorem dX12_spread_126 : decode cX12_spread 126 = .ok (.istore 4, 2) := by decide +kernel
theorem dX12_spread_128 : decode cX12_spread 128 = .ok (.iinc 5 1, 3) := by decide +kernel
theorem dX12_spread_131 : decode cX12_spread 131 = .ok (.goto (-94), 3) := by decide +kernel
theorem dX12_spread_134 : decode cX12_spread 134 = .ok (.iload_n 2, 1) := by decide +kernel
theorem dX12_spread_135 : decode cX12_spread 135 = .ok (.ifCond .ne 7, 3) := by decide +kernel
theorem dX12_spread_138 : decode cX12_spread 138 = .ok (.iload_n 3, 1) := by decide +kernel
theorem dX12_spread_139 : decode cX12_spread 139 = .ok (.goto 5, 3) := by decide +kernel
theorem dX12_spread_142 : decode cX12_spread 142 = .ok (.iload 4, 2) := by decide +kernel
theorem dX12_spread_144 : decode cX12_spread 144 = .ok (.ireturn, 1) := by decide +kernel
theorem dX12_strand_0 : decode cX12_strand 0 = .ok (.aload_n 0, 1) := by decide +kernel
theorem dX12_strand_1 : decode cX12_strand 1 = .ok (.iload_n 1, 1) := by decide +kernel
theorem dX12_strand_2 : decode cX12_strand 2 = .ok (.iload_n 2, 1) := by decide +kernel
theorem dX12_strand_3 : decode cX12_strand 3 = .ok (.invokevirtual 634, 3) := by decide +kernel
theorem dX12_strand_6 : decode cX12_strand 6 = .ok (.ifCond .eq 12, 3) := by decide +kernel
theorem dX12_strand_9 : decode cX12_strand 9 = .ok (.aload_n 0, 1) := by decide +kernel
theorem dX12_strand_10 : decode cX12_strand 10 = .ok (.getfield 161, 3) := by decide +kernel
theorem dX12_strand_13 : decode cX12_strand 13 = .ok (.iload_n 1, 1) := by decide +kernel
theorem dX12_strand_14 : decode cX12_strand 14 = .ok (.baload, 1) := by decide +kernel
theorem dX12_strand_15 : decode cX12_strand 15 = .ok (.ifCond .eq 5, 3) := by decide +kernel
theorem dX12_strand_18 : decode cX12_strand 18 = .ok (.iconst 0, 1) := by decide +kernel
theorem dX12_strand_19 : decode cX12_strand 19 = .ok (.ireturn, 1) := by decide +kernel
theorem dX12_strand_20 : decode cX12_strand 20 = .ok (.aload_n 0, 1) := by decide +kernel
theorem dX12_strand_21 : decode cX12_strand 21 = .ok (.iload_n 1, 1) := by decide +kernel
theorem dX12_strand_22 : decode cX12_strand 22 = .ok (.putfield 507, 3) := by decide +kernel
theorem dX12_strand_25 : decode cX12_strand 25 = .ok (.aload_n 0, 1) := by decide +kernel
theorem dX12_strand_26 : decode cX12_strand 26 = .ok (.iload_n 2, 1) := by decide +kernel
theorem dX12_strand_27 : decode cX12_strand 27 = .ok (.putfield 510, 3) := by decide +kernel
theorem dX12_strand_30 : decode cX12_strand 30 = .ok (.iconst 1, 1) := by decide +kernel
theorem dX12_strand_31 : decode cX12_strand 31 = .ok (.ireturn, 1) := by decide +kernel
theorem dX12_strandNow_0 : decode cX12_strandNow 0 = .ok (.aload_n 0, 1) := by decide +kernel
theorem dX12_strandNow_1 : decode cX12_strandNow 1 = .ok (.getfield 507, 3) := by decide +kernel
theorem dX12_strandNow_4 : decode cX12_strandNow 4 = .ok (.ifCond .lt 12, 3) := by decide +kernel
theorem dX12_strandNow_7 : decode cX12_strandNow 7 = .ok (.iload_n 1, 1) := by decide +kernel
theorem dX12_strandNow_8 : decode cX12_strandNow 8 = .ok (.iconst 0, 1) := by decide +kernel
theorem dX12_strandNow_9 : decode cX12_strandNow 9 = .ok (.iconst 2, 1) := by decide +kernel
theorem dX12_strandNow_10 : decode cX12_strandNow 10 = .ok (.invokestatic 503, 3) := by decide +kernel
theorem dX12_strandNow_13 : decode cX12_strandNow 13 = .ok (.ifCond .ne 5, 3) := by decide +kernel
theorem dX12_strandNow_16 : decode cX12_strandNow 16 = .ok (.iconst (-1), 1) := by decide +kernel
theorem dX12_strandNow_17 : decode cX12_strandNow 17 = .ok (.ireturn, 1) := by decide +kernel
theorem dX12_strandNow_18 : decode cX12_strandNow 18 = .ok (.iload_n 1, 1) := by decide +kernel
theorem dX12_strandNow_19 : decode cX12_strandNow 19 = .ok (.ifCond .ne 10, 3) := by decide +kernel
theorem dX12_strandNow_22 : decode cX12_strandNow 22 = .ok (.aload_n 0, 1) := by decide +kernel
theorem dX12_strandNow_23 : decode cX12_strandNow 23 = .ok (.getfield 507, 3) := by decide +kernel
theorem dX12_strandNow_26 : decode cX12_strandNow 26 = .ok (.goto 19, 3) := by decide +kernel
theorem dX12_strandNow_29 : decode cX12_strandNow 29 = .ok (.iload_n 1, 1) := by decide +kernel
theorem dX12_strandNow_30 : decode cX12_strandNow 30 = .ok (.iconst 1, 1) := by decide +kernel
theorem dX12_strandNow_31 : decode cX12_strandNow 31 = .ok (.if_icmp .ne 10, 3) := by decide +kernel
theorem dX12_strandNow_34 : decode cX12_strandNow 34 = .ok (.aload_n 0, 1) := by decide +kernel
theorem dX12_strandNow_35 : decode cX12_strandNow 35 = .ok (.getfield 510, 3) := by decide +kernel
theorem dX12_strandNow_38 : decode cX12_strandNow 38 = .ok (.goto 7, 3) := by decide +kernel
theorem dX12_strandNow_41 : decode cX12_strandNow 41 = .ok (.aload_n 0, 1) := by decide +kernel
theorem dX12_strandNow_42 : decode cX12_strandNow 42 = .ok (.invokevirtual 572, 3) := by decide +kernel
theorem dX12_strandNow_45 : decode cX12_strandNow 45 = .ok (.ireturn, 1) := by decide +kernel
theorem dX12_strandOn_0 : decode cX12_strandOn 0 = .ok (.aload_n 0, 1) := by decide +kernel
theorem dX12_strandOn_1 : decode cX12_strandOn 1 = .ok (.aload_n 0, 1) := by decide +kernel
theorem dX12_strandOn_2 : decode cX12_strandOn 2 = .ok (.getfield 507, 3) := by decide +kernel
theorem dX12_strandOn_5 : decode cX12_strandOn 5 = .ok (.aload_n 0, 1) := by decide +kernel
theorem dX12_strandOn_6 : decode cX12_strandOn 6 = .ok (.getfield 510, 3) := by decide +kernel
theorem dX12_strandOn_9 : decode cX12_strandOn 9 = .ok (.invokevirtual 562, 3) := by decide +kernel
theorem dX12_strandOn_12 : decode cX12_strandOn 12 = .ok (.ireturn, 1) := by decide +kernel
theorem dX12_street_0 : decode cX12_street 0 = .ok (.aload_n 0, 1) := by decide +kernel
theorem dX12_street_1 : decode cX12_street 1 = .ok (.iconst 0, 1) := by decide +kernel
theorem dX12_street_2 : decode cX12_street 2 = .ok (.putfield 263, 3) := by decide +kernel
theorem dX12_street_5 : decode cX12_street 5 = .ok (.aload_n 0, 1) := by decide +kernel
theorem dX12_street_6 : decode cX12_street 6 = .ok (.iconst (-1), 1) := by decide +kernel
theorem dX12_street_7 : decode cX12_street 7 = .ok (.putfield 16, 3) := by decide +kernel
theorem dX12_street_10 : decode cX12_street 10 = .ok (.aload_n 0, 1) := by decide +kernel
theorem dX12_street_11 : decode cX12_street 11 = .ok (.aload_n 0, 1) := by decide +kernel
theorem dX12_street_12 : decode cX12_street 12 = .ok (.getfield 383, 3) := by decide +kernel
theorem dX12_street_15 : decode cX12_street 15 = .ok (.putfield 260, 3) := by decide +kernel
theorem dX12_street_18 : decode cX12_street 18 = .ok (.iconst 0, 1) := by decide +kernel
theorem dX12_street_19 : decode cX12_street 19 = .ok (.istore_n 1, 1) := by decide +kernel
theorem dX12_street_20 : decode cX12_street 20 = .ok (.iload_n 1, 1) := by decide +kernel
theorem dX12_street_21 : decode cX12_street 21 = .ok (.aload_n 0, 1) := by decide +kernel
theorem dX12_street_22 : decode cX12_street 22 = .ok (.getfield 260, 3) := by decide +kernel
theorem dX12_street_25 : decode cX12_street 25 = .ok (.if_icmp .ge 21, 3) := by decide +kernel
theorem dX12_street_28 : decode cX12_street 28 = .ok (.aload_n 0, 1) := by decide +kernel
theorem dX12_street_29 : decode cX12_street 29 = .ok (.getfield 13, 3) := by decide +kernel
theorem dX12_street_32 : decode cX12_street 32 = .ok (.iload_n 1, 1) := by decide +kernel
theorem dX12_street_33 : decode cX12_street 33 = .ok (.aload_n 0, 1) := by decide +kernel
theorem dX12_street_34 : decode cX12_street 34 = .ok (.getfield 7, 3) := by decide +kernel
theorem dX12_street_37 : decode cX12_street 37 = .ok (.iload_n 1, 1) := by decide +kernel
theorem dX12_street_38 : decode cX12_street 38 = .ok (.baload, 1) := by decide +kernel
theorem dX12_street_39 : decode cX12_street 39 = .ok (.bastore, 1) := by decide +kernel
theorem dX12_street_40 : decode cX12_street 40 = .ok (.iinc 1 1, 3) := by decide +kernel
theorem dX12_street_43 : decode cX12_street 43 = .ok (.goto (-23), 3) := by decide +kernel
theorem dX12_street_46 : decode cX12_street 46 = .ok (.aload_n 0, 1) := by decide +kernel
theorem dX12_street_47 : decode cX12_street 47 = .ok (.iconst 0, 1) := by decide +kernel
theorem dX12_street_48 : decode cX12_street 48 = .ok (.putfield 383, 3) := by decide +kernel
theorem dX12_street_51 : decode cX12_street 51 = .ok (.aload_n 0, 1) := by decide +kernel
theorem dX12_street_52 : decode cX12_street 52 = .ok (.iconst 0, 1) := by decide +kernel
theorem dX12_street_53 : decode cX12_street 53 = .ok (.putfield 326, 3) := by decide +kernel
theorem dX12_street_56 : decode cX12_street 56 = .ok (.aload_n 0, 1) := by decide +kernel
theorem dX12_street_57 : decode cX12_street 57 = .ok (.iconst 1, 1) := by decide +kernel
theorem dX12_street_58 : decode cX12_street 58 = .ok (.aload_n 0, 1) := by decide +kernel
theorem dX12_street_59 : decode cX12_street 59 = .ok (.getfield 386, 3) := by decide +kernel
theorem dX12_street_62 : decode cX12_street 62 = .ok (.isub, 1) := by decide +kernel
theorem dX12_street_63 : decode cX12_street 63 = .ok (.putfield 377, 3) := by decide +kernel
theorem dX12_street_66 : decode cX12_street 66 = .ok (.aload_n 0, 1) := by decide +kernel
theorem dX12_street_67 : decode cX12_street 67 = .ok (.invokevirtual 254, 3) := by decide +kernel
theorem dX12_street_70 : decode cX12_street 70 = .ok (.aload_n 0, 1) := by decide +kernel
theorem dX12_street_71 : decode cX12_street 71 = .ok (.invokevirtual 368, 3) := by decide +kernel
theorem dX12_street_74 : decode cX12_street 74 = .ok (.aload_n 0, 1) := by decide +kernel
theorem dX12_street_75 : decode cX12_street 75 = .ok (.invokevirtual 364, 3) := by decide +kernel
theorem dX12_street_78 : decode cX12_street 78 = .ok (.ifCond .eq 17, 3) := by decide +kernel
theorem dX12_street_81 : decode cX12_street 81 = .ok (.aload_n 0, 1) := by decide +kernel
theorem dX12_street_82 : decode cX12_street 82 = .ok (.getfield 336, 3) := by decide +kernel
theorem dX12_street_85 : decode cX12_street 85 = .ok (.ifCond .eq 10, 3) := by decide +kernel
theorem dX12_street_88 : decode cX12_street 88 = .ok (.aload_n 0, 1) := by decide +kernel
theorem dX12_street_89 : decode cX12_street 89 = .ok (.invokevirtual 389, 3) := by decide +kernel
theorem dX12_street_92 : decode cX12_street 92 = .ok (.goto (-18), 3) := by decide +kernel
theorem dX12_street_95 : decode cX12_street 95 = .ok (.aload_n 0, 1) := by decide +kernel
theorem dX12_street_96 : decode cX12_street 96 = .ok (.invokevirtual 364, 3) := by decide +kernel
theorem dX12_street_99 : decode cX12_street 99 = .ok (.ifCond .ne 5, 3) := by decide +kernel
theorem dX12_street_102 : decode cX12_street 102 = .ok (.iconst (-1), 1) := by decide +kernel
theorem dX12_street_103 : decode cX12_street 103 = .ok (.ireturn, 1) := by decide +kernel
theorem dX12_street_104 : decode cX12_street 104 = .ok (.aload_n 0, 1) := by decide +kernel
theorem dX12_street_105 : decode cX12_street 105 = .ok (.aload_n 0, 1) := by decide +kernel
theorem dX12_street_106 : decode cX12_street 106 = .ok (.getfield 377, 3) := by decide +kernel
theorem dX12_street_109 : decode cX12_street 109 = .ok (.putfield 386, 3) := by decide +kernel
theorem dX12_street_112 : decode cX12_street 112 = .ok (.aload_n 0, 1) := by decide +kernel
theorem dX12_street_113 : decode cX12_street 113 = .ok (.iconst 0, 1) := by decide +kernel
theorem dX12_street_114 : decode cX12_street 114 = .ok (.putfield 392, 3) := by decide +kernel
theorem dX12_street_117 : decode cX12_street 117 = .ok (.iconst 0, 1) := by decide +kernel
theorem dX12_street_118 : decode cX12_street 118 = .ok (.istore_n 1, 1) := by decide +kernel
theorem dX12_street_119 : decode cX12_street 119 = .ok (.iload_n 1, 1) := by decide +kernel
theorem dX12_street_120 : decode cX12_street 120 = .ok (.iconst 3, 1) := by decide +kernel
theorem dX12_street_121 : decode cX12_street 121 = .ok (.if_icmp .ge 16, 3) := by decide +kernel
theorem dX12_street_124 : decode cX12_street 124 = .ok (.aload_n 0, 1) := by decide +kernel
theorem dX12_street_125 : decode cX12_street 125 = .ok (.getfield 209, 3) := by decide +kernel
theorem dX12_street_128 : decode cX12_street 128 = .ok (.iload_n 1, 1) := by decide +kernel
theorem dX12_street_129 : decode cX12_street 129 = .ok (.iconst (-1), 1) := by decide +kernel
theorem dX12_street_130 : decode cX12_street 130 = .ok (.iastore, 1) := by decide +kernel
theorem dX12_street_131 : decode cX12_street 131 = .ok (.iinc 1 1, 3) := by decide +kernel
theorem dX12_street_134 : decode cX12_street 134 = .ok (.goto (-15), 3) := by decide +kernel
theorem dX12_street_137 : decode cX12_street 137 = .ok (.aload_n 0, 1) := by decide +kernel
theorem dX12_street_138 : decode cX12_street 138 = .ok (.invokevirtual 257, 3) := by decide +kernel
theorem dX12_street_141 : decode cX12_street 141 = .ok (.aload_n 0, 1) := by decide +kernel
theorem dX12_street_142 : decode cX12_street 142 = .ok (.getfield 33, 3) := by decide +kernel
theorem dX12_street_145 : decode cX12_street 145 = .ok (.aload_n 0, 1) := by decide +kernel
theorem dX12_street_146 : decode cX12_street 146 = .ok (.getfield 386, 3) := by decide +kernel
theorem dX12_street_149 : decode cX12_street 149 = .ok (.iaload, 1) := by decide +kernel
theorem dX12_street_150 : decode cX12_street 150 = .ok (.ireturn, 1) := by decide +kernel
theorem dX12_takes_0 : decode cX12_takes 0 = .ok (.aload_n 0, 1) := by decide +kernel
theorem dX12_takes_1 : decode cX12_takes 1 = .ok (.getfield 507, 3) := by decide +kernel
theorem dX12_takes_4 : decode cX12_takes 4 = .ok (.ifCond .ge 5, 3) := by decide +kernel
theorem dX12_takes_7 : decode cX12_takes 7 = .ok (.iconst (-1), 1) := by decide +kernel
theorem dX12_takes_8 : decode cX12_takes 8 = .ok (.ireturn, 1) := by decide +kernel
theorem dX12_takes_9 : decode cX12_takes 9 = .ok (.aload_n 0, 1) := by decide +kernel
theorem dX12_takes_10 : decode cX12_takes 10 = .ok (.iconst 3, 1) := by decide +kernel
theorem dX12_takes_11 : decode cX12_takes 11 = .ok (.invokevirtual 638, 3) := by decide +kernel
theorem dX12_takes_14 : decode cX12_takes 14 = .ok (.iconst (-1), 1) := by decide +kernel
theorem dX12_takes_15 : decode cX12_takes 15 = .ok (.istore_n 1, 1) := by decide +kernel
theorem dX12_takes_16 : decode cX12_takes 16 = .ok (.iconst 0, 1) := by decide +kernel
theorem dX12_takes_17 : decode cX12_takes 17 = .ok (.istore_n 2, 1) := by decide +kernel
theorem dX12_takes_18 : decode cX12_takes 18 = .ok (.iload_n 2, 1) := by decide +kernel
theorem dX12_takes_19 : decode cX12_takes 19 = .ok (.sipush 500, 3) := by decide +kernel
theorem dX12_takes_22 : decode cX12_takes 22 = .ok (.if_icmp .ge 22, 3) := by decide +kernel
theorem dX12_takes_25 : decode cX12_takes 25 = .ok (.iload_n 1, 1) := by decide +kernel
theorem dX12_takes_26 : decode cX12_takes 26 = .ok (.ifCond .ge 18, 3) := by decide +kernel
theorem dX12_takes_29 : decode cX12_takes 29 = .ok (.aload_n 0, 1) := by decide +kernel
theorem dX12_takes_30 : decode cX12_takes 30 = .ok (.invokevirtual 622, 3) := by decide +kernel
theorem dX12_takes_33 : decode cX12_takes 33 = .ok (.aload_n 0, 1) := by decide +kernel
theorem dX12_takes_34 : decode cX12_takes 34 = .ok (.getfield 528, 3) := by decide +kernel
theorem dX12_takes_37 : decode cX12_takes 37 = .ok (.istore_n 1, 1) := by decide +kernel
theorem dX12_takes_38 : decode cX12_takes 38 = .ok (.iinc 2 1, 3) := by decide +kernel
theorem dX12_takes_41 : decode cX12_takes 41 = .ok (.goto (-23), 3) := by decide +kernel
theorem dX12_takes_44 : decode cX12_takes 44 = .ok (.aload_n 0, 1) := by decide +kernel
theorem dX12_takes_45 : decode cX12_takes 45 = .ok (.iconst 3, 1) := by decide +kernel
theorem dX12_takes_46 : decode cX12_takes 46 = .ok (.invokevirtual 644, 3) := by decide +kernel
theorem dX12_takes_49 : decode cX12_takes 49 = .ok (.iload_n 1, 1) := by decide +kernel
theorem dX12_takes_50 : decode cX12_takes 50 = .ok (.ireturn, 1) := by decide +kernel
theorem dX12_tick_0 : decode cX12_tick 0 = .ok (.iconst 0, 1) := by decide +kernel
theorem dX12_tick_1 : decode cX12_tick 1 = .ok (.istore_n 1, 1) := by decide +kernel
theorem dX12_tick_2 : decode cX12_tick 2 = .ok (.iload_n 1, 1) := by decide +kernel
theorem dX12_tick_3 : decode cX12_tick 3 = .ok (.aload_n 0, 1) := by decide +kernel
theorem dX12_tick_4 : decode cX12_tick 4 = .ok (.getfield 20, 3) := by decide +kernel
theorem dX12_tick_7 : decode cX12_tick 7 = .ok (.aload_n 0, 1) := by decide +kernel
theorem dX12_tick_8 : decode cX12_tick 8 = .ok (.getfield 386, 3) := by decide +kernel
theorem dX12_tick_11 : decode cX12_tick 11 = .ok (.iaload, 1) := by decide +kernel
theorem dX12_tick_12 : decode cX12_tick 12 = .ok (.if_icmp .ge 109, 3) := by decide +kernel
theorem dX12_tick_15 : decode cX12_tick 15 = .ok (.aload_n 0, 1) := by decide +kernel
theorem dX12_tick_16 : decode cX12_tick 16 = .ok (.getfield 161, 3) := by decide +kernel
theorem dX12_tick_19 : decode cX12_tick 19 = .ok (.iload_n 1, 1) := by decide +kernel
theorem dX12_tick_20 : decode cX12_tick 20 = .ok (.baload, 1) := by decide +kernel
theorem dX12_tick_21 : decode cX12_tick 21 = .ok (.ifCond .ne 28, 3) := by decide +kernel
theorem dX12_tick_24 : decode cX12_tick 24 = .ok (.aload_n 0, 1) := by decide +kernel
theorem dX12_tick_25 : decode cX12_tick 25 = .ok (.iload_n 1, 1) := by decide +kernel
theorem dX12_tick_26 : decode cX12_tick 26 = .ok (.invokevirtual 490, 3) := by decide +kernel
theorem dX12_tick_29 : decode cX12_tick 29 = .ok (.aload_n 0, 1) := by decide +kernel
theorem dX12_tick_30 : decode cX12_tick 30 = .ok (.getfield 71, 3) := by decide +kernel
theorem dX12_tick_33 : decode cX12_tick 33 = .ok (.iconst 3, 1) := by decide +kernel
theorem dX12_tick_34 : decode cX12_tick 34 = .ok (.aload_n 0, 1) := by decide +kernel
theorem dX12_tick_35 : decode cX12_tick 35 = .ok (.getfield 386, 3) := by decide +kernel
theorem dX12_tick_38 : decode cX12_tick 38 = .ok (.imul, 1) := by decide +kernel
theorem dX12_tick_39 : decode cX12_tick 39 = .ok (.iload_n 1, 1) := by decide +kernel
theorem dX12_tick_40 : decode cX12_tick 40 = .ok (.iadd, 1) := by decide +kernel
theorem dX12_tick_41 : decode cX12_tick 41 = .ok (.iaload, 1) := by decide +kernel
theorem dX12_tick_42 : decode cX12_tick 42 = .ok (.if_icmp .le 7, 3) := by decide +kernel
theorem dX12_tick_45 : decode cX12_tick 45 = .ok (.iconst 1, 1) := by decide +kernel
theorem dX12_tick_46 : decode cX12_tick 46 = .ok (.goto 4, 3) := by decide +kernel
theorem dX12_tick_49 : decode cX12_tick 49 = .ok (.iconst 0, 1) := by decide +kernel
theorem dX12_tick_50 : decode cX12_tick 50 = .ok (.istore_n 2, 1) := by decide +kernel
theorem dX12_tick_51 : decode cX12_tick 51 = .ok (.iload_n 2, 1) := by decide +kernel
theorem dX12_tick_52 : decode cX12_tick 52 = .ok (.ifCond .eq 22, 3) := by decide +kernel
theorem dX12_tick_55 : decode cX12_tick 55 = .ok (.aload_n 0, 1) := by decide +kernel
theorem dX12_tick_56 : decode cX12_tick 56 = .ok (.dup, 1) := by decide +kernel
theorem dX12_tick_57 : decode cX12_tick 57 = .ok (.getfield 522, 3) := by decide +kernel
theorem dX12_tick_60 : decode cX12_tick 60 = .ok (.iconst 1, 1) := by decide +kernel
theorem dX12_tick_61 : decode cX12_tick 61 = .ok (.iadd, 1) := by decide +kernel
theorem dX12_tick_62 : decode cX12_tick 62 = .ok (.putfield 522, 3) := by decide +kernel
theorem dX12_tick_65 : decode cX12_tick 65 = .ok (.aload_n 0, 1) := by decide +kernel
theorem dX12_tick_66 : decode cX12_tick 66 = .ok (.iconst 3, 1) := by decide +kernel
theorem dX12_tick_67 : decode cX12_tick 67 = .ok (.iconst (-1), 1) := by decide +kernel
theorem dX12_tick_68 : decode cX12_tick 68 = .ok (.iload_n 1, 1) := by decide +kernel
theorem dX12_tick_69 : decode cX12_tick 69 = .ok (.iconst (-1), 1) := by decide +kernel
theorem dX12_tick_70 : decode cX12_tick 70 = .ok (.invokevirtual 549, 3) := by decide +kernel
theorem dX12_tick_73 : decode cX12_tick 73 = .ok (.istore_n 3, 1) := by decide +kernel
theorem dX12_tick_74 : decode cX12_tick 74 = .ok (.aload_n 0, 1) := by decide +kernel
theorem dX12_tick_75 : decode cX12_tick 75 = .ok (.getfield 152, 3) := by decide +kernel
theorem dX12_tick_78 : decode cX12_tick 78 = .ok (.iload_n 1, 1) := by decide +kernel
theorem dX12_tick_79 : decode cX12_tick 79 = .ok (.iload_n 2, 1) := by decide +kernel
theorem dX12_tick_80 : decode cX12_tick 80 = .ok (.ifCond .eq 21, 3) := by decide +kernel
theorem dX12_tick_83 : decode cX12_tick 83 = .ok (.aload_n 0, 1) := by decide +kernel
theorem dX12_tick_84 : decode cX12_tick 84 = .ok (.getfield 59, 3) := by decide +kernel
theorem dX12_tick_87 : decode cX12_tick 87 = .ok (.iconst 3, 1) := by decide +kernel
theorem dX12_tick_88 : decode cX12_tick 88 = .ok (.aload_n 0, 1) := by decide +kernel
theorem dX12_tick_89 : decode cX12_tick 89 = .ok (.getfield 386, 3) := by decide +kernel
theorem dX12_tick_92 : decode cX12_tick 92 = .ok (.imul, 1) := by decide +kernel
theorem dX12_tick_93 : decode cX12_tick 93 = .ok (.iload_n 1, 1) := by decide +kernel
theorem dX12_tick_94 : decode cX12_tick 94 = .ok (.iadd, 1) := by decide +kernel
theorem dX12_tick_95 : decode cX12_tick 95 = .ok (.iaload, 1) := by decide +kernel
theorem dX12_tick_96 : decode cX12_tick 96 = .ok (.iconst 2, 1) := by decide +kernel
theorem dX12_tick_97 : decode cX12_tick 97 = .ok (.idiv, 1) := by decide +kernel
theorem dX12_tick_98 : decode cX12_tick 98 = .ok (.goto 16, 3) := by decide +kernel
theorem dX12_tick_101 : decode cX12_tick 101 = .ok (.aload_n 0, 1) := by decide +kernel
theorem dX12_tick_102 : decode cX12_tick 102 = .ok (.getfield 59, 3) := by decide +kernel
theorem dX12_tick_105 : decode cX12_tick 105 = .ok (.iconst 3, 1) := by decide +kernel
theorem dX12_tick_106 : decode cX12_tick 106 = .ok (.aload_n 0, 1) := by decide +kernel
theorem dX12_tick_107 : decode cX12_tick 107 = .ok (.getfield 386, 3) := by decide +kernel
theorem dX12_tick_110 : decode cX12_tick 110 = .ok (.imul, 1) := by decide +kernel
theorem dX12_tick_111 : decode cX12_tick 111 = .ok (.iload_n 1, 1) := by decide +kernel
theorem dX12_tick_112 : decode cX12_tick 112 = .ok (.iadd, 1) := by decide +kernel
theorem dX12_tick_113 : decode cX12_tick 113 = .ok (.iaload, 1) := by decide +kernel
theorem dX12_tick_114 : decode cX12_tick 114 = .ok (.iastore, 1) := by decide +kernel
theorem dX12_tick_115 : decode cX12_tick 115 = .ok (.iinc 1 1, 3) := by decide +kernel
theorem dX12_tick_118 : decode cX12_tick 118 = .ok (.goto (-116), 3) := by decide +kernel
theorem dX12_tick_121 : decode cX12_tick 121 = .ok (.aload_n 0, 1) := by decide +kernel
theorem dX12_tick_122 : decode cX12_tick 122 = .ok (.iconst (-1), 1) := by decide +kernel
theorem dX12_tick_123 : decode cX12_tick 123 = .ok (.putfield 528, 3) := by decide +kernel
theorem dX12_tick_126 : decode cX12_tick 126 = .ok (.aload_n 0, 1) := by decide +kernel
theorem dX12_tick_127 : decode cX12_tick 127 = .ok (.invokevirtual 606, 3) := by decide +kernel
theorem dX12_tick_130 : decode cX12_tick 130 = .ok (.iconst 0, 1) := by decide +kernel
theorem dX12_tick_131 : decode cX12_tick 131 = .ok (.istore_n 1, 1) := by decide +kernel
theorem dX12_tick_132 : decode cX12_tick 132 = .ok (.iload_n 1, 1) := by decide +kernel
theorem dX12_tick_133 : decode cX12_tick 133 = .ok (.aload_n 0, 1) := by decide +kernel
theorem dX12_tick_134 : decode cX12_tick 134 = .ok (.getfield 89, 3) := by decide +kernel
theorem dX12_tick_137 : decode cX12_tick 137 = .ok (.aload_n 0, 1) := by decide +kernel
theorem dX12_tick_138 : decode cX12_tick 138 = .ok (.getfield 386, 3) := by decide +kernel
theorem dX12_tick_141 : decode cX12_tick 141 = .ok (.iaload, 1) := by decide +kernel
theorem dX12_tick_142 : decode cX12_tick 142 = .ok (.if_icmp .ge 14, 3) := by decide +kernel
theorem dX12_tick_145 : decode cX12_tick 145 = .ok (.aload_n 0, 1) := by decide +kernel
theorem dX12_tick_146 : decode cX12_tick 146 = .ok (.iload_n 1, 1) := by decide +kernel
theorem dX12_tick_147 : decode cX12_tick 147 = .ok (.invokevirtual 609, 3) := by decide +kernel
theorem dX12_tick_150 : decode cX12_tick 150 = .ok (.iinc 1 1, 3) := by decide +kernel
theorem dX12_tick_153 : decode cX12_tick 153 = .ok (.goto (-21), 3) := by decide +kernel
theorem dX12_tick_156 : decode cX12_tick 156 = .ok (.iconst 0, 1) := by decide +kernel
theorem dX12_tick_157 : decode cX12_tick 157 = .ok (.istore_n 1, 1) := by decide +kernel
theorem dX12_tick_158 : decode cX12_tick 158 = .ok (.iload_n 1, 1) := by decide +kernel
theorem dX12_tick_159 : decode cX12_tick 159 = .ok (.aload_n 0, 1) := by decide +kernel
theorem dX12_tick_160 : decode cX12_tick 160 = .ok (.invokevirtual 477, 3) := by decide +kernel
theorem dX12_tick_163 : decode cX12_tick 163 = .ok (.if_icmp .ge 24, 3) := by decide +kernel
theorem dX12_tick_166 : decode cX12_tick 166 = .ok (.aload_n 0, 1) := by decide +kernel
theorem dX12_tick_167 : decode cX12_tick 167 = .ok (.getfield 143, 3) := by decide +kernel
theorem dX12_tick_170 : decode cX12_tick 170 = .ok (.iload_n 1, 1) := by decide +kernel
theorem dX12_tick_171 : decode cX12_tick 171 = .ok (.iaload, 1) := by decide +kernel
theorem dX12_tick_172 : decode cX12_tick 172 = .ok (.iconst 3, 1) := by decide +kernel
theorem dX12_tick_173 : decode cX12_tick 173 = .ok (.if_icmp .eq 8, 3) := by decide +kernel
theorem dX12_tick_176 : decode cX12_tick 176 = .ok (.aload_n 0, 1) := by decide +kernel
theorem dX12_tick_177 : decode cX12_tick 177 = .ok (.iload_n 1, 1) := by decide +kernel
theorem dX12_tick_178 : decode cX12_tick 178 = .ok (.invokevirtual 612, 3) := by decide +kernel
theorem dX12_tick_181 : decode cX12_tick 181 = .ok (.iinc 1 1, 3) := by decide +kernel
theorem dX12_tick_184 : decode cX12_tick 184 = .ok (.goto (-26), 3) := by decide +kernel
theorem dX12_tick_187 : decode cX12_tick 187 = .ok (.iconst 0, 1) := by decide +kernel
theorem dX12_tick_188 : decode cX12_tick 188 = .ok (.istore_n 1, 1) := by decide +kernel
theorem dX12_tick_189 : decode cX12_tick 189 = .ok (.iload_n 1, 1) := by decide +kernel
theorem dX12_tick_190 : decode cX12_tick 190 = .ok (.aload_n 0, 1) := by decide +kernel
theorem dX12_tick_191 : decode cX12_tick 191 = .ok (.invokevirtual 477, 3) := by decide +kernel
theorem dX12_tick_194 : decode cX12_tick 194 = .ok (.if_icmp .ge 72, 3) := by decide +kernel
theorem dX12_tick_197 : decode cX12_tick 197 = .ok (.iconst 0, 1) := by decide +kernel
theorem dX12_tick_198 : decode cX12_tick 198 = .ok (.istore_n 2, 1) := by decide +kernel
theorem dX12_tick_199 : decode cX12_tick 199 = .ok (.iload_n 2, 1) := by decide +kernel
theorem dX12_tick_200 : decode cX12_tick 200 = .ok (.iload_n 1, 1) := by decide +kernel
theorem dX12_tick_201 : decode cX12_tick 201 = .ok (.if_icmp .ge 59, 3) := by decide +kernel
theorem dX12_tick_204 : decode cX12_tick 204 = .ok (.aload_n 0, 1) := by decide +kernel
theorem dX12_tick_205 : decode cX12_tick 205 = .ok (.getfield 143, 3) := by decide +kernel
theorem dX12_tick_208 : decode cX12_tick 208 = .ok (.iload_n 1, 1) := by decide +kernel
theorem dX12_tick_209 : decode cX12_tick 209 = .ok (.iaload, 1) := by decide +kernel
theorem dX12_tick_210 : decode cX12_tick 210 = .ok (.iconst 3, 1) := by decide +kernel
theorem dX12_tick_211 : decode cX12_tick 211 = .ok (.if_icmp .eq 43, 3) := by decide +kernel
theorem dX12_tick_214 : decode cX12_tick 214 = .ok (.aload_n 0, 1) := by decide +kernel
theorem dX12_tick_215 : decode cX12_tick 215 = .ok (.getfield 143, 3) := by decide +kernel
theorem dX12_tick_218 : decode cX12_tick 218 = .ok (.iload_n 2, 1) := by decide +kernel
theorem dX12_tick_219 : decode cX12_tick 219 = .ok (.iaload, 1) := by decide +kernel
theorem dX12_tick_220 : decode cX12_tick 220 = .ok (.iconst 3, 1) := by decide +kernel
theorem dX12_tick_221 : decode cX12_tick 221 = .ok (.if_icmp .eq 33, 3) := by decide +kernel
theorem dX12_tick_224 : decode cX12_tick 224 = .ok (.aload_n 0, 1) := by decide +kernel
theorem dX12_tick_225 : decode cX12_tick 225 = .ok (.getfield 137, 3) := by decide +kernel
theorem dX12_tick_228 : decode cX12_tick 228 = .ok (.iload_n 1, 1) := by decide +kernel
theorem dX12_tick_229 : decode cX12_tick 229 = .ok (.iaload, 1) := by decide +kernel
theorem dX12_tick_230 : decode cX12_tick 230 = .ok (.aload_n 0, 1) := by decide +kernel
theorem dX12_tick_231 : decode cX12_tick 231 = .ok (.getfield 137, 3) := by decide +kernel
theorem dX12_tick_234 : decode cX12_tick 234 = .ok (.iload_n 2, 1) := by decide +kernel
theorem dX12_tick_235 : decode cX12_tick 235 = .ok (.iaload, 1) := by decide +kernel
theorem dX12_tick_236 : decode cX12_tick 236 = .ok (.isub, 1) := by decide +kernel
theorem dX12_tick_237 : decode cX12_tick 237 = .ok (.invokestatic 600, 3) := by decide +kernel
theorem dX12_tick_240 : decode cX12_tick 240 = .ok (.iconst 5, 1) := by decide +kernel
theorem dX12_tick_241 : decode cX12_tick 241 = .ok (.if_icmp .gt 13, 3) := by decide +kernel
theorem dX12_tick_244 : decode cX12_tick 244 = .ok (.aload_n 0, 1) := by decide +kernel
theorem dX12_tick_245 : decode cX12_tick 245 = .ok (.dup, 1) := by decide +kernel
theorem dX12_tick_246 : decode cX12_tick 246 = .ok (.getfield 525, 3) := by decide +kernel
theorem dX12_tick_249 : decode cX12_tick 249 = .ok (.iconst 1, 1) := by decide +kernel
theorem dX12_tick_250 : decode cX12_tick 250 = .ok (.iadd, 1) := by decide +kernel
theorem dX12_tick_251 : decode cX12_tick 251 = .ok (.putfield 525, 3) := by decide +kernel
theorem dX12_tick_254 : decode cX12_tick 254 = .ok (.iinc 2 1, 3) := by decide +kernel
theorem dX12_tick_257 : decode cX12_tick 257 = .ok (.goto (-58), 3) := by decide +kernel
theorem dX12_tick_260 : decode cX12_tick 260 = .ok (.iinc 1 1, 3) := by decide +kernel
theorem dX12_tick_263 : decode cX12_tick 263 = .ok (.goto (-74), 3) := by decide +kernel
theorem dX12_tick_266 : decode cX12_tick 266 = .ok (.aload_n 0, 1) := by decide +kernel
theorem dX12_tick_267 : decode cX12_tick 267 = .ok (.getfield 92, 3) := by decide +kernel
theorem dX12_tick_270 : decode cX12_tick 270 = .ok (.aload_n 0, 1) := by decide +kernel
theorem dX12_tick_271 : decode cX12_tick 271 = .ok (.getfield 386, 3) := by decide +kernel
theorem dX12_tick_274 : decode cX12_tick 274 = .ok (.iaload, 1) := by decide +kernel
theorem dX12_tick_275 : decode cX12_tick 275 = .ok (.ifCond .le 7, 3) := by decide +kernel
theorem dX12_tick_278 : decode cX12_tick 278 = .ok (.aload_n 0, 1) := by decide +kernel
theorem dX12_tick_279 : decode cX12_tick 279 = .ok (.invokevirtual 615, 3) := by decide +kernel
theorem dX12_tick_282 : decode cX12_tick 282 = .ok (.aload_n 0, 1) := by decide +kernel
theorem dX12_tick_283 : decode cX12_tick 283 = .ok (.dup, 1) := by decide +kernel
theorem dX12_tick_284 : decode cX12_tick 284 = .ok (.getfield 483, 3) := by decide +kernel
theorem dX12_tick_287 : decode cX12_tick 287 = .ok (.iconst 1, 1) := by decide +kernel
theorem dX12_tick_288 : decode cX12_tick 288 = .ok (.iadd, 1) := by decide +kernel
theorem dX12_tick_289 : decode cX12_tick 289 = .ok (.putfield 483, 3) := by decide +kernel
theorem dX12_tick_292 : decode cX12_tick 292 = .ok (.return_, 1) := by decide +kernel
theorem dX12_trips_0 : decode cX12_trips 0 = .ok (.aload_n 0, 1) := by decide +kernel
theorem dX12_trips_1 : decode cX12_trips 1 = .ok (.iload_n 1, 1) := by decide +kernel
theorem dX12_trips_2 : decode cX12_trips 2 = .ok (.invokevirtual 628, 3) := by decide +kernel
theorem dX12_trips_5 : decode cX12_trips 5 = .ok (.ifCond .eq 12, 3) := by decide +kernel
theorem dX12_trips_8 : decode cX12_trips 8 = .ok (.aload_n 0, 1) := by decide +kernel
theorem dX12_trips_9 : decode cX12_trips 9 = .ok (.getfield 167, 3) := by decide +kernel
theorem dX12_trips_12 : decode cX12_trips 12 = .ok (.iload_n 1, 1) := by decide +kernel
theorem dX12_trips_13 : decode cX12_trips 13 = .ok (.iaload, 1) := by decide +kernel
theorem dX12_trips_14 : decode cX12_trips 14 = .ok (.goto 4, 3) := by decide +kernel
theorem dX12_trips_17 : decode cX12_trips 17 = .ok (.iconst (-1), 1) := by decide +kernel
theorem dX12_trips_18 : decode cX12_trips 18 = .ok (.ireturn, 1) := by decide +kernel
theorem dX12_turns_0 : decode cX12_turns 0 = .ok (.aload_n 0, 1) := by decide +kernel
theorem dX12_turns_1 : decode cX12_turns 1 = .ok (.getfield 540, 3) := by decide +kernel
theorem dX12_turns_4 : decode cX12_turns 4 = .ok (.ifCond .lt 28, 3) := by decide +kernel
theorem dX12_turns_7 : decode cX12_turns 7 = .ok (.aload_n 0, 1) := by decide +kernel
theorem dX12_turns_8 : decode cX12_turns 8 = .ok (.dup, 1) := by decide +kernel
theorem dX12_turns_9 : decode cX12_turns 9 = .ok (.getfield 543, 3) := by decide +kernel
theorem dX12_turns_12 : decode cX12_turns 12 = .ok (.iconst 1, 1) := by decide +kernel
theorem dX12_turns_13 : decode cX12_turns 13 = .ok (.isub, 1) := by decide +kernel
theorem dX12_turns_14 : decode cX12_turns 14 = .ok (.putfield 543, 3) := by decide +kernel
theorem dX12_turns_17 : decode cX12_turns 17 = .ok (.aload_n 0, 1) := by decide +kernel
theorem dX12_turns_18 : decode cX12_turns 18 = .ok (.getfield 543, 3) := by decide +kernel
theorem dX12_turns_21 : decode cX12_turns 21 = .ok (.ifCond .ne 11, 3) := by decide +kernel
theorem dX12_turns_24 : decode cX12_turns 24 = .ok (.aload_n 0, 1) := by decide +kernel
theorem dX12_turns_25 : decode cX12_turns 25 = .ok (.aload_n 0, 1) := by decide +kernel
theorem dX12_turns_26 : decode cX12_turns 26 = .ok (.getfield 540, 3) := by decide +kernel
theorem dX12_turns_29 : decode cX12_turns 29 = .ok (.invokevirtual 618, 3) := by decide +kernel
theorem dX12_turns_32 : decode cX12_turns 32 = .ok (.aload_n 0, 1) := by decide +kernel
theorem dX12_turns_33 : decode cX12_turns 33 = .ok (.getfield 540, 3) := by decide +kernel
theorem dX12_turns_36 : decode cX12_turns 36 = .ok (.ifCond .lt 4, 3) := by decide +kernel
theorem dX12_turns_39 : decode cX12_turns 39 = .ok (.return_, 1) := by decide +kernel
theorem dX12_turns_40 : decode cX12_turns 40 = .ok (.iconst 0, 1) := by decide +kernel
theorem dX12_turns_41 : decode cX12_turns 41 = .ok (.istore_n 1, 1) := by decide +kernel
theorem dX12_turns_42 : decode cX12_turns 42 = .ok (.iload_n 1, 1) := by decide +kernel
theorem dX12_turns_43 : decode cX12_turns 43 = .ok (.aload_n 0, 1) := by decide +kernel
theorem dX12_turns_44 : decode cX12_turns 44 = .ok (.invokevirtual 477, 3) := by decide +kernel
theorem dX12_turns_47 : decode cX12_turns 47 = .ok (.if_icmp .ge 49, 3) := by decide +kernel
theorem dX12_turns_50 : decode cX12_turns 50 = .ok (.aload_n 0, 1) := by decide +kernel
theorem dX12_turns_51 : decode cX12_turns 51 = .ok (.getfield 143, 3) := by decide +kernel
theorem dX12_turns_54 : decode cX12_turns 54 = .ok (.iload_n 1, 1) := by decide +kernel
theorem dX12_turns_55 : decode cX12_turns 55 = .ok (.iaload, 1) := by decide +kernel
theorem dX12_turns_56 : decode cX12_turns 56 = .ok (.iconst 3, 1) := by decide +kernel
theorem dX12_turns_57 : decode cX12_turns 57 = .ok (.if_icmp .ne 33, 3) := by decide +kernel
theorem dX12_turns_60 : decode cX12_turns 60 = .ok (.aload_n 0, 1) := by decide +kernel
theorem dX12_turns_61 : decode cX12_turns 61 = .ok (.getfield 540, 3) := by decide +kernel
theorem dX12_turns_64 : decode cX12_turns 64 = .ok (.ifCond .lt 21, 3) := by decide +kernel
theorem dX12_turns_67 : decode cX12_turns 67 = .ok (.aload_n 0, 1) := by decide +kernel
theorem dX12_turns_68 : decode cX12_turns 68 = .ok (.getfield 164, 3) := by decide +kernel
theorem dX12_turns_71 : decode cX12_turns 71 = .ok (.iload_n 1, 1) := by decide +kernel
theorem dX12_turns_72 : decode cX12_turns 72 = .ok (.iaload, 1) := by decide +kernel
theorem dX12_turns_73 : decode cX12_turns 73 = .ok (.aload_n 0, 1) := by decide +kernel
theorem dX12_turns_74 : decode cX12_turns 74 = .ok (.getfield 164, 3) := by decide +kernel
theorem dX12_turns_77 : decode cX12_turns 77 = .ok (.aload_n 0, 1) := by decide +kernel
theorem dX12_turns_78 : decode cX12_turns 78 = .ok (.getfield 540, 3) := by decide +kernel
theorem dX12_turns_81 : decode cX12_turns 81 = .ok (.iaload, 1) := by decide +kernel
theorem dX12_turns_82 : decode cX12_turns 82 = .ok (.if_icmp .ge 8, 3) := by decide +kernel
theorem dX12_turns_85 : decode cX12_turns 85 = .ok (.aload_n 0, 1) := by decide +kernel
theorem dX12_turns_86 : decode cX12_turns 86 = .ok (.iload_n 1, 1) := by decide +kernel
theorem dX12_turns_87 : decode cX12_turns 87 = .ok (.putfield 540, 3) := by decide +kernel
theorem dX12_turns_90 : decode cX12_turns 90 = .ok (.iinc 1 1, 3) := by decide +kernel
theorem dX12_turns_93 : decode cX12_turns 93 = .ok (.goto (-51), 3) := by decide +kernel
theorem dX12_turns_96 : decode cX12_turns 96 = .ok (.aload_n 0, 1) := by decide +kernel
theorem dX12_turns_97 : decode cX12_turns 97 = .ok (.aload_n 0, 1) := by decide +kernel
theorem dX12_turns_98 : decode cX12_turns 98 = .ok (.getfield 92, 3) := by decide +kernel
theorem dX12_turns_101 : decode cX12_turns 101 = .ok (.aload_n 0, 1) := by decide +kernel
theorem dX12_turns_102 : decode cX12_turns 102 = .ok (.getfield 386, 3) := by decide +kernel
theorem dX12_turns_105 : decode cX12_turns 105 = .ok (.iaload, 1) := by decide +kernel
theorem dX12_turns_106 : decode cX12_turns 106 = .ok (.putfield 543, 3) := by decide +kernel
theorem dX12_turns_109 : decode cX12_turns 109 = .ok (.return_, 1) := by decide +kernel
theorem dX12_two_0 : decode cX12_two 0 = .ok (.iload_n 0, 1) := by decide +kernel
theorem dX12_two_1 : decode cX12_two 1 = .ok (.tableswitch 174 38 62 #[160, 174, 174, 174, 123, 115, 174, 119, 174, 174, 174, 174, 174, 174, 174, 174, 174, 174, 174, 174, 174, 174, 127, 149, 138], 115) := by decide +kernel
theorem dX12_two_116 : decode cX12_two 116 = .ok (.iload_n 1, 1) := by decide +kernel
theorem dX12_two_117 : decode cX12_two 117 = .ok (.iload_n 2, 1) := by decide +kernel
theorem dX12_two_118 : decode cX12_two 118 = .ok (.iadd, 1) := by decide +kernel
theorem dX12_two_119 : decode cX12_two 119 = .ok (.ireturn, 1) := by decide +kernel
theorem dX12_two_120 : decode cX12_two 120 = .ok (.iload_n 1, 1) := by decide +kernel
theorem dX12_two_121 : decode cX12_two 121 = .ok (.iload_n 2, 1) := by decide +kernel
theorem dX12_two_122 : decode cX12_two 122 = .ok (.isub, 1) := by decide +kernel
theorem dX12_two_123 : decode cX12_two 123 = .ok (.ireturn, 1) := by decide +kernel
theorem dX12_two_124 : decode cX12_two 124 = .ok (.iload_n 1, 1) := by decide +kernel
theorem dX12_two_125 : decode cX12_two 125 = .ok (.iload_n 2, 1) := by decide +kernel
theorem dX12_two_126 : decode cX12_two 126 = .ok (.imul, 1) := by decide +kernel
theorem dX12_two_127 : decode cX12_two 127 = .ok (.ireturn, 1) := by decide +kernel
theorem dX12_two_128 : decode cX12_two 128 = .ok (.iload_n 1, 1) := by decide +kernel
theorem dX12_two_129 : decode cX12_two 129 = .ok (.iload_n 2, 1) := by decide +kernel
theorem dX12_two_130 : decode cX12_two 130 = .ok (.if_icmp .ge 7, 3) := by decide +kernel
theorem dX12_two_133 : decode cX12_two 133 = .ok (.iconst 1, 1) := by decide +kernel
theorem dX12_two_134 : decode cX12_two 134 = .ok (.goto 4, 3) := by decide +kernel
theorem dX12_two_137 : decode cX12_two 137 = .ok (.iconst 0, 1) := by decide +kernel
theorem dX12_two_138 : decode cX12_two 138 = .ok (.ireturn, 1) := by decide +kernel
theorem dX12_two_139 : decode cX12_two 139 = .ok (.iload_n 1, 1) := by decide +kernel
theorem dX12_two_140 : decode cX12_two 140 = .ok (.iload_n 2, 1) := by decide +kernel
theorem dX12_two_141 : decode cX12_two 141 = .ok (.if_icmp .le 7, 3) := by decide +kernel
theorem dX12_two_144 : decode cX12_two 144 = .ok (.iconst 1, 1) := by decide +kernel
theorem dX12_two_145 : decode cX12_two 145 = .ok (.goto 4, 3) := by decide +kernel
theorem dX12_two_148 : decode cX12_two 148 = .ok (.iconst 0, 1) := by decide +kernel
theorem dX12_two_149 : decode cX12_two 149 = .ok (.ireturn, 1) := by decide +kernel
theorem dX12_two_150 : decode cX12_two 150 = .ok (.iload_n 1, 1) := by decide +kernel
theorem dX12_two_151 : decode cX12_two 151 = .ok (.iload_n 2, 1) := by decide +kernel
theorem dX12_two_152 : decode cX12_two 152 = .ok (.if_icmp .ne 7, 3) := by decide +kernel
theorem dX12_two_155 : decode cX12_two 155 = .ok (.iconst 1, 1) := by decide +kernel
theorem dX12_two_156 : decode cX12_two 156 = .ok (.goto 4, 3) := by decide +kernel
theorem dX12_two_159 : decode cX12_two 159 = .ok (.iconst 0, 1) := by decide +kernel
theorem dX12_two_160 : decode cX12_two 160 = .ok (.ireturn, 1) := by decide +kernel
theorem dX12_two_161 : decode cX12_two 161 = .ok (.iload_n 1, 1) := by decide +kernel
theorem dX12_two_162 : decode cX12_two 162 = .ok (.ifCond .eq 11, 3) := by decide +kernel
theorem dX12_two_165 : decode cX12_two 165 = .ok (.iload_n 2, 1) := by decide +kernel
theorem dX12_two_166 : decode cX12_two 166 = .ok (.ifCond .eq 7, 3) := by decide +kernel
theorem dX12_two_169 : decode cX12_two 169 = .ok (.iconst 1, 1) := by decide +kernel
theorem dX12_two_170 : decode cX12_two 170 = .ok (.goto 4, 3) := by decide +kernel
theorem dX12_two_173 : decode cX12_two 173 = .ok (.iconst 0, 1) := by decide +kernel
