theorem dX10_init_5 : decode cX10_init 5 = .ok (.iconst 5, 1) := by decide +kernel
theorem dX10_init_6 : decode cX10_init 6 = .ok (.anewarray 9, 3) := by decide +kernel
theorem dX10_init_9 : decode cX10_init 9 = .ok (.putfield 11, 3) := by decide +kernel
theorem dX10_init_12 : decode cX10_init 12 = .ok (.aload_n 0, 1) := by decide +kernel
theorem dX10_init_13 : decode cX10_init 13 = .ok (.iconst 3, 1) := by decide +kernel
theorem dX10_init_14 : decode cX10_init 14 = .ok (.newarray .boolean, 2) := by decide +kernel
theorem dX10_init_16 : decode cX10_init 16 = .ok (.putfield 17, 3) := by decide +kernel
theorem dX10_init_19 : decode cX10_init 19 = .ok (.aload_n 0, 1) := by decide +kernel
theorem dX10_init_20 : decode cX10_init 20 = .ok (.bipush 6, 2) := by decide +kernel
theorem dX10_init_22 : decode cX10_init 22 = .ok (.newarray .int, 2) := by decide +kernel
theorem dX10_init_24 : decode cX10_init 24 = .ok (.putfield 21, 3) := by decide +kernel
theorem dX10_init_27 : decode cX10_init 27 = .ok (.aload_n 0, 1) := by decide +kernel
theorem dX10_init_28 : decode cX10_init 28 = .ok (.bipush 6, 2) := by decide +kernel
theorem dX10_init_30 : decode cX10_init 30 = .ok (.newarray .int, 2) := by decide +kernel
theorem dX10_init_32 : decode cX10_init 32 = .ok (.putfield 25, 3) := by decide +kernel
theorem dX10_init_35 : decode cX10_init 35 = .ok (.aload_n 0, 1) := by decide +kernel
theorem dX10_init_36 : decode cX10_init 36 = .ok (.new 28, 3) := by decide +kernel
theorem dX10_init_39 : decode cX10_init 39 = .ok (.dup, 1) := by decide +kernel
theorem dX10_init_40 : decode cX10_init 40 = .ok (.invokespecial 30, 3) := by decide +kernel
theorem dX10_init_43 : decode cX10_init 43 = .ok (.putfield 31, 3) := by decide +kernel
theorem dX10_init_46 : decode cX10_init 46 = .ok (.iconst 0, 1) := by decide +kernel
theorem dX10_init_47 : decode cX10_init 47 = .ok (.istore_n 1, 1) := by decide +kernel
theorem dX10_init_48 : decode cX10_init 48 = .ok (.iload_n 1, 1) := by decide +kernel
theorem dX10_init_49 : decode cX10_init 49 = .ok (.iconst 5, 1) := by decide +kernel
theorem dX10_init_50 : decode cX10_init 50 = .ok (.if_icmp .ge 22, 3) := by decide +kernel
theorem dX10_init_53 : decode cX10_init 53 = .ok (.aload_n 0, 1) := by decide +kernel
theorem dX10_init_54 : decode cX10_init 54 = .ok (.getfield 11, 3) := by decide +kernel
theorem dX10_init_57 : decode cX10_init 57 = .ok (.iload_n 1, 1) := by decide +kernel
theorem dX10_init_58 : decode cX10_init 58 = .ok (.new 9, 3) := by decide +kernel
theorem dX10_init_61 : decode cX10_init 61 = .ok (.dup, 1) := by decide +kernel
theorem dX10_init_62 : decode cX10_init 62 = .ok (.invokespecial 35, 3) := by decide +kernel
theorem dX10_init_65 : decode cX10_init 65 = .ok (.aastore, 1) := by decide +kernel
theorem dX10_init_66 : decode cX10_init 66 = .ok (.iinc 1 1, 3) := by decide +kernel
theorem dX10_init_69 : decode cX10_init 69 = .ok (.goto (-21), 3) := by decide +kernel
theorem dX10_init_72 : decode cX10_init 72 = .ok (.return_, 1) := by decide +kernel
theorem dX10_begin_0 : decode cX10_begin 0 = .ok (.aload_n 0, 1) := by decide +kernel
theorem dX10_begin_1 : decode cX10_begin 1 = .ok (.iconst 0, 1) := by decide +kernel
theorem dX10_begin_2 : decode cX10_begin 2 = .ok (.putfield 36, 3) := by decide +kernel
theorem dX10_begin_5 : decode cX10_begin 5 = .ok (.aload_n 0, 1) := by decide +kernel
theorem dX10_begin_6 : decode cX10_begin 6 = .ok (.iconst (-1), 1) := by decide +kernel
theorem dX10_begin_7 : decode cX10_begin 7 = .ok (.putfield 40, 3) := by decide +kernel
theorem dX10_begin_10 : decode cX10_begin 10 = .ok (.aload_n 0, 1) := by decide +kernel
theorem dX10_begin_11 : decode cX10_begin 11 = .ok (.iconst 0, 1) := by decide +kernel
theorem dX10_begin_12 : decode cX10_begin 12 = .ok (.putfield 43, 3) := by decide +kernel
theorem dX10_begin_15 : decode cX10_begin 15 = .ok (.aload_n 0, 1) := by decide +kernel
theorem dX10_begin_16 : decode cX10_begin 16 = .ok (.iconst (-1), 1) := by decide +kernel
theorem dX10_begin_17 : decode cX10_begin 17 = .ok (.putfield 46, 3) := by decide +kernel
theorem dX10_begin_20 : decode cX10_begin 20 = .ok (.aload_n 0, 1) := by decide +kernel
theorem dX10_begin_21 : decode cX10_begin 21 = .ok (.iconst (-1), 1) := by decide +kernel
theorem dX10_begin_22 : decode cX10_begin 22 = .ok (.putfield 49, 3) := by decide +kernel
theorem dX10_begin_25 : decode cX10_begin 25 = .ok (.aload_n 0, 1) := by decide +kernel
theorem dX10_begin_26 : decode cX10_begin 26 = .ok (.iconst 0, 1) := by decide +kernel
theorem dX10_begin_27 : decode cX10_begin 27 = .ok (.putfield 52, 3) := by decide +kernel
theorem dX10_begin_30 : decode cX10_begin 30 = .ok (.iconst 0, 1) := by decide +kernel
theorem dX10_begin_31 : decode cX10_begin 31 = .ok (.istore_n 2, 1) := by decide +kernel
theorem dX10_begin_32 : decode cX10_begin 32 = .ok (.iload_n 2, 1) := by decide +kernel
theorem dX10_begin_33 : decode cX10_begin 33 = .ok (.iconst 5, 1) := by decide +kernel
theorem dX10_begin_34 : decode cX10_begin 34 = .ok (.if_icmp .ge 24, 3) := by decide +kernel
theorem dX10_begin_37 : decode cX10_begin 37 = .ok (.aload_n 0, 1) := by decide +kernel
theorem dX10_begin_38 : decode cX10_begin 38 = .ok (.getfield 11, 3) := by decide +kernel
theorem dX10_begin_41 : decode cX10_begin 41 = .ok (.iload_n 2, 1) := by decide +kernel
theorem dX10_begin_42 : decode cX10_begin 42 = .ok (.aaload, 1) := by decide +kernel
theorem dX10_begin_43 : decode cX10_begin 43 = .ok (.aload_n 1, 1) := by decide +kernel
theorem dX10_begin_44 : decode cX10_begin 44 = .ok (.getfield 55, 3) := by decide +kernel
theorem dX10_begin_47 : decode cX10_begin 47 = .ok (.iload_n 2, 1) := by decide +kernel
theorem dX10_begin_48 : decode cX10_begin 48 = .ok (.iaload, 1) := by decide +kernel
theorem dX10_begin_49 : decode cX10_begin 49 = .ok (.invokevirtual 60, 3) := by decide +kernel
theorem dX10_begin_52 : decode cX10_begin 52 = .ok (.iinc 2 1, 3) := by decide +kernel
theorem dX10_begin_55 : decode cX10_begin 55 = .ok (.goto (-23), 3) := by decide +kernel
theorem dX10_begin_58 : decode cX10_begin 58 = .ok (.iconst 0, 1) := by decide +kernel
theorem dX10_begin_59 : decode cX10_begin 59 = .ok (.istore_n 2, 1) := by decide +kernel
theorem dX10_begin_60 : decode cX10_begin 60 = .ok (.iload_n 2, 1) := by decide +kernel
theorem dX10_begin_61 : decode cX10_begin 61 = .ok (.iconst 3, 1) := by decide +kernel
theorem dX10_begin_62 : decode cX10_begin 62 = .ok (.if_icmp .ge 16, 3) := by decide +kernel
theorem dX10_begin_65 : decode cX10_begin 65 = .ok (.aload_n 0, 1) := by decide +kernel
theorem dX10_begin_66 : decode cX10_begin 66 = .ok (.getfield 17, 3) := by decide +kernel
theorem dX10_begin_69 : decode cX10_begin 69 = .ok (.iload_n 2, 1) := by decide +kernel
theorem dX10_begin_70 : decode cX10_begin 70 = .ok (.iconst 0, 1) := by decide +kernel
theorem dX10_begin_71 : decode cX10_begin 71 = .ok (.bastore, 1) := by decide +kernel
theorem dX10_begin_72 : decode cX10_begin 72 = .ok (.iinc 2 1, 3) := by decide +kernel
theorem dX10_begin_75 : decode cX10_begin 75 = .ok (.goto (-15), 3) := by decide +kernel
theorem dX10_begin_78 : decode cX10_begin 78 = .ok (.aload_n 1, 1) := by decide +kernel
theorem dX10_begin_79 : decode cX10_begin 79 = .ok (.getfield 64, 3) := by decide +kernel
theorem dX10_begin_82 : decode cX10_begin 82 = .ok (.iconst 0, 1) := by decide +kernel
theorem dX10_begin_83 : decode cX10_begin 83 = .ok (.aload_n 0, 1) := by decide +kernel
theorem dX10_begin_84 : decode cX10_begin 84 = .ok (.getfield 21, 3) := by decide +kernel
theorem dX10_begin_87 : decode cX10_begin 87 = .ok (.iconst 0, 1) := by decide +kernel
theorem dX10_begin_88 : decode cX10_begin 88 = .ok (.bipush 6, 2) := by decide +kernel
theorem dX10_begin_90 : decode cX10_begin 90 = .ok (.invokestatic 67, 3) := by decide +kernel
theorem dX10_begin_93 : decode cX10_begin 93 = .ok (.aload_n 0, 1) := by decide +kernel
theorem dX10_begin_94 : decode cX10_begin 94 = .ok (.getfield 25, 3) := by decide +kernel
theorem dX10_begin_97 : decode cX10_begin 97 = .ok (.iconst 0, 1) := by decide +kernel
theorem dX10_begin_98 : decode cX10_begin 98 = .ok (.invokestatic 73, 3) := by decide +kernel
theorem dX10_begin_101 : decode cX10_begin 101 = .ok (.aload_n 0, 1) := by decide +kernel
theorem dX10_begin_102 : decode cX10_begin 102 = .ok (.getfield 31, 3) := by decide +kernel
theorem dX10_begin_105 : decode cX10_begin 105 = .ok (.invokevirtual 79, 3) := by decide +kernel
theorem dX10_begin_108 : decode cX10_begin 108 = .ok (.return_, 1) := by decide +kernel
theorem dX10_copyFrom_0 : decode cX10_copyFrom 0 = .ok (.aload_n 0, 1) := by decide +kernel
theorem dX10_copyFrom_1 : decode cX10_copyFrom 1 = .ok (.aload_n 1, 1) := by decide +kernel
theorem dX10_copyFrom_2 : decode cX10_copyFrom 2 = .ok (.getfield 36, 3) := by decide +kernel
theorem dX10_copyFrom_5 : decode cX10_copyFrom 5 = .ok (.putfield 36, 3) := by decide +kernel
theorem dX10_copyFrom_8 : decode cX10_copyFrom 8 = .ok (.aload_n 0, 1) := by decide +kernel
theorem dX10_copyFrom_9 : decode cX10_copyFrom 9 = .ok (.aload_n 1, 1) := by decide +kernel
theorem dX10_copyFrom_10 : decode cX10_copyFrom 10 = .ok (.getfield 40, 3) := by decide +kernel
theorem dX10_copyFrom_13 : decode cX10_copyFrom 13 = .ok (.putfield 40, 3) := by decide +kernel
theorem dX10_copyFrom_16 : decode cX10_copyFrom 16 = .ok (.aload_n 0, 1) := by decide +kernel
theorem dX10_copyFrom_17 : decode cX10_copyFrom 17 = .ok (.aload_n 1, 1) := by decide +kernel
theorem dX10_copyFrom_18 : decode cX10_copyFrom 18 = .ok (.getfield 43, 3) := by decide +kernel
theorem dX10_copyFrom_21 : decode cX10_copyFrom 21 = .ok (.putfield 43, 3) := by decide +kernel
theorem dX10_copyFrom_24 : decode cX10_copyFrom 24 = .ok (.aload_n 0, 1) := by decide +kernel
theorem dX10_copyFrom_25 : decode cX10_copyFrom 25 = .ok (.aload_n 1, 1) := by decide +kernel
theorem dX10_copyFrom_26 : decode cX10_copyFrom 26 = .ok (.getfield 46, 3) := by decide +kernel
theorem dX10_copyFrom_29 : decode cX10_copyFrom 29 = .ok (.putfield 46, 3) := by decide +kernel
theorem dX10_copyFrom_32 : decode cX10_copyFrom 32 = .ok (.aload_n 0, 1) := by decide +kernel
theorem dX10_copyFrom_33 : decode cX10_copyFrom 33 = .ok (.aload_n 1, 1) := by decide +kernel
theorem dX10_copyFrom_34 : decode cX10_copyFrom 34 = .ok (.getfield 49, 3) := by decide +kernel
theorem dX10_copyFrom_37 : decode cX10_copyFrom 37 = .ok (.putfield 49, 3) := by decide +kernel
theorem dX10_copyFrom_40 : decode cX10_copyFrom 40 = .ok (.aload_n 0, 1) := by decide +kernel
theorem dX10_copyFrom_41 : decode cX10_copyFrom 41 = .ok (.aload_n 1, 1) := by decide +kernel
theorem dX10_copyFrom_42 : decode cX10_copyFrom 42 = .ok (.getfield 52, 3) := by decide +kernel
theorem dX10_copyFrom_45 : decode cX10_copyFrom 45 = .ok (.putfield 52, 3) := by decide +kernel
theorem dX10_copyFrom_48 : decode cX10_copyFrom 48 = .ok (.iconst 0, 1) := by decide +kernel
theorem dX10_copyFrom_49 : decode cX10_copyFrom 49 = .ok (.istore_n 2, 1) := by decide +kernel
theorem dX10_copyFrom_50 : decode cX10_copyFrom 50 = .ok (.iload_n 2, 1) := by decide +kernel
theorem dX10_copyFrom_51 : decode cX10_copyFrom 51 = .ok (.iconst 5, 1) := by decide +kernel
theorem dX10_copyFrom_52 : decode cX10_copyFrom 52 = .ok (.if_icmp .ge 24, 3) := by decide +kernel
theorem dX10_copyFrom_55 : decode cX10_copyFrom 55 = .ok (.aload_n 0, 1) := by decide +kernel
theorem dX10_copyFrom_56 : decode cX10_copyFrom 56 = .ok (.getfield 11, 3) := by decide +kernel
theorem dX10_copyFrom_59 : decode cX10_copyFrom 59 = .ok (.iload_n 2, 1) := by decide +kernel
theorem dX10_copyFrom_60 : decode cX10_copyFrom 60 = .ok (.aaload, 1) := by decide +kernel
theorem dX10_copyFrom_61 : decode cX10_copyFrom 61 = .ok (.aload_n 1, 1) := by decide +kernel
theorem dX10_copyFrom_62 : decode cX10_copyFrom 62 = .ok (.getfield 11, 3) := by decide +kernel
theorem dX10_copyFrom_65 : decode cX10_copyFrom 65 = .ok (.iload_n 2, 1) := by decide +kernel
theorem dX10_copyFrom_66 : decode cX10_copyFrom 66 = .ok (.aaload, 1) := by decide +kernel
theorem dX10_copyFrom_67 : decode cX10_copyFrom 67 = .ok (.invokevirtual 82, 3) := by decide +kernel
theorem dX10_copyFrom_70 : decode cX10_copyFrom 70 = .ok (.iinc 2 1, 3) := by decide +kernel
theorem dX10_copyFrom_73 : decode cX10_copyFrom 73 = .ok (.goto (-23), 3) := by decide +kernel
theorem dX10_copyFrom_76 : decode cX10_copyFrom 76 = .ok (.aload_n 1, 1) := by decide +kernel
theorem dX10_copyFrom_77 : decode cX10_copyFrom 77 = .ok (.getfield 17, 3) := by decide +kernel
theorem dX10_copyFrom_80 : decode cX10_copyFrom 80 = .ok (.iconst 0, 1) := by decide +kernel
theorem dX10_copyFrom_81 : decode cX10_copyFrom 81 = .ok (.aload_n 0, 1) := by decide +kernel
theorem dX10_copyFrom_82 : decode cX10_copyFrom 82 = .ok (.getfield 17, 3) := by decide +kernel
theorem dX10_copyFrom_85 : decode cX10_copyFrom 85 = .ok (.iconst 0, 1) := by decide +kernel
theorem dX10_copyFrom_86 : decode cX10_copyFrom 86 = .ok (.iconst 3, 1) := by decide +kernel
theorem dX10_copyFrom_87 : decode cX10_copyFrom 87 = .ok (.invokestatic 67, 3) := by decide +kernel
theorem dX10_copyFrom_90 : decode cX10_copyFrom 90 = .ok (.aload_n 1, 1) := by decide +kernel
theorem dX10_copyFrom_91 : decode cX10_copyFrom 91 = .ok (.getfield 21, 3) := by decide +kernel
theorem dX10_copyFrom_94 : decode cX10_copyFrom 94 = .ok (.iconst 0, 1) := by decide +kernel
theorem dX10_copyFrom_95 : decode cX10_copyFrom 95 = .ok (.aload_n 0, 1) := by decide +kernel
theorem dX10_copyFrom_96 : decode cX10_copyFrom 96 = .ok (.getfield 21, 3) := by decide +kernel
theorem dX10_copyFrom_99 : decode cX10_copyFrom 99 = .ok (.iconst 0, 1) := by decide +kernel
theorem dX10_copyFrom_100 : decode cX10_copyFrom 100 = .ok (.bipush 6, 2) := by decide +kernel
theorem dX10_copyFrom_102 : decode cX10_copyFrom 102 = .ok (.invokestatic 67, 3) := by decide +kernel
theorem dX10_copyFrom_105 : decode cX10_copyFrom 105 = .ok (.aload_n 1, 1) := by decide +kernel
theorem dX10_copyFrom_106 : decode cX10_copyFrom 106 = .ok (.getfield 25, 3) := by decide +kernel
theorem dX10_copyFrom_109 : decode cX10_copyFrom 109 = .ok (.iconst 0, 1) := by decide +kernel
theorem dX10_copyFrom_110 : decode cX10_copyFrom 110 = .ok (.aload_n 0, 1) := by decide +kernel
theorem dX10_copyFrom_111 : decode cX10_copyFrom 111 = .ok (.getfield 25, 3) := by decide +kernel
theorem dX10_copyFrom_114 : decode cX10_copyFrom 114 = .ok (.iconst 0, 1) := by decide +kernel
theorem dX10_copyFrom_115 : decode cX10_copyFrom 115 = .ok (.bipush 6, 2) := by decide +kernel
theorem dX10_copyFrom_117 : decode cX10_copyFrom 117 = .ok (.invokestatic 67, 3) := by decide +kernel
theorem dX10_copyFrom_120 : decode cX10_copyFrom 120 = .ok (.aload_n 0, 1) := by decide +kernel
theorem dX10_copyFrom_121 : decode cX10_copyFrom 121 = .ok (.getfield 31, 3) := by decide +kernel
theorem dX10_copyFrom_124 : decode cX10_copyFrom 124 = .ok (.aload_n 1, 1) := by decide +kernel
theorem dX10_copyFrom_125 : decode cX10_copyFrom 125 = .ok (.getfield 31, 3) := by decide +kernel
theorem dX10_copyFrom_128 : decode cX10_copyFrom 128 = .ok (.invokevirtual 86, 3) := by decide +kernel
theorem dX10_copyFrom_131 : decode cX10_copyFrom 131 = .ok (.return_, 1) := by decide +kernel
theorem dX10_notDone_0 : decode cX10_notDone 0 = .ok (.iconst 0, 1) := by decide +kernel
theorem dX10_notDone_1 : decode cX10_notDone 1 = .ok (.istore_n 2, 1) := by decide +kernel
theorem dX10_notDone_2 : decode cX10_notDone 2 = .ok (.iconst 0, 1) := by decide +kernel
theorem dX10_notDone_3 : decode cX10_notDone 3 = .ok (.istore_n 3, 1) := by decide +kernel
theorem dX10_notDone_4 : decode cX10_notDone 4 = .ok (.iload_n 3, 1) := by decide +kernel
theorem dX10_notDone_5 : decode cX10_notDone 5 = .ok (.aload_n 1, 1) := by decide +kernel
theorem dX10_notDone_6 : decode cX10_notDone 6 = .ok (.getfield 89, 3) := by decide +kernel
theorem dX10_notDone_9 : decode cX10_notDone 9 = .ok (.if_icmp .ge 25, 3) := by decide +kernel
theorem dX10_notDone_34 : decode cX10_notDone 34 = .ok (.iload_n 2, 1) := by decide +kernel
theorem dX10_notDone_35 : decode cX10_notDone 35 = .ok (.ireturn, 1) := by decide +kernel
theorem dX11_init_0 : decode cX11_init 0 = .ok (.aload_n 0, 1) := by decide +kernel
theorem dX11_init_1 : decode cX11_init 1 = .ok (.invokespecial 1, 3) := by decide +kernel
theorem dX11_init_4 : decode cX11_init 4 = .ok (.aload_n 0, 1) := by decide +kernel
theorem dX11_init_5 : decode cX11_init 5 = .ok (.sipush 1600, 3) := by decide +kernel
theorem dX11_init_8 : decode cX11_init 8 = .ok (.newarray .byte, 2) := by decide +kernel
theorem dX11_init_10 : decode cX11_init 10 = .ok (.putfield 9, 3) := by decide +kernel
theorem dX11_init_13 : decode cX11_init 13 = .ok (.aload_n 0, 1) := by decide +kernel
theorem dX11_init_14 : decode cX11_init 14 = .ok (.iconst 0, 1) := by decide +kernel
theorem dX11_init_15 : decode cX11_init 15 = .ok (.putfield 13, 3) := by decide +kernel
theorem dX11_init_18 : decode cX11_init 18 = .ok (.aload_n 0, 1) := by decide +kernel
theorem dX11_init_19 : decode cX11_init 19 = .ok (.new 17, 3) := by decide +kernel
theorem dX11_init_22 : decode cX11_init 22 = .ok (.dup, 1) := by decide +kernel
theorem dX11_init_23 : decode cX11_init 23 = .ok (.invokespecial 19, 3) := by decide +kernel
theorem dX11_init_26 : decode cX11_init 26 = .ok (.putfield 20, 3) := by decide +kernel
theorem dX11_init_29 : decode cX11_init 29 = .ok (.aload_n 0, 1) := by decide +kernel
theorem dX11_init_30 : decode cX11_init 30 = .ok (.new 24, 3) := by decide +kernel
theorem dX11_init_33 : decode cX11_init 33 = .ok (.dup, 1) := by decide +kernel
theorem dX11_init_34 : decode cX11_init 34 = .ok (.invokespecial 26, 3) := by decide +kernel
theorem dX11_init_37 : decode cX11_init 37 = .ok (.putfield 27, 3) := by decide +kernel
theorem dX11_init_40 : decode cX11_init 40 = .ok (.aload_n 0, 1) := by decide +kernel
theorem dX11_init_41 : decode cX11_init 41 = .ok (.new 24, 3) := by decide +kernel
theorem dX11_init_44 : decode cX11_init 44 = .ok (.dup, 1) := by decide +kernel
theorem dX11_init_45 : decode cX11_init 45 = .ok (.invokespecial 26, 3) := by decide +kernel
theorem dX11_init_48 : decode cX11_init 48 = .ok (.putfield 31, 3) := by decide +kernel
theorem dX11_init_51 : decode cX11_init 51 = .ok (.aload_n 0, 1) := by decide +kernel
theorem dX11_init_52 : decode cX11_init 52 = .ok (.new 34, 3) := by decide +kernel
theorem dX11_init_55 : decode cX11_init 55 = .ok (.dup, 1) := by decide +kernel
theorem dX11_init_56 : decode cX11_init 56 = .ok (.invokespecial 36, 3) := by decide +kernel
theorem dX11_init_59 : decode cX11_init 59 = .ok (.putfield 37, 3) := by decide +kernel
theorem dX11_init_62 : decode cX11_init 62 = .ok (.aload_n 0, 1) := by decide +kernel
theorem dX11_init_63 : decode cX11_init 63 = .ok (.iconst 3, 1) := by decide +kernel
theorem dX11_init_64 : decode cX11_init 64 = .ok (.anewarray 34, 3) := by decide +kernel
theorem dX11_init_67 : decode cX11_init 67 = .ok (.putfield 41, 3) := by decide +kernel
theorem dX11_init_70 : decode cX11_init 70 = .ok (.aload_n 0, 1) := by decide +kernel
theorem dX11_init_71 : decode cX11_init 71 = .ok (.iconst 3, 1) := by decide +kernel
theorem dX11_init_72 : decode cX11_init 72 = .ok (.newarray .boolean, 2) := by decide +kernel
theorem dX11_init_74 : decode cX11_init 74 = .ok (.putfield 45, 3) := by decide +kernel
theorem dX11_init_77 : decode cX11_init 77 = .ok (.aload_n 0, 1) := by decide +kernel
theorem dX11_init_78 : decode cX11_init 78 = .ok (.new 49, 3) := by decide +kernel
theorem dX11_init_81 : decode cX11_init 81 = .ok (.dup, 1) := by decide +kernel
theorem dX11_init_82 : decode cX11_init 82 = .ok (.invokespecial 51, 3) := by decide +kernel
theorem dX11_init_85 : decode cX11_init 85 = .ok (.putfield 52, 3) := by decide +kernel
theorem dX11_init_88 : decode cX11_init 88 = .ok (.aload_n 0, 1) := by decide +kernel
theorem dX11_init_89 : decode cX11_init 89 = .ok (.new 56, 3) := by decide +kernel
theorem dX11_init_92 : decode cX11_init 92 = .ok (.dup, 1) := by decide +kernel
theorem dX11_init_93 : decode cX11_init 93 = .ok (.invokespecial 58, 3) := by decide +kernel
theorem dX11_init_96 : decode cX11_init 96 = .ok (.putfield 59, 3) := by decide +kernel
theorem dX11_init_99 : decode cX11_init 99 = .ok (.aload_n 0, 1) := by decide +kernel
theorem dX11_init_100 : decode cX11_init 100 = .ok (.new 63, 3) := by decide +kernel
theorem dX11_init_103 : decode cX11_init 103 = .ok (.dup, 1) := by decide +kernel
theorem dX11_init_104 : decode cX11_init 104 = .ok (.invokespecial 65, 3) := by decide +kernel
theorem dX11_init_107 : decode cX11_init 107 = .ok (.putfield 66, 3) := by decide +kernel
theorem dX11_init_110 : decode cX11_init 110 = .ok (.iconst 0, 1) := by decide +kernel
theorem dX11_init_111 : decode cX11_init 111 = .ok (.istore_n 1, 1) := by decide +kernel
theorem dX11_init_112 : decode cX11_init 112 = .ok (.iload_n 1, 1) := by decide +kernel
theorem dX11_init_113 : decode cX11_init 113 = .ok (.iconst 3, 1) := by decide +kernel
theorem dX11_init_114 : decode cX11_init 114 = .ok (.if_icmp .ge 22, 3) := by decide +kernel
theorem dX11_init_117 : decode cX11_init 117 = .ok (.aload_n 0, 1) := by decide +kernel
theorem dX11_init_118 : decode cX11_init 118 = .ok (.getfield 41, 3) := by decide +kernel
theorem dX11_init_121 : decode cX11_init 121 = .ok (.iload_n 1, 1) := by decide +kernel
theorem dX11_init_122 : decode cX11_init 122 = .ok (.new 34, 3) := by decide +kernel
theorem dX11_init_125 : decode cX11_init 125 = .ok (.dup, 1) := by decide +kernel
theorem dX11_init_126 : decode cX11_init 126 = .ok (.invokespecial 36, 3) := by decide +kernel
theorem dX11_init_129 : decode cX11_init 129 = .ok (.aastore, 1) := by decide +kernel
theorem dX11_init_130 : decode cX11_init 130 = .ok (.iinc 1 1, 3) := by decide +kernel
theorem dX11_init_133 : decode cX11_init 133 = .ok (.goto (-21), 3) := by decide +kernel
theorem dX11_init_136 : decode cX11_init 136 = .ok (.aload_n 0, 1) := by decide +kernel
theorem dX11_init_137 : decode cX11_init 137 = .ok (.getfield 37, 3) := by decide +kernel
theorem dX11_init_140 : decode cX11_init 140 = .ok (.aload_n 0, 1) := by decide +kernel
theorem dX11_init_141 : decode cX11_init 141 = .ok (.getfield 27, 3) := by decide +kernel
theorem dX11_init_144 : decode cX11_init 144 = .ok (.invokevirtual 70, 3) := by decide +kernel
theorem dX11_init_147 : decode cX11_init 147 = .ok (.return_, 1) := by decide +kernel
theorem dX11_about_0 : decode cX11_about 0 = .ok (.iload_n 1, 1) := by decide +kernel
theorem dX11_about_1 : decode cX11_about 1 = .ok (.tableswitch 189 0 13 #[71, 79, 87, 95, 103, 111, 119, 124, 132, 140, 148, 159, 170, 181], 71) := by decide +kernel
theorem dX11_about_72 : decode cX11_about 72 = .ok (.aload_n 0, 1) := by decide +kernel
theorem dX11_about_73 : decode cX11_about 73 = .ok (.getfield 27, 3) := by decide +kernel
theorem dX11_about_76 : decode cX11_about 76 = .ok (.getfield 323, 3) := by decide +kernel
theorem dX11_about_79 : decode cX11_about 79 = .ok (.ireturn, 1) := by decide +kernel
theorem dX11_about_80 : decode cX11_about 80 = .ok (.aload_n 0, 1) := by decide +kernel
theorem dX11_about_81 : decode cX11_about 81 = .ok (.getfield 27, 3) := by decide +kernel
theorem dX11_about_84 : decode cX11_about 84 = .ok (.getfield 207, 3) := by decide +kernel
theorem dX11_about_87 : decode cX11_about 87 = .ok (.ireturn, 1) := by decide +kernel
theorem dX11_about_88 : decode cX11_about 88 = .ok (.aload_n 0, 1) := by decide +kernel
theorem dX11_about_89 : decode cX11_about 89 = .ok (.getfield 27, 3) := by decide +kernel
theorem dX11_about_92 : decode cX11_about 92 = .ok (.getfield 326, 3) := by decide +kernel
theorem dX11_about_95 : decode cX11_about 95 = .ok (.ireturn, 1) := by decide +kernel
theorem dX11_about_96 : decode cX11_about 96 = .ok (.aload_n 0, 1) := by decide +kernel
theorem dX11_about_97 : decode cX11_about 97 = .ok (.getfield 37, 3) := by decide +kernel
theorem dX11_about_100 : decode cX11_about 100 = .ok (.getfield 98, 3) := by decide +kernel
theorem dX11_about_103 : decode cX11_about 103 = .ok (.ireturn, 1) := by decide +kernel
theorem dX11_about_104 : decode cX11_about 104 = .ok (.aload_n 0, 1) := by decide +kernel
theorem dX11_about_105 : decode cX11_about 105 = .ok (.getfield 66, 3) := by decide +kernel
theorem dX11_about_108 : decode cX11_about 108 = .ok (.getfield 329, 3) := by decide +kernel
theorem dX11_about_111 : decode cX11_about 111 = .ok (.ireturn, 1) := by decide +kernel
theorem dX11_about_112 : decode cX11_about 112 = .ok (.aload_n 0, 1) := by decide +kernel
theorem dX11_about_113 : decode cX11_about 113 = .ok (.getfield 66, 3) := by decide +kernel
theorem dX11_about_116 : decode cX11_about 116 = .ok (.getfield 297, 3) := by decide +kernel
theorem dX11_about_119 : decode cX11_about 119 = .ok (.ireturn, 1) := by decide +kernel
theorem dX11_about_120 : decode cX11_about 120 = .ok (.aload_n 0, 1) := by decide +kernel
theorem dX11_about_121 : decode cX11_about 121 = .ok (.getfield 13, 3) := by decide +kernel
theorem dX11_about_124 : decode cX11_about 124 = .ok (.ireturn, 1) := by decide +kernel
theorem dX11_about_125 : decode cX11_about 125 = .ok (.aload_n 0, 1) := by decide +kernel
theorem dX11_about_126 : decode cX11_about 126 = .ok (.getfield 27, 3) := by decide +kernel
theorem dX11_about_129 : decode cX11_about 129 = .ok (.getfield 332, 3) := by decide +kernel
theorem dX11_about_132 : decode cX11_about 132 = .ok (.ireturn, 1) := by decide +kernel
theorem dX11_about_133 : decode cX11_about 133 = .ok (.aload_n 0, 1) := by decide +kernel
theorem dX11_about_134 : decode cX11_about 134 = .ok (.getfield 27, 3) := by decide +kernel
theorem dX11_about_137 : decode cX11_about 137 = .ok (.getfield 335, 3) := by decide +kernel
theorem dX11_about_140 : decode cX11_about 140 = .ok (.ireturn, 1) := by decide +kernel
theorem dX11_about_141 : decode cX11_about 141 = .ok (.aload_n 0, 1) := by decide +kernel
theorem dX11_about_142 : decode cX11_about 142 = .ok (.getfield 27, 3) := by decide +kernel
theorem dX11_about_145 : decode cX11_about 145 = .ok (.getfield 338, 3) := by decide +kernel
theorem dX11_about_148 : decode cX11_about 148 = .ok (.ireturn, 1) := by decide +kernel
theorem dX11_about_149 : decode cX11_about 149 = .ok (.aload_n 0, 1) := by decide +kernel
theorem dX11_about_150 : decode cX11_about 150 = .ok (.getfield 27, 3) := by decide +kernel
theorem dX11_about_153 : decode cX11_about 153 = .ok (.getfield 222, 3) := by decide +kernel
theorem dX11_about_156 : decode cX11_about 156 = .ok (.getfield 341, 3) := by decide +kernel
theorem dX11_about_159 : decode cX11_about 159 = .ok (.ireturn, 1) := by decide +kernel
theorem dX11_about_160 : decode cX11_about 160 = .ok (.aload_n 0, 1) := by decide +kernel
theorem dX11_about_161 : decode cX11_about 161 = .ok (.getfield 27, 3) := by decide +kernel
theorem dX11_about_164 : decode cX11_about 164 = .ok (.getfield 222, 3) := by decide +kernel
theorem dX11_about_167 : decode cX11_about 167 = .ok (.getfield 342, 3) := by decide +kernel
theorem dX11_about_170 : decode cX11_about 170 = .ok (.ireturn, 1) := by decide +kernel
theorem dX11_about_171 : decode cX11_about 171 = .ok (.aload_n 0, 1) := by decide +kernel
theorem dX11_about_172 : decode cX11_about 172 = .ok (.getfield 37, 3) := by decide +kernel
theorem dX11_about_175 : decode cX11_about 175 = .ok (.getfield 149, 3) := by decide +kernel
theorem dX11_about_178 : decode cX11_about 178 = .ok (.getfield 345, 3) := by decide +kernel
theorem dX11_about_181 : decode cX11_about 181 = .ok (.ireturn, 1) := by decide +kernel
theorem dX11_about_182 : decode cX11_about 182 = .ok (.aload_n 0, 1) := by decide +kernel
theorem dX11_about_183 : decode cX11_about 183 = .ok (.getfield 37, 3) := by decide +kernel
theorem dX11_about_186 : decode cX11_about 186 = .ok (.getfield 348, 3) := by decide +kernel
theorem dX11_about_189 : decode cX11_about 189 = .ok (.ireturn, 1) := by decide +kernel
theorem dX11_about_190 : decode cX11_about 190 = .ok (.iconst (-1), 1) := by decide +kernel
theorem dX11_about_191 : decode cX11_about 191 = .ok (.ireturn, 1) := by decide +kernel
theorem dX11_asks_0 : decode cX11_asks 0 = .ok (.aload_n 0, 1) := by decide +kernel
theorem dX11_asks_1 : decode cX11_asks 1 = .ok (.getfield 27, 3) := by decide +kernel
theorem dX11_asks_4 : decode cX11_asks 4 = .ok (.getfield 222, 3) := by decide +kernel
theorem dX11_asks_7 : decode cX11_asks 7 = .ok (.iload_n 1, 1) := by decide +kernel
theorem dX11_asks_8 : decode cX11_asks 8 = .ok (.invokevirtual 226, 3) := by decide +kernel
theorem dX11_asks_11 : decode cX11_asks 11 = .ok (.istore_n 3, 1) := by decide +kernel
theorem dX11_asks_12 : decode cX11_asks 12 = .ok (.iload_n 3, 1) := by decide +kernel
theorem dX11_asks_13 : decode cX11_asks 13 = .ok (.iconst (-1), 1) := by decide +kernel
theorem dX11_asks_14 : decode cX11_asks 14 = .ok (.if_icmp .eq 14, 3) := by decide +kernel
theorem dX11_asks_28 : decode cX11_asks 28 = .ok (.ldc 195, 2) := by decide +kernel
theorem dX11_asks_30 : decode cX11_asks 30 = .ok (.ireturn, 1) := by decide +kernel
theorem dX11_back_0 : decode cX11_back 0 = .ok (.iload_n 1, 1) := by decide +kernel
theorem dX11_back_1 : decode cX11_back 1 = .ok (.ifCond .lt 17, 3) := by decide +kernel
theorem dX11_back_4 : decode cX11_back 4 = .ok (.iload_n 1, 1) := by decide +kernel
theorem dX11_back_5 : decode cX11_back 5 = .ok (.iconst 3, 1) := by decide +kernel
theorem dX11_back_6 : decode cX11_back 6 = .ok (.if_icmp .ge 12, 3) := by decide +kernel
theorem dX11_back_9 : decode cX11_back 9 = .ok (.aload_n 0, 1) := by decide +kernel
theorem dX11_back_10 : decode cX11_back 10 = .ok (.getfield 45, 3) := by decide +kernel
theorem dX11_back_13 : decode cX11_back 13 = .ok (.iload_n 1, 1) := by decide +kernel
theorem dX11_back_14 : decode cX11_back 14 = .ok (.baload, 1) := by decide +kernel
theorem dX11_back_15 : decode cX11_back 15 = .ok (.ifCond .ne 5, 3) := by decide +kernel
theorem dX11_back_18 : decode cX11_back 18 = .ok (.iconst (-1), 1) := by decide +kernel
theorem dX11_back_19 : decode cX11_back 19 = .ok (.ireturn, 1) := by decide +kernel
theorem dX11_car_0 : decode cX11_car 0 = .ok (.aload_n 0, 1) := by decide +kernel
theorem dX11_car_1 : decode cX11_car 1 = .ok (.getfield 27, 3) := by decide +kernel
theorem dX11_car_4 : decode cX11_car 4 = .ok (.iload_n 1, 1) := by decide +kernel
theorem dX11_car_5 : decode cX11_car 5 = .ok (.invokevirtual 109, 3) := by decide +kernel
theorem dX11_car_8 : decode cX11_car 8 = .ok (.ifCond .ne 5, 3) := by decide +kernel
theorem dX11_car_11 : decode cX11_car 11 = .ok (.iconst (-1), 1) := by decide +kernel
theorem dX11_car_12 : decode cX11_car 12 = .ok (.ireturn, 1) := by decide +kernel
theorem dX11_coasts_0 : decode cX11_coasts 0 = .ok (.iload_n 1, 1) := by decide +kernel
theorem dX11_coasts_1 : decode cX11_coasts 1 = .ok (.invokestatic 239, 3) := by decide +kernel
theorem dX11_coasts_4 : decode cX11_coasts 4 = .ok (.ifCond .eq 15, 3) := by decide +kernel
theorem dX11_coasts_7 : decode cX11_coasts 7 = .ok (.iload_n 2, 1) := by decide +kernel
theorem dX11_coasts_8 : decode cX11_coasts 8 = .ok (.bipush (-60), 2) := by decide +kernel
theorem dX11_coasts_10 : decode cX11_coasts 10 = .ok (.if_icmp .lt 9, 3) := by decide +kernel
theorem dX11_coasts_13 : decode cX11_coasts 13 = .ok (.iload_n 2, 1) := by decide +kernel
theorem dX11_coasts_14 : decode cX11_coasts 14 = .ok (.bipush 60, 2) := by decide +kernel
theorem dX11_coasts_16 : decode cX11_coasts 16 = .ok (.if_icmp .le 6, 3) := by decide +kernel
theorem dX11_coasts_19 : decode cX11_coasts 19 = .ok (.bipush (-2), 2) := by decide +kernel
theorem dX11_coasts_21 : decode cX11_coasts 21 = .ok (.ireturn, 1) := by decide +kernel
theorem dX11_coasts_22 : decode cX11_coasts 22 = .ok (.aload_n 0, 1) := by decide +kernel
theorem dX11_coasts_23 : decode cX11_coasts 23 = .ok (.getfield 59, 3) := by decide +kernel
theorem dX11_coasts_26 : decode cX11_coasts 26 = .ok (.aload_n 0, 1) := by decide +kernel
theorem dX11_coasts_27 : decode cX11_coasts 27 = .ok (.getfield 27, 3) := by decide +kernel
theorem dX11_coasts_30 : decode cX11_coasts 30 = .ok (.iload_n 1, 1) := by decide +kernel
theorem dX11_coasts_31 : decode cX11_coasts 31 = .ok (.iload_n 2, 1) := by decide +kernel
theorem dX11_coasts_32 : decode cX11_coasts 32 = .ok (.invokevirtual 242, 3) := by decide +kernel
theorem dX11_coasts_35 : decode cX11_coasts 35 = .ok (.iload_n 3, 1) := by decide +kernel
theorem dX11_coasts_36 : decode cX11_coasts 36 = .ok (.tableswitch 60 0 2 #[28, 36, 52], 28) := by decide +kernel
theorem dX11_coasts_64 : decode cX11_coasts 64 = .ok (.aload_n 0, 1) := by decide +kernel
theorem dX11_coasts_65 : decode cX11_coasts 65 = .ok (.getfield 59, 3) := by decide +kernel
theorem dX11_coasts_68 : decode cX11_coasts 68 = .ok (.getfield 246, 3) := by decide +kernel
theorem dX11_coasts_71 : decode cX11_coasts 71 = .ok (.ireturn, 1) := by decide +kernel
theorem dX11_coasts_72 : decode cX11_coasts 72 = .ok (.aload_n 0, 1) := by decide +kernel
theorem dX11_coasts_73 : decode cX11_coasts 73 = .ok (.getfield 59, 3) := by decide +kernel
theorem dX11_coasts_76 : decode cX11_coasts 76 = .ok (.getfield 249, 3) := by decide +kernel
theorem dX11_coasts_79 : decode cX11_coasts 79 = .ok (.ifCond .eq 7, 3) := by decide +kernel
theorem dX11_coasts_86 : decode cX11_coasts 86 = .ok (.iconst 0, 1) := by decide +kernel
theorem dX11_coasts_87 : decode cX11_coasts 87 = .ok (.ireturn, 1) := by decide +kernel
theorem dX11_coasts_88 : decode cX11_coasts 88 = .ok (.aload_n 0, 1) := by decide +kernel
theorem dX11_coasts_89 : decode cX11_coasts 89 = .ok (.getfield 59, 3) := by decide +kernel
theorem dX11_coasts_92 : decode cX11_coasts 92 = .ok (.getfield 252, 3) := by decide +kernel
theorem dX11_coasts_95 : decode cX11_coasts 95 = .ok (.ireturn, 1) := by decide +kernel
theorem dX11_coasts_96 : decode cX11_coasts 96 = .ok (.bipush (-2), 2) := by decide +kernel
theorem dX11_coasts_98 : decode cX11_coasts 98 = .ok (.ireturn, 1) := by decide +kernel
theorem dX11_cost_0 : decode cX11_cost 0 = .ok (.aload_n 0, 1) := by decide +kernel
theorem dX11_cost_1 : decode cX11_cost 1 = .ok (.getfield 27, 3) := by decide +kernel
theorem dX11_cost_4 : decode cX11_cost 4 = .ok (.iconst 2, 1) := by decide +kernel
theorem dX11_cost_5 : decode cX11_cost 5 = .ok (.iload_n 1, 1) := by decide +kernel
theorem dX11_cost_6 : decode cX11_cost 6 = .ok (.invokevirtual 189, 3) := by decide +kernel
theorem dX11_cost_9 : decode cX11_cost 9 = .ok (.ifCond .eq 10, 3) := by decide +kernel
theorem dX11_cost_19 : decode cX11_cost 19 = .ok (.ldc 195, 2) := by decide +kernel
theorem dX11_cost_21 : decode cX11_cost 21 = .ok (.ireturn, 1) := by decide +kernel
theorem dX11_count_0 : decode cX11_count 0 = .ok (.iload_n 1, 1) := by decide +kernel
theorem dX11_count_1 : decode cX11_count 1 = .ok (.ifCond .lt 24, 3) := by decide +kernel
theorem dX11_count_4 : decode cX11_count 4 = .ok (.iload_n 1, 1) := by decide +kernel
theorem dX11_count_5 : decode cX11_count 5 = .ok (.bipush 8, 2) := by decide +kernel
theorem dX11_count_7 : decode cX11_count 7 = .ok (.if_icmp .ge 18, 3) := by decide +kernel
theorem dX11_count_10 : decode cX11_count 10 = .ok (.aload_n 0, 1) := by decide +kernel
theorem dX11_count_11 : decode cX11_count 11 = .ok (.getfield 37, 3) := by decide +kernel
theorem dX11_count_14 : decode cX11_count 14 = .ok (.getfield 149, 3) := by decide +kernel
theorem dX11_count_17 : decode cX11_count 17 = .ok (.getfield 153, 3) := by decide +kernel
theorem dX11_count_20 : decode cX11_count 20 = .ok (.iload_n 1, 1) := by decide +kernel
theorem dX11_count_21 : decode cX11_count 21 = .ok (.iaload, 1) := by decide +kernel
theorem dX11_count_22 : decode cX11_count 22 = .ok (.goto 4, 3) := by decide +kernel
theorem dX11_count_25 : decode cX11_count 25 = .ok (.iconst (-1), 1) := by decide +kernel
theorem dX11_count_26 : decode cX11_count 26 = .ok (.ireturn, 1) := by decide +kernel
theorem dX11_due_0 : decode cX11_due 0 = .ok (.aload_n 0, 1) := by decide +kernel
theorem dX11_due_1 : decode cX11_due 1 = .ok (.getfield 59, 3) := by decide +kernel
theorem dX11_due_4 : decode cX11_due 4 = .ok (.aload_n 0, 1) := by decide +kernel
theorem dX11_due_5 : decode cX11_due 5 = .ok (.getfield 27, 3) := by decide +kernel
theorem dX11_due_8 : decode cX11_due 8 = .ok (.aload_n 0, 1) := by decide +kernel
theorem dX11_due_9 : decode cX11_due 9 = .ok (.getfield 37, 3) := by decide +kernel
theorem dX11_due_12 : decode cX11_due 12 = .ok (.iload_n 1, 1) := by decide +kernel
theorem dX11_due_13 : decode cX11_due 13 = .ok (.invokevirtual 185, 3) := by decide +kernel
theorem dX11_due_16 : decode cX11_due 16 = .ok (.ireturn, 1) := by decide +kernel
theorem dX11_end_0 : decode cX11_end 0 = .ok (.iload_n 1, 1) := by decide +kernel
theorem dX11_end_1 : decode cX11_end 1 = .ok (.ifCond .lt 11, 3) := by decide +kernel
theorem dX11_end_4 : decode cX11_end 4 = .ok (.iload_n 1, 1) := by decide +kernel
theorem dX11_end_5 : decode cX11_end 5 = .ok (.aload_n 0, 1) := by decide +kernel
theorem dX11_end_6 : decode cX11_end 6 = .ok (.getfield 13, 3) := by decide +kernel
theorem dX11_end_9 : decode cX11_end 9 = .ok (.if_icmp .le 5, 3) := by decide +kernel
theorem dX11_end_12 : decode cX11_end 12 = .ok (.iconst (-1), 1) := by decide +kernel
theorem dX11_end_13 : decode cX11_end 13 = .ok (.ireturn, 1) := by decide +kernel
theorem dX11_end_14 : decode cX11_end 14 = .ok (.aload_n 0, 1) := by decide +kernel
theorem dX11_end_15 : decode cX11_end 15 = .ok (.iload_n 1, 1) := by decide +kernel
theorem dX11_end_16 : decode cX11_end 16 = .ok (.putfield 13, 3) := by decide +kernel
theorem dX11_end_19 : decode cX11_end 19 = .ok (.iload_n 1, 1) := by decide +kernel
theorem dX11_end_20 : decode cX11_end 20 = .ok (.ireturn, 1) := by decide +kernel
theorem dX11_event_0 : decode cX11_event 0 = .ok (.aload_n 0, 1) := by decide +kernel
theorem dX11_event_1 : decode cX11_event 1 = .ok (.getfield 37, 3) := by decide +kernel
theorem dX11_event_4 : decode cX11_event 4 = .ok (.getfield 149, 3) := by decide +kernel
theorem dX11_event_7 : decode cX11_event 7 = .ok (.iload_n 1, 1) := by decide +kernel
theorem dX11_event_8 : decode cX11_event 8 = .ok (.iload_n 2, 1) := by decide +kernel
theorem dX11_event_9 : decode cX11_event 9 = .ok (.invokevirtual 236, 3) := by decide +kernel
theorem dX11_event_12 : decode cX11_event 12 = .ok (.ireturn, 1) := by decide +kernel
theorem dX11_fault_0 : decode cX11_fault 0 = .ok (.iload_n 1, 1) := by decide +kernel
theorem dX11_fault_1 : decode cX11_fault 1 = .ok (.ifCond .ne 11, 3) := by decide +kernel
theorem dX11_fault_4 : decode cX11_fault 4 = .ok (.aload_n 0, 1) := by decide +kernel
theorem dX11_fault_5 : decode cX11_fault 5 = .ok (.getfield 20, 3) := by decide +kernel
theorem dX11_fault_8 : decode cX11_fault 8 = .ok (.getfield 89, 3) := by decide +kernel
theorem dX11_fault_11 : decode cX11_fault 11 = .ok (.ireturn, 1) := by decide +kernel
theorem dX11_fault_12 : decode cX11_fault 12 = .ok (.iload_n 1, 1) := by decide +kernel
theorem dX11_fault_13 : decode cX11_fault 13 = .ok (.iconst 1, 1) := by decide +kernel
theorem dX11_fault_14 : decode cX11_fault 14 = .ok (.if_icmp .ne 13, 3) := by decide +kernel
theorem dX11_fault_17 : decode cX11_fault 17 = .ok (.aload_n 0, 1) := by decide +kernel
theorem dX11_fault_18 : decode cX11_fault 18 = .ok (.getfield 20, 3) := by decide +kernel
theorem dX11_fault_21 : decode cX11_fault 21 = .ok (.getfield 95, 3) := by decide +kernel
theorem dX11_fault_24 : decode cX11_fault 24 = .ok (.goto 4, 3) := by decide +kernel
theorem dX11_fault_27 : decode cX11_fault 27 = .ok (.iconst (-1), 1) := by decide +kernel
theorem dX11_fault_28 : decode cX11_fault 28 = .ok (.ireturn, 1) := by decide +kernel
theorem dX11_feed_0 : decode cX11_feed 0 = .ok (.aload_n 0, 1) := by decide +kernel
theorem dX11_feed_1 : decode cX11_feed 1 = .ok (.getfield 13, 3) := by decide +kernel
theorem dX11_feed_4 : decode cX11_feed 4 = .ok (.bipush 20, 2) := by decide +kernel
theorem dX11_feed_6 : decode cX11_feed 6 = .ok (.iadd, 1) := by decide +kernel
theorem dX11_feed_7 : decode cX11_feed 7 = .ok (.sipush 1600, 3) := by decide +kernel
theorem dX11_feed_10 : decode cX11_feed 10 = .ok (.if_icmp .le 5, 3) := by decide +kernel
theorem dX11_feed_15 : decode cX11_feed 15 = .ok (.aload_n 0, 1) := by decide +kernel
theorem dX11_feed_16 : decode cX11_feed 16 = .ok (.iload_n 1, 1) := by decide +kernel
theorem dX11_feed_17 : decode cX11_feed 17 = .ok (.invokevirtual 74, 3) := by decide +kernel
theorem dX11_feed_20 : decode cX11_feed 20 = .ok (.aload_n 0, 1) := by decide +kernel
theorem dX11_feed_21 : decode cX11_feed 21 = .ok (.iload_n 2, 1) := by decide +kernel
theorem dX11_feed_22 : decode cX11_feed 22 = .ok (.invokevirtual 74, 3) := by decide +kernel
theorem dX11_feed_25 : decode cX11_feed 25 = .ok (.aload_n 0, 1) := by decide +kernel
theorem dX11_feed_26 : decode cX11_feed 26 = .ok (.iload_n 3, 1) := by decide +kernel
theorem dX11_feed_27 : decode cX11_feed 27 = .ok (.invokevirtual 74, 3) := by decide +kernel
theorem dX11_feed_30 : decode cX11_feed 30 = .ok (.aload_n 0, 1) := by decide +kernel
theorem dX11_feed_31 : decode cX11_feed 31 = .ok (.iload 4, 2) := by decide +kernel
theorem dX11_feed_33 : decode cX11_feed 33 = .ok (.invokevirtual 74, 3) := by decide +kernel
theorem dX11_feed_36 : decode cX11_feed 36 = .ok (.aload_n 0, 1) := by decide +kernel
theorem dX11_feed_37 : decode cX11_feed 37 = .ok (.iload 5, 2) := by decide +kernel
theorem dX11_feed_39 : decode cX11_feed 39 = .ok (.invokevirtual 74, 3) := by decide +kernel
theorem dX11_feed_42 : decode cX11_feed 42 = .ok (.aload_n 0, 1) := by decide +kernel
theorem dX11_feed_43 : decode cX11_feed 43 = .ok (.getfield 13, 3) := by decide +kernel
theorem dX11_feed_46 : decode cX11_feed 46 = .ok (.ireturn, 1) := by decide +kernel
theorem dX11_free_0 : decode cX11_free 0 = .ok (.aload_n 0, 1) := by decide +kernel
theorem dX11_free_1 : decode cX11_free 1 = .ok (.getfield 27, 3) := by decide +kernel
theorem dX11_free_4 : decode cX11_free 4 = .ok (.iload_n 1, 1) := by decide +kernel
theorem dX11_free_5 : decode cX11_free 5 = .ok (.invokevirtual 109, 3) := by decide +kernel
theorem dX11_free_8 : decode cX11_free 8 = .ok (.ifCond .eq 18, 3) := by decide +kernel
theorem dX11_free_26 : decode cX11_free 26 = .ok (.iconst 0, 1) := by decide +kernel
theorem dX11_free_27 : decode cX11_free 27 = .ok (.ireturn, 1) := by decide +kernel
theorem dX11_halt_0 : decode cX11_halt 0 = .ok (.iload_n 1, 1) := by decide +kernel
theorem dX11_halt_1 : decode cX11_halt 1 = .ok (.iconst 1, 1) := by decide +kernel
theorem dX11_halt_2 : decode cX11_halt 2 = .ok (.if_icmp .lt 9, 3) := by decide +kernel
theorem dX11_halt_5 : decode cX11_halt 5 = .ok (.iload_n 1, 1) := by decide +kernel
theorem dX11_halt_6 : decode cX11_halt 6 = .ok (.bipush 99, 2) := by decide +kernel
theorem dX11_halt_8 : decode cX11_halt 8 = .ok (.if_icmp .le 5, 3) := by decide +kernel
theorem dX11_halt_11 : decode cX11_halt 11 = .ok (.iconst (-1), 1) := by decide +kernel
theorem dX11_halt_12 : decode cX11_halt 12 = .ok (.ireturn, 1) := by decide +kernel
theorem dX11_halt_13 : decode cX11_halt 13 = .ok (.iconst 0, 1) := by decide +kernel
theorem dX11_halt_14 : decode cX11_halt 14 = .ok (.istore_n 2, 1) := by decide +kernel
theorem dX11_halt_15 : decode cX11_halt 15 = .ok (.iconst 0, 1) := by decide +kernel
theorem dX11_halt_16 : decode cX11_halt 16 = .ok (.istore_n 3, 1) := by decide +kernel
theorem dX11_halt_17 : decode cX11_halt 17 = .ok (.iload_n 3, 1) := by decide +kernel
theorem dX11_halt_18 : decode cX11_halt 18 = .ok (.aload_n 0, 1) := by decide +kernel
theorem dX11_halt_19 : decode cX11_halt 19 = .ok (.getfield 27, 3) := by decide +kernel
theorem dX11_halt_22 : decode cX11_halt 22 = .ok (.getfield 207, 3) := by decide +kernel
theorem dX11_halt_25 : decode cX11_halt 25 = .ok (.if_icmp .ge 46, 3) := by decide +kernel
theorem dX11_halt_71 : decode cX11_halt 71 = .ok (.iload_n 2, 1) := by decide +kernel
theorem dX11_halt_72 : decode cX11_halt 72 = .ok (.ireturn, 1) := by decide +kernel
theorem dX11_head_0 : decode cX11_head 0 = .ok (.iload_n 1, 1) := by decide +kernel
theorem dX11_head_1 : decode cX11_head 1 = .ok (.invokestatic 192, 3) := by decide +kernel
theorem dX11_head_4 : decode cX11_head 4 = .ok (.ifCond .eq 24, 3) := by decide +kernel
theorem dX11_head_7 : decode cX11_head 7 = .ok (.aload_n 0, 1) := by decide +kernel
theorem dX11_head_8 : decode cX11_head 8 = .ok (.getfield 59, 3) := by decide +kernel
theorem dX11_head_11 : decode cX11_head 11 = .ok (.aload_n 0, 1) := by decide +kernel
theorem dX11_head_12 : decode cX11_head 12 = .ok (.getfield 27, 3) := by decide +kernel
theorem dX11_head_15 : decode cX11_head 15 = .ok (.aload_n 0, 1) := by decide +kernel
theorem dX11_head_16 : decode cX11_head 16 = .ok (.getfield 37, 3) := by decide +kernel
theorem dX11_head_19 : decode cX11_head 19 = .ok (.iconst (-1), 1) := by decide +kernel
theorem dX11_head_20 : decode cX11_head 20 = .ok (.iconst 0, 1) := by decide +kernel
theorem dX11_head_21 : decode cX11_head 21 = .ok (.iload_n 1, 1) := by decide +kernel
theorem dX11_head_22 : decode cX11_head 22 = .ok (.invokevirtual 262, 3) := by decide +kernel
theorem dX11_head_25 : decode cX11_head 25 = .ok (.goto 4, 3) := by decide +kernel
theorem dX11_head_28 : decode cX11_head 28 = .ok (.iconst (-1), 1) := by decide +kernel
theorem dX11_head_29 : decode cX11_head 29 = .ok (.ireturn, 1) := by decide +kernel
theorem dX11_image_0 : decode cX11_image 0 = .ok (.iload_n 1, 1) := by decide +kernel
theorem dX11_image_1 : decode cX11_image 1 = .ok (.ifCond .lt 8, 3) := by decide +kernel
theorem dX11_image_4 : decode cX11_image 4 = .ok (.iload_n 1, 1) := by decide +kernel
theorem dX11_image_5 : decode cX11_image 5 = .ok (.iconst 3, 1) := by decide +kernel
theorem dX11_image_6 : decode cX11_image 6 = .ok (.if_icmp .lt 5, 3) := by decide +kernel
theorem dX11_image_9 : decode cX11_image 9 = .ok (.iconst (-1), 1) := by decide +kernel
theorem dX11_image_10 : decode cX11_image 10 = .ok (.ireturn, 1) := by decide +kernel
theorem dX11_image_11 : decode cX11_image 11 = .ok (.aload_n 0, 1) := by decide +kernel
theorem dX11_image_12 : decode cX11_image 12 = .ok (.getfield 41, 3) := by decide +kernel
theorem dX11_image_15 : decode cX11_image 15 = .ok (.iload_n 1, 1) := by decide +kernel
theorem dX11_image_16 : decode cX11_image 16 = .ok (.aaload, 1) := by decide +kernel
theorem dX11_image_17 : decode cX11_image 17 = .ok (.aload_n 0, 1) := by decide +kernel
theorem dX11_image_18 : decode cX11_image 18 = .ok (.getfield 37, 3) := by decide +kernel
theorem dX11_image_21 : decode cX11_image 21 = .ok (.invokevirtual 319, 3) := by decide +kernel
theorem dX11_image_24 : decode cX11_image 24 = .ok (.aload_n 0, 1) := by decide +kernel
theorem dX11_image_25 : decode cX11_image 25 = .ok (.getfield 45, 3) := by decide +kernel
theorem dX11_image_28 : decode cX11_image 28 = .ok (.iload_n 1, 1) := by decide +kernel
theorem dX11_image_29 : decode cX11_image 29 = .ok (.iconst 1, 1) := by decide +kernel
theorem dX11_image_30 : decode cX11_image 30 = .ok (.bastore, 1) := by decide +kernel
theorem dX11_image_31 : decode cX11_image 31 = .ok (.aload_n 0, 1) := by decide +kernel
theorem dX11_image_32 : decode cX11_image 32 = .ok (.getfield 37, 3) := by decide +kernel
theorem dX11_image_35 : decode cX11_image 35 = .ok (.getfield 98, 3) := by decide +kernel
theorem dX11_image_38 : decode cX11_image 38 = .ok (.ireturn, 1) := by decide +kernel
theorem dX11_isAhead_0 : decode cX11_isAhead 0 = .ok (.iload_n 0, 1) := by decide +kernel
theorem dX11_isAhead_1 : decode cX11_isAhead 1 = .ok (.iconst 1, 1) := by decide +kernel
theorem dX11_isAhead_2 : decode cX11_isAhead 2 = .ok (.if_icmp .lt 14, 3) := by decide +kernel
theorem dX11_isAhead_5 : decode cX11_isAhead 5 = .ok (.iload_n 0, 1) := by decide +kernel
theorem dX11_isAhead_6 : decode cX11_isAhead 6 = .ok (.sipush 300, 3) := by decide +kernel
theorem dX11_isAhead_9 : decode cX11_isAhead 9 = .ok (.if_icmp .gt 7, 3) := by decide +kernel
theorem dX11_isAhead_12 : decode cX11_isAhead 12 = .ok (.iconst 1, 1) := by decide +kernel
theorem dX11_isAhead_13 : decode cX11_isAhead 13 = .ok (.goto 4, 3) := by decide +kernel
theorem dX11_isAhead_16 : decode cX11_isAhead 16 = .ok (.iconst 0, 1) := by decide +kernel
theorem dX11_isAhead_17 : decode cX11_isAhead 17 = .ok (.ireturn, 1) := by decide +kernel
theorem dX11_judge_0 : decode cX11_judge 0 = .ok (.iload_n 1, 1) := by decide +kernel
theorem dX11_judge_1 : decode cX11_judge 1 = .ok (.ifCond .lt 8, 3) := by decide +kernel
theorem dX11_judge_4 : decode cX11_judge 4 = .ok (.iload_n 1, 1) := by decide +kernel
theorem dX11_judge_5 : decode cX11_judge 5 = .ok (.iconst 1, 1) := by decide +kernel
theorem dX11_judge_6 : decode cX11_judge 6 = .ok (.if_icmp .le 5, 3) := by decide +kernel
theorem dX11_judge_9 : decode cX11_judge 9 = .ok (.iconst (-1), 1) := by decide +kernel
theorem dX11_judge_10 : decode cX11_judge 10 = .ok (.ireturn, 1) := by decide +kernel
theorem dX11_judge_11 : decode cX11_judge 11 = .ok (.aload_n 0, 1) := by decide +kernel
theorem dX11_judge_12 : decode cX11_judge 12 = .ok (.getfield 66, 3) := by decide +kernel
theorem dX11_judge_15 : decode cX11_judge 15 = .ok (.getfield 300, 3) := by decide +kernel
theorem dX11_judge_18 : decode cX11_judge 18 = .ok (.ifCond .ne 29, 3) := by decide +kernel
theorem dX11_judge_21 : decode cX11_judge 21 = .ok (.aload_n 0, 1) := by decide +kernel
theorem dX11_judge_22 : decode cX11_judge 22 = .ok (.getfield 59, 3) := by decide +kernel
theorem dX11_judge_25 : decode cX11_judge 25 = .ok (.aload_n 0, 1) := by decide +kernel
theorem dX11_judge_26 : decode cX11_judge 26 = .ok (.getfield 27, 3) := by decide +kernel
theorem dX11_judge_29 : decode cX11_judge 29 = .ok (.aload_n 0, 1) := by decide +kernel
theorem dX11_judge_30 : decode cX11_judge 30 = .ok (.getfield 66, 3) := by decide +kernel
theorem dX11_judge_33 : decode cX11_judge 33 = .ok (.getfield 303, 3) := by decide +kernel
theorem dX11_judge_36 : decode cX11_judge 36 = .ok (.invokevirtual 306, 3) := by decide +kernel
theorem dX11_judge_39 : decode cX11_judge 39 = .ok (.aload_n 0, 1) := by decide +kernel
theorem dX11_judge_40 : decode cX11_judge 40 = .ok (.getfield 66, 3) := by decide +kernel
theorem dX11_judge_43 : decode cX11_judge 43 = .ok (.iconst 1, 1) := by decide +kernel
theorem dX11_judge_44 : decode cX11_judge 44 = .ok (.putfield 300, 3) := by decide +kernel
theorem dX11_judge_47 : decode cX11_judge 47 = .ok (.iload_n 1, 1) := by decide +kernel
theorem dX11_judge_48 : decode cX11_judge 48 = .ok (.ifCond .ne 14, 3) := by decide +kernel
theorem dX11_judge_51 : decode cX11_judge 51 = .ok (.aload_n 0, 1) := by decide +kernel
theorem dX11_judge_52 : decode cX11_judge 52 = .ok (.getfield 66, 3) := by decide +kernel
theorem dX11_judge_55 : decode cX11_judge 55 = .ok (.iload_n 2, 1) := by decide +kernel
theorem dX11_judge_56 : decode cX11_judge 56 = .ok (.invokevirtual 310, 3) := by decide +kernel
theorem dX11_judge_59 : decode cX11_judge 59 = .ok (.goto 11, 3) := by decide +kernel
theorem dX11_judge_62 : decode cX11_judge 62 = .ok (.aload_n 0, 1) := by decide +kernel
theorem dX11_judge_63 : decode cX11_judge 63 = .ok (.getfield 66, 3) := by decide +kernel
theorem dX11_judge_66 : decode cX11_judge 66 = .ok (.iload_n 2, 1) := by decide +kernel
theorem dX11_judge_67 : decode cX11_judge 67 = .ok (.invokevirtual 313, 3) := by decide +kernel
theorem dX11_judge_70 : decode cX11_judge 70 = .ok (.ireturn, 1) := by decide +kernel
theorem dX11_later_0 : decode cX11_later 0 = .ok (.iload_n 1, 1) := by decide +kernel
theorem dX11_later_1 : decode cX11_later 1 = .ok (.ifCond .lt 24, 3) := by decide +kernel
theorem dX11_later_4 : decode cX11_later 4 = .ok (.iload_n 1, 1) := by decide +kernel
theorem dX11_later_5 : decode cX11_later 5 = .ok (.sipush 1000, 3) := by decide +kernel
theorem dX11_later_8 : decode cX11_later 8 = .ok (.if_icmp .gt 17, 3) := by decide +kernel
theorem dX11_later_11 : decode cX11_later 11 = .ok (.aload_n 0, 1) := by decide +kernel
theorem dX11_later_12 : decode cX11_later 12 = .ok (.getfield 66, 3) := by decide +kernel
theorem dX11_later_15 : decode cX11_later 15 = .ok (.getfield 297, 3) := by decide +kernel
theorem dX11_later_18 : decode cX11_later 18 = .ok (.iload_n 1, 1) := by decide +kernel
theorem dX11_later_19 : decode cX11_later 19 = .ok (.iadd, 1) := by decide +kernel
theorem dX11_later_20 : decode cX11_later 20 = .ok (.ldc 101, 2) := by decide +kernel
theorem dX11_later_22 : decode cX11_later 22 = .ok (.if_icmp .le 5, 3) := by decide +kernel
theorem dX11_later_25 : decode cX11_later 25 = .ok (.iconst (-1), 1) := by decide +kernel
theorem dX11_later_26 : decode cX11_later 26 = .ok (.ireturn, 1) := by decide +kernel
theorem dX11_later_27 : decode cX11_later 27 = .ok (.aload_n 0, 1) := by decide +kernel
theorem dX11_later_28 : decode cX11_later 28 = .ok (.getfield 66, 3) := by decide +kernel
theorem dX11_later_31 : decode cX11_later 31 = .ok (.dup, 1) := by decide +kernel
theorem dX11_later_32 : decode cX11_later 32 = .ok (.getfield 297, 3) := by decide +kernel
theorem dX11_later_35 : decode cX11_later 35 = .ok (.iload_n 1, 1) := by decide +kernel
theorem dX11_later_36 : decode cX11_later 36 = .ok (.iadd, 1) := by decide +kernel
theorem dX11_later_37 : decode cX11_later 37 = .ok (.putfield 297, 3) := by decide +kernel
theorem dX11_later_40 : decode cX11_later 40 = .ok (.aload_n 0, 1) := by decide +kernel
theorem dX11_later_41 : decode cX11_later 41 = .ok (.getfield 66, 3) := by decide +kernel
theorem dX11_later_44 : decode cX11_later 44 = .ok (.getfield 297, 3) := by decide +kernel
theorem dX11_later_47 : decode cX11_later 47 = .ok (.ireturn, 1) := by decide +kernel
theorem dX11_log_0 : decode cX11_log 0 = .ok (.aload_n 0, 1) := by decide +kernel
theorem dX11_log_1 : decode cX11_log 1 = .ok (.getfield 27, 3) := by decide +kernel
theorem dX11_log_4 : decode cX11_log 4 = .ok (.iload_n 1, 1) := by decide +kernel
theorem dX11_log_5 : decode cX11_log 5 = .ok (.invokevirtual 109, 3) := by decide +kernel
theorem dX11_log_8 : decode cX11_log 8 = .ok (.ifCond .eq 22, 3) := by decide +kernel
theorem dX11_log_30 : decode cX11_log 30 = .ok (.iconst (-1), 1) := by decide +kernel
theorem dX11_log_31 : decode cX11_log 31 = .ok (.ireturn, 1) := by decide +kernel
theorem dX11_logged_0 : decode cX11_logged 0 = .ok (.aload_n 0, 1) := by decide +kernel
theorem dX11_logged_1 : decode cX11_logged 1 = .ok (.getfield 27, 3) := by decide +kernel
theorem dX11_logged_4 : decode cX11_logged 4 = .ok (.iload_n 1, 1) := by decide +kernel
theorem dX11_logged_5 : decode cX11_logged 5 = .ok (.invokevirtual 109, 3) := by decide +kernel
theorem dX11_logged_8 : decode cX11_logged 8 = .ok (.ifCond .eq 15, 3) := by decide +kernel
theorem dX11_logged_23 : decode cX11_logged 23 = .ok (.sipush (-1000), 3) := by decide +kernel
theorem dX11_logged_26 : decode cX11_logged 26 = .ok (.ireturn, 1) := by decide +kernel
theorem dX11_need_0 : decode cX11_need 0 = .ok (.iload_n 1, 1) := by decide +kernel
theorem dX11_need_1 : decode cX11_need 1 = .ok (.invokestatic 239, 3) := by decide +kernel
theorem dX11_need_4 : decode cX11_need 4 = .ok (.ifCond .eq 18, 3) := by decide +kernel
theorem dX11_need_7 : decode cX11_need 7 = .ok (.aload_n 0, 1) := by decide +kernel
theorem dX11_need_8 : decode cX11_need 8 = .ok (.getfield 59, 3) := by decide +kernel
theorem dX11_need_11 : decode cX11_need 11 = .ok (.aload_n 0, 1) := by decide +kernel
theorem dX11_need_12 : decode cX11_need 12 = .ok (.getfield 27, 3) := by decide +kernel
theorem dX11_need_15 : decode cX11_need 15 = .ok (.iload_n 1, 1) := by decide +kernel
theorem dX11_need_16 : decode cX11_need 16 = .ok (.invokevirtual 255, 3) := by decide +kernel
theorem dX11_need_19 : decode cX11_need 19 = .ok (.goto 4, 3) := by decide +kernel
theorem dX11_need_22 : decode cX11_need 22 = .ok (.iconst (-1), 1) := by decide +kernel
theorem dX11_need_23 : decode cX11_need 23 = .ok (.ireturn, 1) := by decide +kernel
theorem dX11_order_0 : decode cX11_order 0 = .ok (.iconst 0, 1) := by decide +kernel
theorem dX11_order_1 : decode cX11_order 1 = .ok (.istore_n 2, 1) := by decide +kernel
theorem dX11_order_2 : decode cX11_order 2 = .ok (.iload_n 2, 1) := by decide +kernel
theorem dX11_order_3 : decode cX11_order 3 = .ok (.aload_n 0, 1) := by decide +kernel
theorem dX11_order_4 : decode cX11_order 4 = .ok (.getfield 27, 3) := by decide +kernel
theorem dX11_order_7 : decode cX11_order 7 = .ok (.getfield 207, 3) := by decide +kernel
theorem dX11_order_10 : decode cX11_order 10 = .ok (.if_icmp .ge 36, 3) := by decide +kernel
theorem dX11_order_46 : decode cX11_order 46 = .ok (.iconst (-1), 1) := by decide +kernel
theorem dX11_order_47 : decode cX11_order 47 = .ok (.ireturn, 1) := by decide +kernel
theorem dX11_power_0 : decode cX11_power 0 = .ok (.iload_n 1, 1) := by decide +kernel
theorem dX11_power_1 : decode cX11_power 1 = .ok (.invokestatic 192, 3) := by decide +kernel
theorem dX11_power_4 : decode cX11_power 4 = .ok (.ifCond .eq 12, 3) := by decide +kernel
theorem dX11_power_7 : decode cX11_power 7 = .ok (.iload_n 2, 1) := by decide +kernel
theorem dX11_power_8 : decode cX11_power 8 = .ok (.ifCond .lt 8, 3) := by decide +kernel
theorem dX11_power_11 : decode cX11_power 11 = .ok (.iload_n 2, 1) := by decide +kernel
theorem dX11_power_12 : decode cX11_power 12 = .ok (.iconst 1, 1) := by decide +kernel
theorem dX11_power_13 : decode cX11_power 13 = .ok (.if_icmp .le 5, 3) := by decide +kernel
theorem dX11_power_16 : decode cX11_power 16 = .ok (.iconst (-1), 1) := by decide +kernel
theorem dX11_power_17 : decode cX11_power 17 = .ok (.ireturn, 1) := by decide +kernel
theorem dX11_power_18 : decode cX11_power 18 = .ok (.aload_n 0, 1) := by decide +kernel
theorem dX11_power_19 : decode cX11_power 19 = .ok (.getfield 59, 3) := by decide +kernel
theorem dX11_power_22 : decode cX11_power 22 = .ok (.aload_n 0, 1) := by decide +kernel
theorem dX11_power_23 : decode cX11_power 23 = .ok (.getfield 27, 3) := by decide +kernel
theorem dX11_power_26 : decode cX11_power 26 = .ok (.aload_n 0, 1) := by decide +kernel
theorem dX11_power_27 : decode cX11_power 27 = .ok (.getfield 37, 3) := by decide +kernel
theorem dX11_power_30 : decode cX11_power 30 = .ok (.iload_n 1, 1) := by decide +kernel
theorem dX11_power_31 : decode cX11_power 31 = .ok (.invokevirtual 196, 3) := by decide +kernel
theorem dX11_power_34 : decode cX11_power 34 = .ok (.iload_n 2, 1) := by decide +kernel
theorem dX11_power_35 : decode cX11_power 35 = .ok (.ifCond .ne 13, 3) := by decide +kernel
theorem dX11_power_38 : decode cX11_power 38 = .ok (.aload_n 0, 1) := by decide +kernel
theorem dX11_power_39 : decode cX11_power 39 = .ok (.getfield 59, 3) := by decide +kernel
theorem dX11_power_42 : decode cX11_power 42 = .ok (.getfield 200, 3) := by decide +kernel
theorem dX11_power_45 : decode cX11_power 45 = .ok (.goto 10, 3) := by decide +kernel
theorem dX11_power_48 : decode cX11_power 48 = .ok (.aload_n 0, 1) := by decide +kernel
theorem dX11_power_49 : decode cX11_power 49 = .ok (.getfield 59, 3) := by decide +kernel
theorem dX11_power_52 : decode cX11_power 52 = .ok (.getfield 266, 3) := by decide +kernel
theorem dX11_power_55 : decode cX11_power 55 = .ok (.ireturn, 1) := by decide +kernel
theorem dX11_putBytes_0 : decode cX11_putBytes 0 = .ok (.bipush 24, 2) := by decide +kernel
theorem dX11_putBytes_2 : decode cX11_putBytes 2 = .ok (.istore_n 2, 1) := by decide +kernel
theorem dX11_putBytes_3 : decode cX11_putBytes 3 = .ok (.iload_n 2, 1) := by decide +kernel
theorem dX11_putBytes_4 : decode cX11_putBytes 4 = .ok (.ifCond .lt 42, 3) := by decide +kernel
theorem dX11_putBytes_7 : decode cX11_putBytes 7 = .ok (.aload_n 0, 1) := by decide +kernel
theorem dX11_putBytes_8 : decode cX11_putBytes 8 = .ok (.getfield 13, 3) := by decide +kernel
theorem dX11_putBytes_11 : decode cX11_putBytes 11 = .ok (.sipush 1600, 3) := by decide +kernel
theorem dX11_putBytes_14 : decode cX11_putBytes 14 = .ok (.if_icmp .ge 32, 3) := by decide +kernel
theorem dX11_putBytes_17 : decode cX11_putBytes 17 = .ok (.aload_n 0, 1) := by decide +kernel
theorem dX11_putBytes_18 : decode cX11_putBytes 18 = .ok (.getfield 9, 3) := by decide +kernel
theorem dX11_putBytes_21 : decode cX11_putBytes 21 = .ok (.aload_n 0, 1) := by decide +kernel
theorem dX11_putBytes_22 : decode cX11_putBytes 22 = .ok (.getfield 13, 3) := by decide +kernel
theorem dX11_putBytes_25 : decode cX11_putBytes 25 = .ok (.iload_n 1, 1) := by decide +kernel
theorem dX11_putBytes_26 : decode cX11_putBytes 26 = .ok (.iload_n 2, 1) := by decide +kernel
theorem dX11_putBytes_27 : decode cX11_putBytes 27 = .ok (.iushr, 1) := by decide +kernel
theorem dX11_putBytes_28 : decode cX11_putBytes 28 = .ok (.i2b, 1) := by decide +kernel
theorem dX11_putBytes_29 : decode cX11_putBytes 29 = .ok (.bastore, 1) := by decide +kernel
theorem dX11_putBytes_30 : decode cX11_putBytes 30 = .ok (.aload_n 0, 1) := by decide +kernel
theorem dX11_putBytes_31 : decode cX11_putBytes 31 = .ok (.dup, 1) := by decide +kernel
theorem dX11_putBytes_32 : decode cX11_putBytes 32 = .ok (.getfield 13, 3) := by decide +kernel
theorem dX11_putBytes_35 : decode cX11_putBytes 35 = .ok (.iconst 1, 1) := by decide +kernel
theorem dX11_putBytes_36 : decode cX11_putBytes 36 = .ok (.iadd, 1) := by decide +kernel
theorem dX11_putBytes_37 : decode cX11_putBytes 37 = .ok (.putfield 13, 3) := by decide +kernel
theorem dX11_putBytes_40 : decode cX11_putBytes 40 = .ok (.iinc 2 (-8), 3) := by decide +kernel
theorem dX11_putBytes_43 : decode cX11_putBytes 43 = .ok (.goto (-40), 3) := by decide +kernel
theorem dX11_putBytes_46 : decode cX11_putBytes 46 = .ok (.return_, 1) := by decide +kernel
theorem dX11_rolls_0 : decode cX11_rolls 0 = .ok (.iconst 0, 1) := by decide +kernel
theorem dX11_rolls_1 : decode cX11_rolls 1 = .ok (.istore_n 1, 1) := by decide +kernel
theorem dX11_rolls_2 : decode cX11_rolls 2 = .ok (.iconst 0, 1) := by decide +kernel
theorem dX11_rolls_3 : decode cX11_rolls 3 = .ok (.istore_n 2, 1) := by decide +kernel
theorem dX11_rolls_4 : decode cX11_rolls 4 = .ok (.iload_n 2, 1) := by decide +kernel
theorem dX11_rolls_5 : decode cX11_rolls 5 = .ok (.aload_n 0, 1) := by decide +kernel
theorem dX11_rolls_6 : decode cX11_rolls 6 = .ok (.getfield 27, 3) := by decide +kernel
theorem dX11_rolls_9 : decode cX11_rolls 9 = .ok (.getfield 207, 3) := by decide +kernel
theorem dX11_rolls_12 : decode cX11_rolls 12 = .ok (.if_icmp .ge 48, 3) := by decide +kernel
theorem dX11_rolls_60 : decode cX11_rolls 60 = .ok (.iload_n 1, 1) := by decide +kernel
theorem dX11_rolls_61 : decode cX11_rolls 61 = .ok (.ireturn, 1) := by decide +kernel
theorem dX11_rope_0 : decode cX11_rope 0 = .ok (.aload_n 0, 1) := by decide +kernel
theorem dX11_rope_1 : decode cX11_rope 1 = .ok (.getfield 27, 3) := by decide +kernel
theorem dX11_rope_4 : decode cX11_rope 4 = .ok (.iload_n 1, 1) := by decide +kernel
theorem dX11_rope_5 : decode cX11_rope 5 = .ok (.invokevirtual 135, 3) := by decide +kernel
theorem dX11_rope_8 : decode cX11_rope 8 = .ok (.ifCond .ne 5, 3) := by decide +kernel
theorem dX11_rope_11 : decode cX11_rope 11 = .ok (.iconst (-1), 1) := by decide +kernel
theorem dX11_rope_12 : decode cX11_rope 12 = .ok (.ireturn, 1) := by decide +kernel
theorem dX11_run_0 : decode cX11_run 0 = .ok (.iload_n 1, 1) := by decide +kernel
theorem dX11_run_1 : decode cX11_run 1 = .ok (.ifCond .lt 24, 3) := by decide +kernel
theorem dX11_run_4 : decode cX11_run 4 = .ok (.iload_n 1, 1) := by decide +kernel
theorem dX11_run_5 : decode cX11_run 5 = .ok (.sipush 500, 3) := by decide +kernel
theorem dX11_run_8 : decode cX11_run 8 = .ok (.if_icmp .gt 17, 3) := by decide +kernel
theorem dX11_run_11 : decode cX11_run 11 = .ok (.aload_n 0, 1) := by decide +kernel
theorem dX11_run_12 : decode cX11_run 12 = .ok (.getfield 37, 3) := by decide +kernel
theorem dX11_run_15 : decode cX11_run 15 = .ok (.getfield 98, 3) := by decide +kernel
theorem dX11_run_18 : decode cX11_run 18 = .ok (.iload_n 1, 1) := by decide +kernel
theorem dX11_run_19 : decode cX11_run 19 = .ok (.iadd, 1) := by decide +kernel
theorem dX11_run_20 : decode cX11_run 20 = .ok (.ldc 101, 2) := by decide +kernel
theorem dX11_run_22 : decode cX11_run 22 = .ok (.if_icmp .le 5, 3) := by decide +kernel
theorem dX11_run_25 : decode cX11_run 25 = .ok (.iconst (-1), 1) := by decide +kernel
theorem dX11_run_26 : decode cX11_run 26 = .ok (.ireturn, 1) := by decide +kernel
theorem dX11_run_27 : decode cX11_run 27 = .ok (.iconst 0, 1) := by decide +kernel
theorem dX11_run_28 : decode cX11_run 28 = .ok (.istore_n 2, 1) := by decide +kernel
theorem dX11_run_29 : decode cX11_run 29 = .ok (.iload_n 2, 1) := by decide +kernel
theorem dX11_run_30 : decode cX11_run 30 = .ok (.iload_n 1, 1) := by decide +kernel
theorem dX11_run_31 : decode cX11_run 31 = .ok (.if_icmp .ge 24, 3) := by decide +kernel
theorem dX11_run_34 : decode cX11_run 34 = .ok (.aload_n 0, 1) := by decide +kernel
theorem dX11_run_35 : decode cX11_run 35 = .ok (.getfield 52, 3) := by decide +kernel
theorem dX11_run_38 : decode cX11_run 38 = .ok (.aload_n 0, 1) := by decide +kernel
theorem dX11_run_39 : decode cX11_run 39 = .ok (.getfield 27, 3) := by decide +kernel
theorem dX11_run_42 : decode cX11_run 42 = .ok (.aload_n 0, 1) := by decide +kernel
theorem dX11_run_43 : decode cX11_run 43 = .ok (.getfield 37, 3) := by decide +kernel
theorem dX11_run_46 : decode cX11_run 46 = .ok (.invokevirtual 102, 3) := by decide +kernel
theorem dX11_run_49 : decode cX11_run 49 = .ok (.iinc 2 1, 3) := by decide +kernel
theorem dX11_run_52 : decode cX11_run 52 = .ok (.goto (-23), 3) := by decide +kernel
theorem dX11_run_55 : decode cX11_run 55 = .ok (.aload_n 0, 1) := by decide +kernel
theorem dX11_run_56 : decode cX11_run 56 = .ok (.getfield 37, 3) := by decide +kernel
theorem dX11_run_59 : decode cX11_run 59 = .ok (.aload_n 0, 1) := by decide +kernel
theorem dX11_run_60 : decode cX11_run 60 = .ok (.getfield 27, 3) := by decide +kernel
theorem dX11_run_63 : decode cX11_run 63 = .ok (.invokevirtual 105, 3) := by decide +kernel
theorem dX11_run_66 : decode cX11_run 66 = .ok (.ireturn, 1) := by decide +kernel
theorem dX11_runaway_0 : decode cX11_runaway 0 = .ok (.aload_n 0, 1) := by decide +kernel
theorem dX11_runaway_1 : decode cX11_runaway 1 = .ok (.getfield 27, 3) := by decide +kernel
theorem dX11_runaway_4 : decode cX11_runaway 4 = .ok (.iload_n 1, 1) := by decide +kernel
theorem dX11_runaway_5 : decode cX11_runaway 5 = .ok (.invokevirtual 109, 3) := by decide +kernel
theorem dX11_runaway_8 : decode cX11_runaway 8 = .ok (.ifCond .eq 22, 3) := by decide +kernel
theorem dX11_runaway_30 : decode cX11_runaway 30 = .ok (.iconst (-1), 1) := by decide +kernel
theorem dX11_runaway_31 : decode cX11_runaway 31 = .ok (.ireturn, 1) := by decide +kernel
theorem dX11_speed_0 : decode cX11_speed 0 = .ok (.aload_n 0, 1) := by decide +kernel
theorem dX11_speed_1 : decode cX11_speed 1 = .ok (.getfield 27, 3) := by decide +kernel
theorem dX11_speed_4 : decode cX11_speed 4 = .ok (.iload_n 1, 1) := by decide +kernel
theorem dX11_speed_5 : decode cX11_speed 5 = .ok (.invokevirtual 109, 3) := by decide +kernel
theorem dX11_speed_8 : decode cX11_speed 8 = .ok (.ifCond .eq 18, 3) := by decide +kernel
theorem dX11_speed_26 : decode cX11_speed 26 = .ok (.sipush (-1000), 3) := by decide +kernel
theorem dX11_speed_29 : decode cX11_speed 29 = .ok (.ireturn, 1) := by decide +kernel
theorem dX11_splice_0 : decode cX11_splice 0 = .ok (.aload_n 0, 1) := by decide +kernel
theorem dX11_splice_1 : decode cX11_splice 1 = .ok (.getfield 27, 3) := by decide +kernel
theorem dX11_splice_4 : decode cX11_splice 4 = .ok (.iload_n 1, 1) := by decide +kernel
theorem dX11_splice_5 : decode cX11_splice 5 = .ok (.invokevirtual 173, 3) := by decide +kernel
theorem dX11_splice_8 : decode cX11_splice 8 = .ok (.ifCond .ne 5, 3) := by decide +kernel
theorem dX11_splice_11 : decode cX11_splice 11 = .ok (.iconst (-1), 1) := by decide +kernel
theorem dX11_splice_12 : decode cX11_splice 12 = .ok (.ireturn, 1) := by decide +kernel
theorem dX11_spread_0 : decode cX11_spread 0 = .ok (.aload_n 0, 1) := by decide +kernel
theorem dX11_spread_1 : decode cX11_spread 1 = .ok (.getfield 27, 3) := by decide +kernel
theorem dX11_spread_4 : decode cX11_spread 4 = .ok (.iload_n 1, 1) := by decide +kernel
theorem dX11_spread_5 : decode cX11_spread 5 = .ok (.invokevirtual 109, 3) := by decide +kernel
theorem dX11_spread_8 : decode cX11_spread 8 = .ok (.ifCond .eq 28, 3) := by decide +kernel
theorem dX11_spread_36 : decode cX11_spread 36 = .ok (.iconst (-1), 1) := by decide +kernel
theorem dX11_spread_37 : decode cX11_spread 37 = .ok (.ireturn, 1) := by decide +kernel
theorem dX11_strand_0 : decode cX11_strand 0 = .ok (.aload_n 0, 1) := by decide +kernel
theorem dX11_strand_1 : decode cX11_strand 1 = .ok (.getfield 27, 3) := by decide +kernel
theorem dX11_strand_4 : decode cX11_strand 4 = .ok (.iload_n 1, 1) := by decide +kernel
theorem dX11_strand_5 : decode cX11_strand 5 = .ok (.iload_n 2, 1) := by decide +kernel
theorem dX11_strand_6 : decode cX11_strand 6 = .ok (.invokevirtual 159, 3) := by decide +kernel
theorem dX11_strand_9 : decode cX11_strand 9 = .ok (.ifCond .eq 15, 3) := by decide +kernel
theorem dX11_strand_24 : decode cX11_strand 24 = .ok (.iconst 0, 1) := by decide +kernel
theorem dX11_strand_25 : decode cX11_strand 25 = .ok (.ireturn, 1) := by decide +kernel
theorem dX11_strandNow_0 : decode cX11_strandNow 0 = .ok (.aload_n 0, 1) := by decide +kernel
theorem dX11_strandNow_1 : decode cX11_strandNow 1 = .ok (.getfield 37, 3) := by decide +kernel
theorem dX11_strandNow_4 : decode cX11_strandNow 4 = .ok (.getfield 163, 3) := by decide +kernel
theorem dX11_strandNow_7 : decode cX11_strandNow 7 = .ok (.iconst (-1), 1) := by decide +kernel
theorem dX11_strandNow_8 : decode cX11_strandNow 8 = .ok (.if_icmp .ne 5, 3) := by decide +kernel
theorem dX11_strandNow_11 : decode cX11_strandNow 11 = .ok (.iconst (-1), 1) := by decide +kernel
theorem dX11_strandNow_12 : decode cX11_strandNow 12 = .ok (.ireturn, 1) := by decide +kernel
theorem dX11_street_0 : decode cX11_street 0 = .ok (.aload_n 0, 1) := by decide +kernel
theorem dX11_street_1 : decode cX11_street 1 = .ok (.getfield 20, 3) := by decide +kernel
theorem dX11_street_4 : decode cX11_street 4 = .ok (.aload_n 0, 1) := by decide +kernel
theorem dX11_street_5 : decode cX11_street 5 = .ok (.getfield 31, 3) := by decide +kernel
theorem dX11_street_8 : decode cX11_street 8 = .ok (.aload_n 0, 1) := by decide +kernel
theorem dX11_street_9 : decode cX11_street 9 = .ok (.getfield 9, 3) := by decide +kernel
theorem dX11_street_12 : decode cX11_street 12 = .ok (.aload_n 0, 1) := by decide +kernel
theorem dX11_street_13 : decode cX11_street 13 = .ok (.getfield 13, 3) := by decide +kernel
theorem dX11_street_16 : decode cX11_street 16 = .ok (.invokevirtual 78, 3) := by decide +kernel
theorem dX11_street_19 : decode cX11_street 19 = .ok (.iconst 0, 1) := by decide +kernel
theorem dX11_street_20 : decode cX11_street 20 = .ok (.istore_n 1, 1) := by decide +kernel
theorem dX11_street_21 : decode cX11_street 21 = .ok (.iload_n 1, 1) := by decide +kernel
theorem dX11_street_22 : decode cX11_street 22 = .ok (.sipush 1600, 3) := by decide +kernel
theorem dX11_street_25 : decode cX11_street 25 = .ok (.if_icmp .ge 26, 3) := by decide +kernel
theorem dX11_street_28 : decode cX11_street 28 = .ok (.aload_n 0, 1) := by decide +kernel
theorem dX11_street_29 : decode cX11_street 29 = .ok (.getfield 20, 3) := by decide +kernel
theorem dX11_street_32 : decode cX11_street 32 = .ok (.invokevirtual 82, 3) := by decide +kernel
theorem dX11_street_35 : decode cX11_street 35 = .ok (.ifCond .eq 16, 3) := by decide +kernel
theorem dX11_street_51 : decode cX11_street 51 = .ok (.aload_n 0, 1) := by decide +kernel
theorem dX11_street_52 : decode cX11_street 52 = .ok (.getfield 20, 3) := by decide +kernel
theorem dX11_street_55 : decode cX11_street 55 = .ok (.getfield 89, 3) := by decide +kernel
theorem dX11_street_58 : decode cX11_street 58 = .ok (.ifCond .eq 5, 3) := by decide +kernel
theorem dX11_street_63 : decode cX11_street 63 = .ok (.aload_n 0, 1) := by decide +kernel
theorem dX11_street_64 : decode cX11_street 64 = .ok (.getfield 31, 3) := by decide +kernel
theorem dX11_street_67 : decode cX11_street 67 = .ok (.astore_n 2, 1) := by decide +kernel
theorem dX11_street_68 : decode cX11_street 68 = .ok (.aload_n 0, 1) := by decide +kernel
theorem dX11_street_69 : decode cX11_street 69 = .ok (.aload_n 0, 1) := by decide +kernel
theorem dX11_street_70 : decode cX11_street 70 = .ok (.getfield 27, 3) := by decide +kernel
theorem dX11_street_73 : decode cX11_street 73 = .ok (.putfield 31, 3) := by decide +kernel
theorem dX11_street_76 : decode cX11_street 76 = .ok (.aload_n 0, 1) := by decide +kernel
theorem dX11_street_77 : decode cX11_street 77 = .ok (.aload_n 2, 1) := by decide +kernel
theorem dX11_street_78 : decode cX11_street 78 = .ok (.putfield 27, 3) := by decide +kernel
theorem dX11_street_81 : decode cX11_street 81 = .ok (.aload_n 0, 1) := by decide +kernel
theorem dX11_street_82 : decode cX11_street 82 = .ok (.iconst 0, 1) := by decide +kernel
theorem dX11_street_83 : decode cX11_street 83 = .ok (.putfield 13, 3) := by decide +kernel
theorem dX11_street_86 : decode cX11_street 86 = .ok (.aload_n 0, 1) := by decide +kernel
theorem dX11_street_87 : decode cX11_street 87 = .ok (.getfield 37, 3) := by decide +kernel
theorem dX11_street_90 : decode cX11_street 90 = .ok (.aload_n 0, 1) := by decide +kernel
theorem dX11_street_91 : decode cX11_street 91 = .ok (.getfield 27, 3) := by decide +kernel
theorem dX11_street_94 : decode cX11_street 94 = .ok (.invokevirtual 70, 3) := by decide +kernel
theorem dX11_street_97 : decode cX11_street 97 = .ok (.aload_n 0, 1) := by decide +kernel
theorem dX11_street_98 : decode cX11_street 98 = .ok (.getfield 66, 3) := by decide +kernel
theorem dX11_street_101 : decode cX11_street 101 = .ok (.invokevirtual 92, 3) := by decide +kernel
theorem dX11_street_104 : decode cX11_street 104 = .ok (.iconst 0, 1) := by decide +kernel
theorem dX11_street_105 : decode cX11_street 105 = .ok (.istore_n 3, 1) := by decide +kernel
theorem dX11_street_106 : decode cX11_street 106 = .ok (.iload_n 3, 1) := by decide +kernel
theorem dX11_street_107 : decode cX11_street 107 = .ok (.iconst 3, 1) := by decide +kernel
theorem dX11_street_108 : decode cX11_street 108 = .ok (.if_icmp .ge 16, 3) := by decide +kernel
theorem dX11_street_111 : decode cX11_street 111 = .ok (.aload_n 0, 1) := by decide +kernel
theorem dX11_street_112 : decode cX11_street 112 = .ok (.getfield 45, 3) := by decide +kernel
theorem dX11_street_115 : decode cX11_street 115 = .ok (.iload_n 3, 1) := by decide +kernel
theorem dX11_street_116 : decode cX11_street 116 = .ok (.iconst 0, 1) := by decide +kernel
theorem dX11_street_117 : decode cX11_street 117 = .ok (.bastore, 1) := by decide +kernel
theorem dX11_street_118 : decode cX11_street 118 = .ok (.iinc 3 1, 3) := by decide +kernel
theorem dX11_street_121 : decode cX11_street 121 = .ok (.goto (-15), 3) := by decide +kernel
theorem dX11_street_124 : decode cX11_street 124 = .ok (.iload_n 1, 1) := by decide +kernel
theorem dX11_street_125 : decode cX11_street 125 = .ok (.ireturn, 1) := by decide +kernel
theorem dX11_takes_0 : decode cX11_takes 0 = .ok (.aload_n 0, 1) := by decide +kernel
theorem dX11_takes_1 : decode cX11_takes 1 = .ok (.getfield 59, 3) := by decide +kernel
theorem dX11_takes_4 : decode cX11_takes 4 = .ok (.aload_n 0, 1) := by decide +kernel
theorem dX11_takes_5 : decode cX11_takes 5 = .ok (.getfield 27, 3) := by decide +kernel
theorem dX11_takes_8 : decode cX11_takes 8 = .ok (.aload_n 0, 1) := by decide +kernel
theorem dX11_takes_9 : decode cX11_takes 9 = .ok (.getfield 37, 3) := by decide +kernel
theorem dX11_takes_12 : decode cX11_takes 12 = .ok (.invokevirtual 258, 3) := by decide +kernel
theorem dX11_takes_15 : decode cX11_takes 15 = .ok (.ireturn, 1) := by decide +kernel
theorem dX11_trips_0 : decode cX11_trips 0 = .ok (.aload_n 0, 1) := by decide +kernel
theorem dX11_trips_1 : decode cX11_trips 1 = .ok (.getfield 27, 3) := by decide +kernel
theorem dX11_trips_4 : decode cX11_trips 4 = .ok (.iload_n 1, 1) := by decide +kernel
theorem dX11_trips_5 : decode cX11_trips 5 = .ok (.invokevirtual 109, 3) := by decide +kernel
theorem dX11_trips_8 : decode cX11_trips 8 = .ok (.ifCond .eq 18, 3) := by decide +kernel
theorem dX11_trips_26 : decode cX11_trips 26 = .ok (.iconst (-1), 1) := by decide +kernel
theorem dX11_trips_27 : decode cX11_trips 27 = .ok (.ireturn, 1) := by decide +kernel
theorem dX11_untell_0 : decode cX11_untell 0 = .ok (.aload_n 0, 1) := by decide +kernel
theorem dX11_untell_1 : decode cX11_untell 1 = .ok (.getfield 66, 3) := by decide +kernel
theorem dX11_untell_4 : decode cX11_untell 4 = .ok (.iload_n 1, 1) := by decide +kernel
theorem dX11_untell_5 : decode cX11_untell 5 = .ok (.invokevirtual 294, 3) := by decide +kernel
theorem dX11_untell_8 : decode cX11_untell 8 = .ok (.ireturn, 1) := by decide +kernel
theorem dX11_where_0 : decode cX11_where 0 = .ok (.aload_n 0, 1) := by decide +kernel
theorem dX11_where_1 : decode cX11_where 1 = .ok (.getfield 27, 3) := by decide +kernel
theorem dX11_where_4 : decode cX11_where 4 = .ok (.iload_n 1, 1) := by decide +kernel
theorem dX11_where_5 : decode cX11_where 5 = .ok (.iload_n 2, 1) := by decide +kernel
theorem dX11_where_6 : decode cX11_where 6 = .ok (.invokevirtual 159, 3) := by decide +kernel
theorem dX11_where_9 : decode cX11_where 9 = .ok (.ifCond .eq 14, 3) := by decide +kernel
theorem dX11_where_23 : decode cX11_where 23 = .ok (.bipush (-2), 2) := by decide +kernel
theorem dX11_where_25 : decode cX11_where 25 = .ok (.ireturn, 1) := by decide +kernel
theorem dX12_init_0 : decode cX12_init 0 = .ok (.aload_n 0, 1) := by decide +kernel
theorem dX12_init_1 : decode cX12_init 1 = .ok (.invokespecial 1, 3) := by decide +kernel
theorem dX12_init_4 : decode cX12_init 4 = .ok (.aload_n 0, 1) := by decide +kernel
theorem dX12_init_5 : decode cX12_init 5 = .ok (.sipush 1620, 3) := by decide +kernel
theorem dX12_init_8 : decode cX12_init 8 = .ok (.newarray .byte, 2) := by decide +kernel
theorem dX12_init_10 : decode cX12_init 10 = .ok (.putfield 7, 3) := by decide +kernel
theorem dX12_init_13 : decode cX12_init 13 = .ok (.aload_n 0, 1) := by decide +kernel
theorem dX12_init_14 : decode cX12_init 14 = .ok (.sipush 1600, 3) := by decide +kernel
theorem dX12_init_17 : decode cX12_init 17 = .ok (.newarray .byte, 2) := by decide +kernel
theorem dX12_init_19 : decode cX12_init 19 = .ok (.putfield 13, 3) := by decide +kernel
theorem dX12_init_22 : decode cX12_init 22 = .ok (.aload_n 0, 1) := by decide +kernel
theorem dX12_init_23 : decode cX12_init 23 = .ok (.iconst (-1), 1) := by decide +kernel
theorem dX12_init_24 : decode cX12_init 24 = .ok (.putfield 16, 3) := by decide +kernel
theorem dX12_init_27 : decode cX12_init 27 = .ok (.aload_n 0, 1) := by decide +kernel
theorem dX12_init_28 : decode cX12_init 28 = .ok (.iconst 2, 1) := by decide +kernel
theorem dX12_init_29 : decode cX12_init 29 = .ok (.newarray .int, 2) := by decide +kernel
theorem dX12_init_31 : decode cX12_init 31 = .ok (.putfield 20, 3) := by decide +kernel
theorem dX12_init_34 : decode cX12_init 34 = .ok (.aload_n 0, 1) := by decide +kernel
theorem dX12_init_35 : decode cX12_init 35 = .ok (.iconst 2, 1) := by decide +kernel
theorem dX12_init_36 : decode cX12_init 36 = .ok (.newarray .int, 2) := by decide +kernel
theorem dX12_init_38 : decode cX12_init 38 = .ok (.putfield 24, 3) := by decide +kernel
theorem dX12_init_41 : decode cX12_init 41 = .ok (.aload_n 0, 1) := by decide +kernel
theorem dX12_init_42 : decode cX12_init 42 = .ok (.iconst 2, 1) := by decide +kernel
theorem dX12_init_43 : decode cX12_init 43 = .ok (.newarray .int, 2) := by decide +kernel
theorem dX12_init_45 : decode cX12_init 45 = .ok (.putfield 27, 3) := by decide +kernel
theorem dX12_init_48 : decode cX12_init 48 = .ok (.aload_n 0, 1) := by decide +kernel
theorem dX12_init_49 : decode cX12_init 49 = .ok (.iconst 2, 1) := by decide +kernel
theorem dX12_init_50 : decode cX12_init 50 = .ok (.newarray .int, 2) := by decide +kernel
theorem dX12_init_52 : decode cX12_init 52 = .ok (.putfield 30, 3) := by decide +kernel
