theorem dX11_init_126 : decode cX11_init 126 = .ok (.invokespecial 36, 3) := by decide +kernel
theorem dX11_init_129 : decode cX11_init 129 = .ok (.aastore, 1) := by decide +kernel
theorem dX11_init_130 : decode cX11_init 130 = .ok (.iinc 1 1, 3) := by decide +kernel
theorem dX11_init_133 : decode cX11_init 133 = .ok (.goto (-21), 3) := by decide +kernel
theorem dX11_init_136 : decode cX11_init 136 = .ok (.aload_n 0, 1) := by decide +kernel
theorem dX11_init_137 : decode cX11_init 137 = .ok (.getfield 37, 3) := by decide +kernel
theorem dX11_init_140 : decode cX11_init 140 = .ok (.aload_n 0, 1) := by decide +kernel
theorem dX11_init_141 : decode cX11_init 141 = .ok (.getfield 27, 3) := by decide +kernel
theorem dX11_init_144 : decode cX11_init 144 = .ok (.invokevirtual 70, 3) := by decide +kernel
theorem dX11_init_147 : decode cX11_init 147 = .ok (.return_, 1) := by decide +kernel
theorem dX11_about_0 : decode cX11_about 0 = .ok (.iload_n 1, 1) := by decide +kernel
theorem dX11_about_1 : decode cX11_about 1 = .ok (.tableswitch 189 0 13 #[71, 79, 87, 95, 103, 111, 119, 124, 132, 140, 148, 159, 170, 181], 71) := by decide +kernel
theorem dX11_about_72 : decode cX11_about 72 = .ok (.aload_n 0, 1) := by decide +kernel
theorem dX11_about_73 : decode cX11_about 73 = .ok (.getfield 27, 3) := by decide +kernel
theorem dX11_about_76 : decode cX11_about 76 = .ok (.getfield 323, 3) := by decide +kernel
theorem dX11_about_79 : decode cX11_about 79 = .ok (.ireturn, 1) := by decide +kernel
theorem dX11_about_80 : decode cX11_about 80 = .ok (.aload_n 0, 1) := by decide +kernel
theorem dX11_about_81 : decode cX11_about 81 = .ok (.getfield 27, 3) := by decide +kernel
theorem dX11_about_84 : decode cX11_about 84 = .ok (.getfield 207, 3) := by decide +kernel
theorem dX11_about_87 : decode cX11_about 87 = .ok (.ireturn, 1) := by decide +kernel
theorem dX11_about_88 : decode cX11_about 88 = .ok (.aload_n 0, 1) := by decide +kernel
theorem dX11_about_89 : decode cX11_about 89 = .ok (.getfield 27, 3) := by decide +kernel
theorem dX11_about_92 : decode cX11_about 92 = .ok (.getfield 326, 3) := by decide +kernel
theorem dX11_about_95 : decode cX11_about 95 = .ok (.ireturn, 1) := by decide +kernel
theorem dX11_about_96 : decode cX11_about 96 = .ok (.aload_n 0, 1) := by decide +kernel
theorem dX11_about_97 : decode cX11_about 97 = .ok (.getfield 37, 3) := by decide +kernel
theorem dX11_about_100 : decode cX11_about 100 = .ok (.getfield 98, 3) := by decide +kernel
theorem dX11_about_103 : decode cX11_about 103 = .ok (.ireturn, 1) := by decide +kernel
theorem dX11_about_104 : decode cX11_about 104 = .ok (.aload_n 0, 1) := by decide +kernel
theorem dX11_about_105 : decode cX11_about 105 = .ok (.getfield 66, 3) := by decide +kernel
theorem dX11_about_108 : decode cX11_about 108 = .ok (.getfield 329, 3) := by decide +kernel
theorem dX11_about_111 : decode cX11_about 111 = .ok (.ireturn, 1) := by decide +kernel
theorem dX11_about_112 : decode cX11_about 112 = .ok (.aload_n 0, 1) := by decide +kernel
theorem dX11_about_113 : decode cX11_about 113 = .ok (.getfield 66, 3) := by decide +kernel
theorem dX11_about_116 : decode cX11_about 116 = .ok (.getfield 297, 3) := by decide +kernel
theorem dX11_about_119 : decode cX11_about 119 = .ok (.ireturn, 1) := by decide +kernel
theorem dX11_about_120 : decode cX11_about 120 = .ok (.aload_n 0, 1) := by decide +kernel
theorem dX11_about_121 : decode cX11_about 121 = .ok (.getfield 13, 3) := by decide +kernel
theorem dX11_about_124 : decode cX11_about 124 = .ok (.ireturn, 1) := by decide +kernel
theorem dX11_about_125 : decode cX11_about 125 = .ok (.aload_n 0, 1) := by decide +kernel
theorem dX11_about_126 : decode cX11_about 126 = .ok (.getfield 27, 3) := by decide +kernel
theorem dX11_about_129 : decode cX11_about 129 = .ok (.getfield 332, 3) := by decide +kernel
theorem dX11_about_132 : decode cX11_about 132 = .ok (.ireturn, 1) := by decide +kernel
theorem dX11_about_133 : decode cX11_about 133 = .ok (.aload_n 0, 1) := by decide +kernel
theorem dX11_about_134 : decode cX11_about 134 = .ok (.getfield 27, 3) := by decide +kernel
theorem dX11_about_137 : decode cX11_about 137 = .ok (.getfield 335, 3) := by decide +kernel
theorem dX11_about_140 : decode cX11_about 140 = .ok (.ireturn, 1) := by decide +kernel
theorem dX11_about_141 : decode cX11_about 141 = .ok (.aload_n 0, 1) := by decide +kernel
theorem dX11_about_142 : decode cX11_about 142 = .ok (.getfield 27, 3) := by decide +kernel
theorem dX11_about_145 : decode cX11_about 145 = .ok (.getfield 338, 3) := by decide +kernel
theorem dX11_about_148 : decode cX11_about 148 = .ok (.ireturn, 1) := by decide +kernel
theorem dX11_about_149 : decode cX11_about 149 = .ok (.aload_n 0, 1) := by decide +kernel
theorem dX11_about_150 : decode cX11_about 150 = .ok (.getfield 27, 3) := by decide +kernel
theorem dX11_about_153 : decode cX11_about 153 = .ok (.getfield 222, 3) := by decide +kernel
theorem dX11_about_156 : decode cX11_about 156 = .ok (.getfield 341, 3) := by decide +kernel
theorem dX11_about_159 : decode cX11_about 159 = .ok (.ireturn, 1) := by decide +kernel
theorem dX11_about_160 : decode cX11_about 160 = .ok (.aload_n 0, 1) := by decide +kernel
theorem dX11_about_161 : decode cX11_about 161 = .ok (.getfield 27, 3) := by decide +kernel
theorem dX11_about_164 : decode cX11_about 164 = .ok (.getfield 222, 3) := by decide +kernel
theorem dX11_about_167 : decode cX11_about 167 = .ok (.getfield 342, 3) := by decide +kernel
theorem dX11_about_170 : decode cX11_about 170 = .ok (.ireturn, 1) := by decide +kernel
theorem dX11_about_171 : decode cX11_about 171 = .ok (.aload_n 0, 1) := by decide +kernel
theorem dX11_about_172 : decode cX11_about 172 = .ok (.getfield 37, 3) := by decide +kernel
theorem dX11_about_175 : decode cX11_about 175 = .ok (.getfield 149, 3) := by decide +kernel
theorem dX11_about_178 : decode cX11_about 178 = .ok (.getfield 345, 3) := by decide +kernel
theorem dX11_about_181 : decode cX11_about 181 = .ok (.ireturn, 1) := by decide +kernel
theorem dX11_about_182 : decode cX11_about 182 = .ok (.aload_n 0, 1) := by decide +kernel
theorem dX11_about_183 : decode cX11_about 183 = .ok (.getfield 37, 3) := by decide +kernel
theorem dX11_about_186 : decode cX11_about 186 = .ok (.getfield 348, 3) := by decide +kernel
theorem dX11_about_189 : decode cX11_about 189 = .ok (.ireturn, 1) := by decide +kernel
theorem dX11_about_190 : decode cX11_about 190 = .ok (.iconst (-1), 1) := by decide +kernel
theorem dX11_about_191 : decode cX11_about 191 = .ok (.ireturn, 1) := by decide +kernel
theorem dX11_asks_0 : decode cX11_asks 0 = .ok (.aload_n 0, 1) := by decide +kernel
theorem dX11_asks_1 : decode cX11_asks 1 = .ok (.getfield 27, 3) := by decide +kernel
theorem dX11_asks_4 : decode cX11_asks 4 = .ok (.getfield 222, 3) := by decide +kernel
theorem dX11_asks_7 : decode cX11_asks 7 = .ok (.iload_n 1, 1) := by decide +kernel
theorem dX11_asks_8 : decode cX11_asks 8 = .ok (.invokevirtual 226, 3) := by decide +kernel
theorem dX11_asks_11 : decode cX11_asks 11 = .ok (.istore_n 3, 1) := by decide +kernel
theorem dX11_asks_12 : decode cX11_asks 12 = .ok (.iload_n 3, 1) := by decide +kernel
theorem dX11_asks_13 : decode cX11_asks 13 = .ok (.iconst (-1), 1) := by decide +kernel
theorem dX11_asks_14 : decode cX11_asks 14 = .ok (.if_icmp .eq 14, 3) := by decide +kernel
theorem dX11_asks_17 : decode cX11_asks 17 = .ok (.aload_n 0, 1) := by decide +kernel
theorem dX11_asks_18 : decode cX11_asks 18 = .ok (.getfield 27, 3) := by decide +kernel
theorem dX11_asks_21 : decode cX11_asks 21 = .ok (.iload_n 2, 1) := by decide +kernel
theorem dX11_asks_22 : decode cX11_asks 22 = .ok (.invokevirtual 109, 3) := by decide +kernel
theorem dX11_asks_25 : decode cX11_asks 25 = .ok (.ifCond .ne 6, 3) := by decide +kernel
theorem dX11_asks_28 : decode cX11_asks 28 = .ok (.ldc 195, 2) := by decide +kernel
theorem dX11_asks_30 : decode cX11_asks 30 = .ok (.ireturn, 1) := by decide +kernel
theorem dX11_asks_31 : decode cX11_asks 31 = .ok (.aload_n 0, 1) := by decide +kernel
theorem dX11_asks_32 : decode cX11_asks 32 = .ok (.getfield 52, 3) := by decide +kernel
theorem dX11_asks_35 : decode cX11_asks 35 = .ok (.aload_n 0, 1) := by decide +kernel
theorem dX11_asks_36 : decode cX11_asks 36 = .ok (.getfield 27, 3) := by decide +kernel
theorem dX11_asks_39 : decode cX11_asks 39 = .ok (.aload_n 0, 1) := by decide +kernel
theorem dX11_asks_40 : decode cX11_asks 40 = .ok (.getfield 37, 3) := by decide +kernel
theorem dX11_asks_43 : decode cX11_asks 43 = .ok (.iload_n 3, 1) := by decide +kernel
theorem dX11_asks_44 : decode cX11_asks 44 = .ok (.iload_n 2, 1) := by decide +kernel
theorem dX11_asks_45 : decode cX11_asks 45 = .ok (.invokevirtual 232, 3) := by decide +kernel
theorem dX11_asks_48 : decode cX11_asks 48 = .ok (.ireturn, 1) := by decide +kernel
theorem dX11_back_0 : decode cX11_back 0 = .ok (.iload_n 1, 1) := by decide +kernel
theorem dX11_back_1 : decode cX11_back 1 = .ok (.ifCond .lt 17, 3) := by decide +kernel
theorem dX11_back_4 : decode cX11_back 4 = .ok (.iload_n 1, 1) := by decide +kernel
theorem dX11_back_5 : decode cX11_back 5 = .ok (.iconst 3, 1) := by decide +kernel
theorem dX11_back_6 : decode cX11_back 6 = .ok (.if_icmp .ge 12, 3) := by decide +kernel
theorem dX11_back_9 : decode cX11_back 9 = .ok (.aload_n 0, 1) := by decide +kernel
theorem dX11_back_10 : decode cX11_back 10 = .ok (.getfield 45, 3) := by decide +kernel
theorem dX11_back_13 : decode cX11_back 13 = .ok (.iload_n 1, 1) := by decide +kernel
theorem dX11_back_14 : decode cX11_back 14 = .ok (.baload, 1) := by decide +kernel
theorem dX11_back_15 : decode cX11_back 15 = .ok (.ifCond .ne 5, 3) := by decide +kernel
theorem dX11_back_18 : decode cX11_back 18 = .ok (.iconst (-1), 1) := by decide +kernel
theorem dX11_back_19 : decode cX11_back 19 = .ok (.ireturn, 1) := by decide +kernel
theorem dX11_back_20 : decode cX11_back 20 = .ok (.aload_n 0, 1) := by decide +kernel
theorem dX11_back_21 : decode cX11_back 21 = .ok (.getfield 37, 3) := by decide +kernel
theorem dX11_back_24 : decode cX11_back 24 = .ok (.aload_n 0, 1) := by decide +kernel
theorem dX11_back_25 : decode cX11_back 25 = .ok (.getfield 41, 3) := by decide +kernel
theorem dX11_back_28 : decode cX11_back 28 = .ok (.iload_n 1, 1) := by decide +kernel
theorem dX11_back_29 : decode cX11_back 29 = .ok (.aaload, 1) := by decide +kernel
theorem dX11_back_30 : decode cX11_back 30 = .ok (.invokevirtual 319, 3) := by decide +kernel
theorem dX11_back_33 : decode cX11_back 33 = .ok (.aload_n 0, 1) := by decide +kernel
theorem dX11_back_34 : decode cX11_back 34 = .ok (.getfield 37, 3) := by decide +kernel
theorem dX11_back_37 : decode cX11_back 37 = .ok (.getfield 98, 3) := by decide +kernel
theorem dX11_back_40 : decode cX11_back 40 = .ok (.ireturn, 1) := by decide +kernel
theorem dX11_car_0 : decode cX11_car 0 = .ok (.aload_n 0, 1) := by decide +kernel
theorem dX11_car_1 : decode cX11_car 1 = .ok (.getfield 27, 3) := by decide +kernel
theorem dX11_car_4 : decode cX11_car 4 = .ok (.iload_n 1, 1) := by decide +kernel
theorem dX11_car_5 : decode cX11_car 5 = .ok (.invokevirtual 109, 3) := by decide +kernel
theorem dX11_car_8 : decode cX11_car 8 = .ok (.ifCond .ne 5, 3) := by decide +kernel
theorem dX11_car_11 : decode cX11_car 11 = .ok (.iconst (-1), 1) := by decide +kernel
theorem dX11_car_12 : decode cX11_car 12 = .ok (.ireturn, 1) := by decide +kernel
theorem dX11_car_13 : decode cX11_car 13 = .ok (.aload_n 0, 1) := by decide +kernel
theorem dX11_car_14 : decode cX11_car 14 = .ok (.getfield 37, 3) := by decide +kernel
theorem dX11_car_17 : decode cX11_car 17 = .ok (.getfield 113, 3) := by decide +kernel
theorem dX11_car_20 : decode cX11_car 20 = .ok (.iload_n 1, 1) := by decide +kernel
theorem dX11_car_21 : decode cX11_car 21 = .ok (.aaload, 1) := by decide +kernel
theorem dX11_car_22 : decode cX11_car 22 = .ok (.astore_n 3, 1) := by decide +kernel
theorem dX11_car_23 : decode cX11_car 23 = .ok (.iload_n 2, 1) := by decide +kernel
theorem dX11_car_24 : decode cX11_car 24 = .ok (.tableswitch 76 0 4 #[36, 76, 41, 46, 59], 36) := by decide +kernel
theorem dX11_car_60 : decode cX11_car 60 = .ok (.aload_n 3, 1) := by decide +kernel
theorem dX11_car_61 : decode cX11_car 61 = .ok (.getfield 117, 3) := by decide +kernel
theorem dX11_car_64 : decode cX11_car 64 = .ok (.ireturn, 1) := by decide +kernel
theorem dX11_car_65 : decode cX11_car 65 = .ok (.aload_n 3, 1) := by decide +kernel
theorem dX11_car_66 : decode cX11_car 66 = .ok (.getfield 122, 3) := by decide +kernel
theorem dX11_car_69 : decode cX11_car 69 = .ok (.ireturn, 1) := by decide +kernel
theorem dX11_car_70 : decode cX11_car 70 = .ok (.aload_n 3, 1) := by decide +kernel
theorem dX11_car_71 : decode cX11_car 71 = .ok (.getfield 125, 3) := by decide +kernel
theorem dX11_car_74 : decode cX11_car 74 = .ok (.ifCond .eq 7, 3) := by decide +kernel
theorem dX11_car_77 : decode cX11_car 77 = .ok (.iconst 1, 1) := by decide +kernel
theorem dX11_car_78 : decode cX11_car 78 = .ok (.goto 4, 3) := by decide +kernel
theorem dX11_car_81 : decode cX11_car 81 = .ok (.iconst 0, 1) := by decide +kernel
theorem dX11_car_82 : decode cX11_car 82 = .ok (.ireturn, 1) := by decide +kernel
theorem dX11_car_83 : decode cX11_car 83 = .ok (.aload_n 3, 1) := by decide +kernel
theorem dX11_car_84 : decode cX11_car 84 = .ok (.getfield 122, 3) := by decide +kernel
theorem dX11_car_87 : decode cX11_car 87 = .ok (.iconst 2, 1) := by decide +kernel
theorem dX11_car_88 : decode cX11_car 88 = .ok (.if_icmp .ne 10, 3) := by decide +kernel
theorem dX11_car_91 : decode cX11_car 91 = .ok (.aload_n 3, 1) := by decide +kernel
theorem dX11_car_92 : decode cX11_car 92 = .ok (.getfield 129, 3) := by decide +kernel
theorem dX11_car_95 : decode cX11_car 95 = .ok (.goto 4, 3) := by decide +kernel
theorem dX11_car_98 : decode cX11_car 98 = .ok (.iconst 0, 1) := by decide +kernel
theorem dX11_car_99 : decode cX11_car 99 = .ok (.ireturn, 1) := by decide +kernel
theorem dX11_car_100 : decode cX11_car 100 = .ok (.iconst (-1), 1) := by decide +kernel
theorem dX11_car_101 : decode cX11_car 101 = .ok (.ireturn, 1) := by decide +kernel
theorem dX11_carsAheadInOrder_0 : decode cX11_carsAheadInOrder 0 = .ok (.aload_n 0, 1) := by decide +kernel
theorem dX11_carsAheadInOrder_1 : decode cX11_carsAheadInOrder 1 = .ok (.getfield 27, 3) := by decide +kernel
theorem dX11_carsAheadInOrder_4 : decode cX11_carsAheadInOrder 4 = .ok (.iload_n 1, 1) := by decide +kernel
theorem dX11_carsAheadInOrder_5 : decode cX11_carsAheadInOrder 5 = .ok (.aload_n 0, 1) := by decide +kernel
theorem dX11_carsAheadInOrder_6 : decode cX11_carsAheadInOrder 6 = .ok (.getfield 37, 3) := by decide +kernel
theorem dX11_carsAheadInOrder_9 : decode cX11_carsAheadInOrder 9 = .ok (.getfield 113, 3) := by decide +kernel
theorem dX11_carsAheadInOrder_12 : decode cX11_carsAheadInOrder 12 = .ok (.iload_n 1, 1) := by decide +kernel
theorem dX11_carsAheadInOrder_13 : decode cX11_carsAheadInOrder 13 = .ok (.aaload, 1) := by decide +kernel
theorem dX11_carsAheadInOrder_14 : decode cX11_carsAheadInOrder 14 = .ok (.invokevirtual 212, 3) := by decide +kernel
theorem dX11_carsAheadInOrder_17 : decode cX11_carsAheadInOrder 17 = .ok (.invokevirtual 275, 3) := by decide +kernel
theorem dX11_carsAheadInOrder_20 : decode cX11_carsAheadInOrder 20 = .ok (.istore_n 2, 1) := by decide +kernel
theorem dX11_carsAheadInOrder_21 : decode cX11_carsAheadInOrder 21 = .ok (.iconst 0, 1) := by decide +kernel
theorem dX11_carsAheadInOrder_22 : decode cX11_carsAheadInOrder 22 = .ok (.istore_n 3, 1) := by decide +kernel
theorem dX11_carsAheadInOrder_23 : decode cX11_carsAheadInOrder 23 = .ok (.iconst 0, 1) := by decide +kernel
theorem dX11_carsAheadInOrder_24 : decode cX11_carsAheadInOrder 24 = .ok (.istore 4, 2) := by decide +kernel
theorem dX11_carsAheadInOrder_26 : decode cX11_carsAheadInOrder 26 = .ok (.iload 4, 2) := by decide +kernel
theorem dX11_carsAheadInOrder_28 : decode cX11_carsAheadInOrder 28 = .ok (.aload_n 0, 1) := by decide +kernel
theorem dX11_carsAheadInOrder_29 : decode cX11_carsAheadInOrder 29 = .ok (.getfield 27, 3) := by decide +kernel
theorem dX11_carsAheadInOrder_32 : decode cX11_carsAheadInOrder 32 = .ok (.getfield 207, 3) := by decide +kernel
theorem dX11_carsAheadInOrder_35 : decode cX11_carsAheadInOrder 35 = .ok (.if_icmp .ge 73, 3) := by decide +kernel
theorem dX11_carsAheadInOrder_38 : decode cX11_carsAheadInOrder 38 = .ok (.aload_n 0, 1) := by decide +kernel
theorem dX11_carsAheadInOrder_39 : decode cX11_carsAheadInOrder 39 = .ok (.getfield 37, 3) := by decide +kernel
theorem dX11_carsAheadInOrder_42 : decode cX11_carsAheadInOrder 42 = .ok (.getfield 113, 3) := by decide +kernel
theorem dX11_carsAheadInOrder_45 : decode cX11_carsAheadInOrder 45 = .ok (.iload 4, 2) := by decide +kernel
theorem dX11_carsAheadInOrder_47 : decode cX11_carsAheadInOrder 47 = .ok (.aaload, 1) := by decide +kernel
theorem dX11_carsAheadInOrder_48 : decode cX11_carsAheadInOrder 48 = .ok (.astore 5, 2) := by decide +kernel
theorem dX11_carsAheadInOrder_50 : decode cX11_carsAheadInOrder 50 = .ok (.aload 5, 2) := by decide +kernel
theorem dX11_carsAheadInOrder_52 : decode cX11_carsAheadInOrder 52 = .ok (.getfield 122, 3) := by decide +kernel
theorem dX11_carsAheadInOrder_55 : decode cX11_carsAheadInOrder 55 = .ok (.iconst 3, 1) := by decide +kernel
theorem dX11_carsAheadInOrder_56 : decode cX11_carsAheadInOrder 56 = .ok (.if_icmp .eq 46, 3) := by decide +kernel
theorem dX11_carsAheadInOrder_59 : decode cX11_carsAheadInOrder 59 = .ok (.iload 4, 2) := by decide +kernel
theorem dX11_carsAheadInOrder_61 : decode cX11_carsAheadInOrder 61 = .ok (.iload_n 1, 1) := by decide +kernel
theorem dX11_carsAheadInOrder_62 : decode cX11_carsAheadInOrder 62 = .ok (.if_icmp .eq 40, 3) := by decide +kernel
theorem dX11_carsAheadInOrder_65 : decode cX11_carsAheadInOrder 65 = .ok (.aload_n 0, 1) := by decide +kernel
theorem dX11_carsAheadInOrder_66 : decode cX11_carsAheadInOrder 66 = .ok (.getfield 27, 3) := by decide +kernel
theorem dX11_carsAheadInOrder_69 : decode cX11_carsAheadInOrder 69 = .ok (.iload 4, 2) := by decide +kernel
theorem dX11_carsAheadInOrder_71 : decode cX11_carsAheadInOrder 71 = .ok (.aload 5, 2) := by decide +kernel
theorem dX11_carsAheadInOrder_73 : decode cX11_carsAheadInOrder 73 = .ok (.invokevirtual 212, 3) := by decide +kernel
theorem dX11_carsAheadInOrder_76 : decode cX11_carsAheadInOrder 76 = .ok (.invokevirtual 275, 3) := by decide +kernel
theorem dX11_carsAheadInOrder_79 : decode cX11_carsAheadInOrder 79 = .ok (.istore 6, 2) := by decide +kernel
theorem dX11_carsAheadInOrder_81 : decode cX11_carsAheadInOrder 81 = .ok (.iload 6, 2) := by decide +kernel
theorem dX11_carsAheadInOrder_83 : decode cX11_carsAheadInOrder 83 = .ok (.iload_n 2, 1) := by decide +kernel
theorem dX11_carsAheadInOrder_84 : decode cX11_carsAheadInOrder 84 = .ok (.if_icmp .gt 15, 3) := by decide +kernel
theorem dX11_carsAheadInOrder_87 : decode cX11_carsAheadInOrder 87 = .ok (.iload 6, 2) := by decide +kernel
theorem dX11_carsAheadInOrder_89 : decode cX11_carsAheadInOrder 89 = .ok (.iload_n 2, 1) := by decide +kernel
theorem dX11_carsAheadInOrder_90 : decode cX11_carsAheadInOrder 90 = .ok (.if_icmp .ne 12, 3) := by decide +kernel
theorem dX11_carsAheadInOrder_93 : decode cX11_carsAheadInOrder 93 = .ok (.iload 4, 2) := by decide +kernel
theorem dX11_carsAheadInOrder_95 : decode cX11_carsAheadInOrder 95 = .ok (.iload_n 1, 1) := by decide +kernel
theorem dX11_carsAheadInOrder_96 : decode cX11_carsAheadInOrder 96 = .ok (.if_icmp .ge 6, 3) := by decide +kernel
theorem dX11_carsAheadInOrder_99 : decode cX11_carsAheadInOrder 99 = .ok (.iinc 3 1, 3) := by decide +kernel
theorem dX11_carsAheadInOrder_102 : decode cX11_carsAheadInOrder 102 = .ok (.iinc 4 1, 3) := by decide +kernel
theorem dX11_carsAheadInOrder_105 : decode cX11_carsAheadInOrder 105 = .ok (.goto (-79), 3) := by decide +kernel
theorem dX11_carsAheadInOrder_108 : decode cX11_carsAheadInOrder 108 = .ok (.iload_n 3, 1) := by decide +kernel
theorem dX11_carsAheadInOrder_109 : decode cX11_carsAheadInOrder 109 = .ok (.ireturn, 1) := by decide +kernel
theorem dX11_coasts_0 : decode cX11_coasts 0 = .ok (.iload_n 1, 1) := by decide +kernel
theorem dX11_coasts_1 : decode cX11_coasts 1 = .ok (.invokestatic 239, 3) := by decide +kernel
theorem dX11_coasts_4 : decode cX11_coasts 4 = .ok (.ifCond .eq 15, 3) := by decide +kernel
theorem dX11_coasts_7 : decode cX11_coasts 7 = .ok (.iload_n 2, 1) := by decide +kernel
theorem dX11_coasts_8 : decode cX11_coasts 8 = .ok (.bipush (-60), 2) := by decide +kernel
theorem dX11_coasts_10 : decode cX11_coasts 10 = .ok (.if_icmp .lt 9, 3) := by decide +kernel
theorem dX11_coasts_13 : decode cX11_coasts 13 = .ok (.iload_n 2, 1) := by decide +kernel
theorem dX11_coasts_14 : decode cX11_coasts 14 = .ok (.bipush 60, 2) := by decide +kernel
theorem dX11_coasts_16 : decode cX11_coasts 16 = .ok (.if_icmp .le 6, 3) := by decide +kernel
theorem dX11_coasts_19 : decode cX11_coasts 19 = .ok (.bipush (-2), 2) := by decide +kernel
theorem dX11_coasts_21 : decode cX11_coasts 21 = .ok (.ireturn, 1) := by decide +kernel
theorem dX11_coasts_22 : decode cX11_coasts 22 = .ok (.aload_n 0, 1) := by decide +kernel
theorem dX11_coasts_23 : decode cX11_coasts 23 = .ok (.getfield 59, 3) := by decide +kernel
theorem dX11_coasts_26 : decode cX11_coasts 26 = .ok (.aload_n 0, 1) := by decide +kernel
theorem dX11_coasts_27 : decode cX11_coasts 27 = .ok (.getfield 27, 3) := by decide +kernel
theorem dX11_coasts_30 : decode cX11_coasts 30 = .ok (.iload_n 1, 1) := by decide +kernel
theorem dX11_coasts_31 : decode cX11_coasts 31 = .ok (.iload_n 2, 1) := by decide +kernel
theorem dX11_coasts_32 : decode cX11_coasts 32 = .ok (.invokevirtual 242, 3) := by decide +kernel
theorem dX11_coasts_35 : decode cX11_coasts 35 = .ok (.iload_n 3, 1) := by decide +kernel
theorem dX11_coasts_36 : decode cX11_coasts 36 = .ok (.tableswitch 60 0 2 #[28, 36, 52], 28) := by decide +kernel
theorem dX11_coasts_64 : decode cX11_coasts 64 = .ok (.aload_n 0, 1) := by decide +kernel
theorem dX11_coasts_65 : decode cX11_coasts 65 = .ok (.getfield 59, 3) := by decide +kernel
theorem dX11_coasts_68 : decode cX11_coasts 68 = .ok (.getfield 246, 3) := by decide +kernel
theorem dX11_coasts_71 : decode cX11_coasts 71 = .ok (.ireturn, 1) := by decide +kernel
theorem dX11_coasts_72 : decode cX11_coasts 72 = .ok (.aload_n 0, 1) := by decide +kernel
theorem dX11_coasts_73 : decode cX11_coasts 73 = .ok (.getfield 59, 3) := by decide +kernel
theorem dX11_coasts_76 : decode cX11_coasts 76 = .ok (.getfield 249, 3) := by decide +kernel
theorem dX11_coasts_79 : decode cX11_coasts 79 = .ok (.ifCond .eq 7, 3) := by decide +kernel
theorem dX11_coasts_82 : decode cX11_coasts 82 = .ok (.iconst 1, 1) := by decide +kernel
theorem dX11_coasts_83 : decode cX11_coasts 83 = .ok (.goto 4, 3) := by decide +kernel
theorem dX11_coasts_86 : decode cX11_coasts 86 = .ok (.iconst 0, 1) := by decide +kernel
theorem dX11_coasts_87 : decode cX11_coasts 87 = .ok (.ireturn, 1) := by decide +kernel
theorem dX11_coasts_88 : decode cX11_coasts 88 = .ok (.aload_n 0, 1) := by decide +kernel
theorem dX11_coasts_89 : decode cX11_coasts 89 = .ok (.getfield 59, 3) := by decide +kernel
theorem dX11_coasts_92 : decode cX11_coasts 92 = .ok (.getfield 252, 3) := by decide +kernel
theorem dX11_coasts_95 : decode cX11_coasts 95 = .ok (.ireturn, 1) := by decide +kernel
theorem dX11_coasts_96 : decode cX11_coasts 96 = .ok (.bipush (-2), 2) := by decide +kernel
theorem dX11_coasts_98 : decode cX11_coasts 98 = .ok (.ireturn, 1) := by decide +kernel
theorem dX11_cost_0 : decode cX11_cost 0 = .ok (.aload_n 0, 1) := by decide +kernel
theorem dX11_cost_1 : decode cX11_cost 1 = .ok (.getfield 27, 3) := by decide +kernel
theorem dX11_cost_4 : decode cX11_cost 4 = .ok (.iconst 2, 1) := by decide +kernel
theorem dX11_cost_5 : decode cX11_cost 5 = .ok (.iload_n 1, 1) := by decide +kernel
theorem dX11_cost_6 : decode cX11_cost 6 = .ok (.invokevirtual 189, 3) := by decide +kernel
theorem dX11_cost_9 : decode cX11_cost 9 = .ok (.ifCond .eq 10, 3) := by decide +kernel
theorem dX11_cost_12 : decode cX11_cost 12 = .ok (.iload_n 2, 1) := by decide +kernel
theorem dX11_cost_13 : decode cX11_cost 13 = .ok (.invokestatic 192, 3) := by decide +kernel
theorem dX11_cost_16 : decode cX11_cost 16 = .ok (.ifCond .ne 6, 3) := by decide +kernel
theorem dX11_cost_19 : decode cX11_cost 19 = .ok (.ldc 195, 2) := by decide +kernel
theorem dX11_cost_21 : decode cX11_cost 21 = .ok (.ireturn, 1) := by decide +kernel
theorem dX11_cost_22 : decode cX11_cost 22 = .ok (.aload_n 0, 1) := by decide +kernel
theorem dX11_cost_23 : decode cX11_cost 23 = .ok (.getfield 59, 3) := by decide +kernel
theorem dX11_cost_26 : decode cX11_cost 26 = .ok (.aload_n 0, 1) := by decide +kernel
theorem dX11_cost_27 : decode cX11_cost 27 = .ok (.getfield 27, 3) := by decide +kernel
theorem dX11_cost_30 : decode cX11_cost 30 = .ok (.aload_n 0, 1) := by decide +kernel
theorem dX11_cost_31 : decode cX11_cost 31 = .ok (.getfield 37, 3) := by decide +kernel
theorem dX11_cost_34 : decode cX11_cost 34 = .ok (.iload_n 2, 1) := by decide +kernel
theorem dX11_cost_35 : decode cX11_cost 35 = .ok (.invokevirtual 196, 3) := by decide +kernel
theorem dX11_cost_38 : decode cX11_cost 38 = .ok (.aload_n 0, 1) := by decide +kernel
theorem dX11_cost_39 : decode cX11_cost 39 = .ok (.getfield 59, 3) := by decide +kernel
theorem dX11_cost_42 : decode cX11_cost 42 = .ok (.getfield 200, 3) := by decide +kernel
theorem dX11_cost_45 : decode cX11_cost 45 = .ok (.istore_n 3, 1) := by decide +kernel
theorem dX11_cost_46 : decode cX11_cost 46 = .ok (.aload_n 0, 1) := by decide +kernel
theorem dX11_cost_47 : decode cX11_cost 47 = .ok (.getfield 27, 3) := by decide +kernel
theorem dX11_cost_50 : decode cX11_cost 50 = .ok (.iconst 2, 1) := by decide +kernel
theorem dX11_cost_51 : decode cX11_cost 51 = .ok (.iload_n 1, 1) := by decide +kernel
theorem dX11_cost_52 : decode cX11_cost 52 = .ok (.invokevirtual 189, 3) := by decide +kernel
theorem dX11_cost_55 : decode cX11_cost 55 = .ok (.istore 4, 2) := by decide +kernel
theorem dX11_cost_57 : decode cX11_cost 57 = .ok (.aload_n 0, 1) := by decide +kernel
theorem dX11_cost_58 : decode cX11_cost 58 = .ok (.getfield 27, 3) := by decide +kernel
theorem dX11_cost_61 : decode cX11_cost 61 = .ok (.iconst 2, 1) := by decide +kernel
theorem dX11_cost_62 : decode cX11_cost 62 = .ok (.iload_n 1, 1) := by decide +kernel
theorem dX11_cost_63 : decode cX11_cost 63 = .ok (.iconst 0, 1) := by decide +kernel
theorem dX11_cost_64 : decode cX11_cost 64 = .ok (.invokevirtual 203, 3) := by decide +kernel
theorem dX11_cost_67 : decode cX11_cost 67 = .ok (.aload_n 0, 1) := by decide +kernel
theorem dX11_cost_68 : decode cX11_cost 68 = .ok (.getfield 59, 3) := by decide +kernel
theorem dX11_cost_71 : decode cX11_cost 71 = .ok (.aload_n 0, 1) := by decide +kernel
theorem dX11_cost_72 : decode cX11_cost 72 = .ok (.getfield 27, 3) := by decide +kernel
theorem dX11_cost_75 : decode cX11_cost 75 = .ok (.aload_n 0, 1) := by decide +kernel
theorem dX11_cost_76 : decode cX11_cost 76 = .ok (.getfield 37, 3) := by decide +kernel
theorem dX11_cost_79 : decode cX11_cost 79 = .ok (.iload_n 2, 1) := by decide +kernel
theorem dX11_cost_80 : decode cX11_cost 80 = .ok (.invokevirtual 196, 3) := by decide +kernel
theorem dX11_cost_83 : decode cX11_cost 83 = .ok (.aload_n 0, 1) := by decide +kernel
theorem dX11_cost_84 : decode cX11_cost 84 = .ok (.getfield 27, 3) := by decide +kernel
theorem dX11_cost_87 : decode cX11_cost 87 = .ok (.iconst 2, 1) := by decide +kernel
theorem dX11_cost_88 : decode cX11_cost 88 = .ok (.iload_n 1, 1) := by decide +kernel
theorem dX11_cost_89 : decode cX11_cost 89 = .ok (.iload 4, 2) := by decide +kernel
theorem dX11_cost_91 : decode cX11_cost 91 = .ok (.invokevirtual 203, 3) := by decide +kernel
theorem dX11_cost_94 : decode cX11_cost 94 = .ok (.iload_n 3, 1) := by decide +kernel
theorem dX11_cost_95 : decode cX11_cost 95 = .ok (.aload_n 0, 1) := by decide +kernel
theorem dX11_cost_96 : decode cX11_cost 96 = .ok (.getfield 59, 3) := by decide +kernel
theorem dX11_cost_99 : decode cX11_cost 99 = .ok (.getfield 200, 3) := by decide +kernel
theorem dX11_cost_102 : decode cX11_cost 102 = .ok (.isub, 1) := by decide +kernel
theorem dX11_cost_103 : decode cX11_cost 103 = .ok (.ireturn, 1) := by decide +kernel
theorem dX11_count_0 : decode cX11_count 0 = .ok (.iload_n 1, 1) := by decide +kernel
theorem dX11_count_1 : decode cX11_count 1 = .ok (.ifCond .lt 24, 3) := by decide +kernel
theorem dX11_count_4 : decode cX11_count 4 = .ok (.iload_n 1, 1) := by decide +kernel
theorem dX11_count_5 : decode cX11_count 5 = .ok (.bipush 8, 2) := by decide +kernel
theorem dX11_count_7 : decode cX11_count 7 = .ok (.if_icmp .ge 18, 3) := by decide +kernel
theorem dX11_count_10 : decode cX11_count 10 = .ok (.aload_n 0, 1) := by decide +kernel
theorem dX11_count_11 : decode cX11_count 11 = .ok (.getfield 37, 3) := by decide +kernel
theorem dX11_count_14 : decode cX11_count 14 = .ok (.getfield 149, 3) := by decide +kernel
theorem dX11_count_17 : decode cX11_count 17 = .ok (.getfield 153, 3) := by decide +kernel
theorem dX11_count_20 : decode cX11_count 20 = .ok (.iload_n 1, 1) := by decide +kernel
theorem dX11_count_21 : decode cX11_count 21 = .ok (.iaload, 1) := by decide +kernel
theorem dX11_count_22 : decode cX11_count 22 = .ok (.goto 4, 3) := by decide +kernel
theorem dX11_count_25 : decode cX11_count 25 = .ok (.iconst (-1), 1) := by decide +kernel
theorem dX11_count_26 : decode cX11_count 26 = .ok (.ireturn, 1) := by decide +kernel
theorem dX11_due_0 : decode cX11_due 0 = .ok (.aload_n 0, 1) := by decide +kernel
theorem dX11_due_1 : decode cX11_due 1 = .ok (.getfield 59, 3) := by decide +kernel
theorem dX11_due_4 : decode cX11_due 4 = .ok (.aload_n 0, 1) := by decide +kernel
theorem dX11_due_5 : decode cX11_due 5 = .ok (.getfield 27, 3) := by decide +kernel
theorem dX11_due_8 : decode cX11_due 8 = .ok (.aload_n 0, 1) := by decide +kernel
theorem dX11_due_9 : decode cX11_due 9 = .ok (.getfield 37, 3) := by decide +kernel
theorem dX11_due_12 : decode cX11_due 12 = .ok (.iload_n 1, 1) := by decide +kernel
theorem dX11_due_13 : decode cX11_due 13 = .ok (.invokevirtual 185, 3) := by decide +kernel
theorem dX11_due_16 : decode cX11_due 16 = .ok (.ireturn, 1) := by decide +kernel
theorem dX11_end_0 : decode cX11_end 0 = .ok (.iload_n 1, 1) := by decide +kernel
theorem dX11_end_1 : decode cX11_end 1 = .ok (.ifCond .lt 11, 3) := by decide +kernel
theorem dX11_end_4 : decode cX11_end 4 = .ok (.iload_n 1, 1) := by decide +kernel
theorem dX11_end_5 : decode cX11_end 5 = .ok (.aload_n 0, 1) := by decide +kernel
theorem dX11_end_6 : decode cX11_end 6 = .ok (.getfield 13, 3) := by decide +kernel
theorem dX11_end_9 : decode cX11_end 9 = .ok (.if_icmp .le 5, 3) := by decide +kernel
theorem dX11_end_12 : decode cX11_end 12 = .ok (.iconst (-1), 1) := by decide +kernel
theorem dX11_end_13 : decode cX11_end 13 = .ok (.ireturn, 1) := by decide +kernel
theorem dX11_end_14 : decode cX11_end 14 = .ok (.aload_n 0, 1) := by decide +kernel
theorem dX11_end_15 : decode cX11_end 15 = .ok (.iload_n 1, 1) := by decide +kernel
theorem dX11_end_16 : decode cX11_end 16 = .ok (.putfield 13, 3) := by decide +kernel
theorem dX11_end_19 : decode cX11_end 19 = .ok (.iload_n 1, 1) := by decide +kernel
theorem dX11_end_20 : decode cX11_end 20 = .ok (.ireturn, 1) := by decide +kernel
theorem dX11_event_0 : decode cX11_event 0 = .ok (.aload_n 0, 1) := by decide +kernel
theorem dX11_event_1 : decode cX11_event 1 = .ok (.getfield 37, 3) := by decide +kernel
theorem dX11_event_4 : decode cX11_event 4 = .ok (.getfield 149, 3) := by decide +kernel
theorem dX11_event_7 : decode cX11_event 7 = .ok (.iload_n 1, 1) := by decide +kernel
theorem dX11_event_8 : decode cX11_event 8 = .ok (.iload_n 2, 1) := by decide +kernel
theorem dX11_event_9 : decode cX11_event 9 = .ok (.invokevirtual 236, 3) := by decide +kernel
theorem dX11_event_12 : decode cX11_event 12 = .ok (.ireturn, 1) := by decide +kernel
theorem dX11_fault_0 : decode cX11_fault 0 = .ok (.iload_n 1, 1) := by decide +kernel
theorem dX11_fault_1 : decode cX11_fault 1 = .ok (.ifCond .ne 11, 3) := by decide +kernel
theorem dX11_fault_4 : decode cX11_fault 4 = .ok (.aload_n 0, 1) := by decide +kernel
theorem dX11_fault_5 : decode cX11_fault 5 = .ok (.getfield 20, 3) := by decide +kernel
theorem dX11_fault_8 : decode cX11_fault 8 = .ok (.getfield 89, 3) := by decide +kernel
theorem dX11_fault_11 : decode cX11_fault 11 = .ok (.ireturn, 1) := by decide +kernel
theorem dX11_fault_12 : decode cX11_fault 12 = .ok (.iload_n 1, 1) := by decide +kernel
theorem dX11_fault_13 : decode cX11_fault 13 = .ok (.iconst 1, 1) := by decide +kernel
theorem dX11_fault_14 : decode cX11_fault 14 = .ok (.if_icmp .ne 13, 3) := by decide +kernel
theorem dX11_fault_17 : decode cX11_fault 17 = .ok (.aload_n 0, 1) := by decide +kernel
theorem dX11_fault_18 : decode cX11_fault 18 = .ok (.getfield 20, 3) := by decide +kernel
theorem dX11_fault_21 : decode cX11_fault 21 = .ok (.getfield 95, 3) := by decide +kernel
theorem dX11_fault_24 : decode cX11_fault 24 = .ok (.goto 4, 3) := by decide +kernel
theorem dX11_fault_27 : decode cX11_fault 27 = .ok (.iconst (-1), 1) := by decide +kernel
theorem dX11_fault_28 : decode cX11_fault 28 = .ok (.ireturn, 1) := by decide +kernel
theorem dX11_feed_0 : decode cX11_feed 0 = .ok (.aload_n 0, 1) := by decide +kernel
theorem dX11_feed_1 : decode cX11_feed 1 = .ok (.getfield 13, 3) := by decide +kernel
theorem dX11_feed_4 : decode cX11_feed 4 = .ok (.bipush 20, 2) := by decide +kernel
theorem dX11_feed_6 : decode cX11_feed 6 = .ok (.iadd, 1) := by decide +kernel
theorem dX11_feed_7 : decode cX11_feed 7 = .ok (.sipush 1600, 3) := by decide +kernel
theorem dX11_feed_10 : decode cX11_feed 10 = .ok (.if_icmp .le 5, 3) := by decide +kernel
theorem dX11_feed_13 : decode cX11_feed 13 = .ok (.iconst (-1), 1) := by decide +kernel
theorem dX11_feed_14 : decode cX11_feed 14 = .ok (.ireturn, 1) := by decide +kernel
theorem dX11_feed_15 : decode cX11_feed 15 = .ok (.aload_n 0, 1) := by decide +kernel
theorem dX11_feed_16 : decode cX11_feed 16 = .ok (.iload_n 1, 1) := by decide +kernel
theorem dX11_feed_17 : decode cX11_feed 17 = .ok (.invokevirtual 74, 3) := by decide +kernel
theorem dX11_feed_20 : decode cX11_feed 20 = .ok (.aload_n 0, 1) := by decide +kernel
theorem dX11_feed_21 : decode cX11_feed 21 = .ok (.iload_n 2, 1) := by decide +kernel
theorem dX11_feed_22 : decode cX11_feed 22 = .ok (.invokevirtual 74, 3) := by decide +kernel
theorem dX11_feed_25 : decode cX11_feed 25 = .ok (.aload_n 0, 1) := by decide +kernel
theorem dX11_feed_26 : decode cX11_feed 26 = .ok (.iload_n 3, 1) := by decide +kernel
theorem dX11_feed_27 : decode cX11_feed 27 = .ok (.invokevirtual 74, 3) := by decide +kernel
theorem dX11_feed_30 : decode cX11_feed 30 = .ok (.aload_n 0, 1) := by decide +kernel
theorem dX11_feed_31 : decode cX11_feed 31 = .ok (.iload 4, 2) := by decide +kernel
theorem dX11_feed_33 : decode cX11_feed 33 = .ok (.invokevirtual 74, 3) := by decide +kernel
theorem dX11_feed_36 : decode cX11_feed 36 = .ok (.aload_n 0, 1) := by decide +kernel
theorem dX11_feed_37 : decode cX11_feed 37 = .ok (.iload 5, 2) := by decide +kernel
theorem dX11_feed_39 : decode cX11_feed 39 = .ok (.invokevirtual 74, 3) := by decide +kernel
theorem dX11_feed_42 : decode cX11_feed 42 = .ok (.aload_n 0, 1) := by decide +kernel
theorem dX11_feed_43 : decode cX11_feed 43 = .ok (.getfield 13, 3) := by decide +kernel
theorem dX11_feed_46 : decode cX11_feed 46 = .ok (.ireturn, 1) := by decide +kernel
theorem dX11_free_0 : decode cX11_free 0 = .ok (.aload_n 0, 1) := by decide +kernel
theorem dX11_free_1 : decode cX11_free 1 = .ok (.getfield 27, 3) := by decide +kernel
theorem dX11_free_4 : decode cX11_free 4 = .ok (.iload_n 1, 1) := by decide +kernel
theorem dX11_free_5 : decode cX11_free 5 = .ok (.invokevirtual 109, 3) := by decide +kernel
theorem dX11_free_8 : decode cX11_free 8 = .ok (.ifCond .eq 18, 3) := by decide +kernel
theorem dX11_free_11 : decode cX11_free 11 = .ok (.aload_n 0, 1) := by decide +kernel
theorem dX11_free_12 : decode cX11_free 12 = .ok (.getfield 37, 3) := by decide +kernel
theorem dX11_free_15 : decode cX11_free 15 = .ok (.getfield 113, 3) := by decide +kernel
theorem dX11_free_18 : decode cX11_free 18 = .ok (.iload_n 1, 1) := by decide +kernel
theorem dX11_free_19 : decode cX11_free 19 = .ok (.aaload, 1) := by decide +kernel
theorem dX11_free_20 : decode cX11_free 20 = .ok (.getfield 125, 3) := by decide +kernel
theorem dX11_free_23 : decode cX11_free 23 = .ok (.ifCond .ne 5, 3) := by decide +kernel
theorem dX11_free_26 : decode cX11_free 26 = .ok (.iconst 0, 1) := by decide +kernel
theorem dX11_free_27 : decode cX11_free 27 = .ok (.ireturn, 1) := by decide +kernel
theorem dX11_free_28 : decode cX11_free 28 = .ok (.aload_n 0, 1) := by decide +kernel
theorem dX11_free_29 : decode cX11_free 29 = .ok (.getfield 37, 3) := by decide +kernel
theorem dX11_free_32 : decode cX11_free 32 = .ok (.getfield 113, 3) := by decide +kernel
theorem dX11_free_35 : decode cX11_free 35 = .ok (.iload_n 1, 1) := by decide +kernel
theorem dX11_free_36 : decode cX11_free 36 = .ok (.aaload, 1) := by decide +kernel
theorem dX11_free_37 : decode cX11_free 37 = .ok (.iconst 0, 1) := by decide +kernel
theorem dX11_free_38 : decode cX11_free 38 = .ok (.putfield 125, 3) := by decide +kernel
theorem dX11_free_41 : decode cX11_free 41 = .ok (.iconst 1, 1) := by decide +kernel
theorem dX11_free_42 : decode cX11_free 42 = .ok (.ireturn, 1) := by decide +kernel
theorem dX11_halt_0 : decode cX11_halt 0 = .ok (.iload_n 1, 1) := by decide +kernel
theorem dX11_halt_1 : decode cX11_halt 1 = .ok (.iconst 1, 1) := by decide +kernel
theorem dX11_halt_2 : decode cX11_halt 2 = .ok (.if_icmp .lt 9, 3) := by decide +kernel
theorem dX11_halt_5 : decode cX11_halt 5 = .ok (.iload_n 1, 1) := by decide +kernel
theorem dX11_halt_6 : decode cX11_halt 6 = .ok (.bipush 99, 2) := by decide +kernel
theorem dX11_halt_8 : decode cX11_halt 8 = .ok (.if_icmp .le 5, 3) := by decide +kernel
theorem dX11_halt_11 : decode cX11_halt 11 = .ok (.iconst (-1), 1) := by decide +kernel
theorem dX11_halt_12 : decode cX11_halt 12 = .ok (.ireturn, 1) := by decide +kernel
theorem dX11_halt_13 : decode cX11_halt 13 = .ok (.iconst 0, 1) := by decide +kernel
theorem dX11_halt_14 : decode cX11_halt 14 = .ok (.istore_n 2, 1) := by decide +kernel
theorem dX11_halt_15 : decode cX11_halt 15 = .ok (.iconst 0, 1) := by decide +kernel
theorem dX11_halt_16 : decode cX11_halt 16 = .ok (.istore_n 3, 1) := by decide +kernel
theorem dX11_halt_17 : decode cX11_halt 17 = .ok (.iload_n 3, 1) := by decide +kernel
theorem dX11_halt_18 : decode cX11_halt 18 = .ok (.aload_n 0, 1) := by decide +kernel
theorem dX11_halt_19 : decode cX11_halt 19 = .ok (.getfield 27, 3) := by decide +kernel
theorem dX11_halt_22 : decode cX11_halt 22 = .ok (.getfield 207, 3) := by decide +kernel
theorem dX11_halt_25 : decode cX11_halt 25 = .ok (.if_icmp .ge 46, 3) := by decide +kernel
theorem dX11_halt_28 : decode cX11_halt 28 = .ok (.aload_n 0, 1) := by decide +kernel
theorem dX11_halt_29 : decode cX11_halt 29 = .ok (.getfield 37, 3) := by decide +kernel
theorem dX11_halt_32 : decode cX11_halt 32 = .ok (.getfield 113, 3) := by decide +kernel
theorem dX11_halt_35 : decode cX11_halt 35 = .ok (.iload_n 3, 1) := by decide +kernel
theorem dX11_halt_36 : decode cX11_halt 36 = .ok (.aaload, 1) := by decide +kernel
theorem dX11_halt_37 : decode cX11_halt 37 = .ok (.astore 4, 2) := by decide +kernel
theorem dX11_halt_39 : decode cX11_halt 39 = .ok (.aload 4, 2) := by decide +kernel
theorem dX11_halt_41 : decode cX11_halt 41 = .ok (.getfield 122, 3) := by decide +kernel
theorem dX11_halt_44 : decode cX11_halt 44 = .ok (.iconst 3, 1) := by decide +kernel
theorem dX11_halt_45 : decode cX11_halt 45 = .ok (.if_icmp .eq 20, 3) := by decide +kernel
theorem dX11_halt_48 : decode cX11_halt 48 = .ok (.aload 4, 2) := by decide +kernel
theorem dX11_halt_50 : decode cX11_halt 50 = .ok (.getfield 125, 3) := by decide +kernel
theorem dX11_halt_53 : decode cX11_halt 53 = .ok (.ifCond .ne 12, 3) := by decide +kernel
theorem dX11_halt_56 : decode cX11_halt 56 = .ok (.aload 4, 2) := by decide +kernel
theorem dX11_halt_58 : decode cX11_halt 58 = .ok (.iload_n 1, 1) := by decide +kernel
theorem dX11_halt_59 : decode cX11_halt 59 = .ok (.invokevirtual 209, 3) := by decide +kernel
theorem dX11_halt_62 : decode cX11_halt 62 = .ok (.iinc 2 1, 3) := by decide +kernel
theorem dX11_halt_65 : decode cX11_halt 65 = .ok (.iinc 3 1, 3) := by decide +kernel
theorem dX11_halt_68 : decode cX11_halt 68 = .ok (.goto (-51), 3) := by decide +kernel
theorem dX11_halt_71 : decode cX11_halt 71 = .ok (.iload_n 2, 1) := by decide +kernel
theorem dX11_halt_72 : decode cX11_halt 72 = .ok (.ireturn, 1) := by decide +kernel
theorem dX11_head_0 : decode cX11_head 0 = .ok (.iload_n 1, 1) := by decide +kernel
theorem dX11_head_1 : decode cX11_head 1 = .ok (.invokestatic 192, 3) := by decide +kernel
theorem dX11_head_4 : decode cX11_head 4 = .ok (.ifCond .eq 24, 3) := by decide +kernel
theorem dX11_head_7 : decode cX11_head 7 = .ok (.aload_n 0, 1) := by decide +kernel
theorem dX11_head_8 : decode cX11_head 8 = .ok (.getfield 59, 3) := by decide +kernel
theorem dX11_head_11 : decode cX11_head 11 = .ok (.aload_n 0, 1) := by decide +kernel
theorem dX11_head_12 : decode cX11_head 12 = .ok (.getfield 27, 3) := by decide +kernel
theorem dX11_head_15 : decode cX11_head 15 = .ok (.aload_n 0, 1) := by decide +kernel
theorem dX11_head_16 : decode cX11_head 16 = .ok (.getfield 37, 3) := by decide +kernel
theorem dX11_head_19 : decode cX11_head 19 = .ok (.iconst (-1), 1) := by decide +kernel
theorem dX11_head_20 : decode cX11_head 20 = .ok (.iconst 0, 1) := by decide +kernel
theorem dX11_head_21 : decode cX11_head 21 = .ok (.iload_n 1, 1) := by decide +kernel
theorem dX11_head_22 : decode cX11_head 22 = .ok (.invokevirtual 262, 3) := by decide +kernel
theorem dX11_head_25 : decode cX11_head 25 = .ok (.goto 4, 3) := by decide +kernel
theorem dX11_head_28 : decode cX11_head 28 = .ok (.iconst (-1), 1) := by decide +kernel
theorem dX11_head_29 : decode cX11_head 29 = .ok (.ireturn, 1) := by decide +kernel
theorem dX11_image_0 : decode cX11_image 0 = .ok (.iload_n 1, 1) := by decide +kernel
theorem dX11_image_1 : decode cX11_image 1 = .ok (.ifCond .lt 8, 3) := by decide +kernel
theorem dX11_image_4 : decode cX11_image 4 = .ok (.iload_n 1, 1) := by decide +kernel
theorem dX11_image_5 : decode cX11_image 5 = .ok (.iconst 3, 1) := by decide +kernel
theorem dX11_image_6 : decode cX11_image 6 = .ok (.if_icmp .lt 5, 3) := by decide +kernel
theorem dX11_image_9 : decode cX11_image 9 = .ok (.iconst (-1), 1) := by decide +kernel
theorem dX11_image_10 : decode cX11_image 10 = .ok (.ireturn, 1) := by decide +kernel
theorem dX11_image_11 : decode cX11_image 11 = .ok (.aload_n 0, 1) := by decide +kernel
theorem dX11_image_12 : decode cX11_image 12 = .ok (.getfield 41, 3) := by decide +kernel
theorem dX11_image_15 : decode cX11_image 15 = .ok (.iload_n 1, 1) := by decide +kernel
theorem dX11_image_16 : decode cX11_image 16 = .ok (.aaload, 1) := by decide +kernel
theorem dX11_image_17 : decode cX11_image 17 = .ok (.aload_n 0, 1) := by decide +kernel
theorem dX11_image_18 : decode cX11_image 18 = .ok (.getfield 37, 3) := by decide +kernel
theorem dX11_image_21 : decode cX11_image 21 = .ok (.invokevirtual 319, 3) := by decide +kernel
theorem dX11_image_24 : decode cX11_image 24 = .ok (.aload_n 0, 1) := by decide +kernel
theorem dX11_image_25 : decode cX11_image 25 = .ok (.getfield 45, 3) := by decide +kernel
theorem dX11_image_28 : decode cX11_image 28 = .ok (.iload_n 1, 1) := by decide +kernel
theorem dX11_image_29 : decode cX11_image 29 = .ok (.iconst 1, 1) := by decide +kernel
theorem dX11_image_30 : decode cX11_image 30 = .ok (.bastore, 1) := by decide +kernel
theorem dX11_image_31 : decode cX11_image 31 = .ok (.aload_n 0, 1) := by decide +kernel
theorem dX11_image_32 : decode cX11_image 32 = .ok (.getfield 37, 3) := by decide +kernel
theorem dX11_image_35 : decode cX11_image 35 = .ok (.getfield 98, 3) := by decide +kernel
theorem dX11_image_38 : decode cX11_image 38 = .ok (.ireturn, 1) := by decide +kernel
theorem dX11_isAhead_0 : decode cX11_isAhead 0 = .ok (.iload_n 0, 1) := by decide +kernel
theorem dX11_isAhead_1 : decode cX11_isAhead 1 = .ok (.iconst 1, 1) := by decide +kernel
theorem dX11_isAhead_2 : decode cX11_isAhead 2 = .ok (.if_icmp .lt 14, 3) := by decide +kernel
theorem dX11_isAhead_5 : decode cX11_isAhead 5 = .ok (.iload_n 0, 1) := by decide +kernel
theorem dX11_isAhead_6 : decode cX11_isAhead 6 = .ok (.sipush 300, 3) := by decide +kernel
theorem dX11_isAhead_9 : decode cX11_isAhead 9 = .ok (.if_icmp .gt 7, 3) := by decide +kernel
theorem dX11_isAhead_12 : decode cX11_isAhead 12 = .ok (.iconst 1, 1) := by decide +kernel
theorem dX11_isAhead_13 : decode cX11_isAhead 13 = .ok (.goto 4, 3) := by decide +kernel
theorem dX11_isAhead_16 : decode cX11_isAhead 16 = .ok (.iconst 0, 1) := by decide +kernel
theorem dX11_isAhead_17 : decode cX11_isAhead 17 = .ok (.ireturn, 1) := by decide +kernel
theorem dX11_judge_0 : decode cX11_judge 0 = .ok (.iload_n 1, 1) := by decide +kernel
theorem dX11_judge_1 : decode cX11_judge 1 = .ok (.ifCond .lt 8, 3) := by decide +kernel
theorem dX11_judge_4 : decode cX11_judge 4 = .ok (.iload_n 1, 1) := by decide +kernel
theorem dX11_judge_5 : decode cX11_judge 5 = .ok (.iconst 1, 1) := by decide +kernel
theorem dX11_judge_6 : decode cX11_judge 6 = .ok (.if_icmp .le 5, 3) := by decide +kernel
theorem dX11_judge_9 : decode cX11_judge 9 = .ok (.iconst (-1), 1) := by decide +kernel
theorem dX11_judge_10 : decode cX11_judge 10 = .ok (.ireturn, 1) := by decide +kernel
theorem dX11_judge_11 : decode cX11_judge 11 = .ok (.aload_n 0, 1) := by decide +kernel
theorem dX11_judge_12 : decode cX11_judge 12 = .ok (.getfield 66, 3) := by decide +kernel
theorem dX11_judge_15 : decode cX11_judge 15 = .ok (.getfield 300, 3) := by decide +kernel
theorem dX11_judge_18 : decode cX11_judge 18 = .ok (.ifCond .ne 29, 3) := by decide +kernel
theorem dX11_judge_21 : decode cX11_judge 21 = .ok (.aload_n 0, 1) := by decide +kernel
theorem dX11_judge_22 : decode cX11_judge 22 = .ok (.getfield 59, 3) := by decide +kernel
theorem dX11_judge_25 : decode cX11_judge 25 = .ok (.aload_n 0, 1) := by decide +kernel
theorem dX11_judge_26 : decode cX11_judge 26 = .ok (.getfield 27, 3) := by decide +kernel
theorem dX11_judge_29 : decode cX11_judge 29 = .ok (.aload_n 0, 1) := by decide +kernel
theorem dX11_judge_30 : decode cX11_judge 30 = .ok (.getfield 66, 3) := by decide +kernel
theorem dX11_judge_33 : decode cX11_judge 33 = .ok (.getfield 303, 3) := by decide +kernel
theorem dX11_judge_36 : decode cX11_judge 36 = .ok (.invokevirtual 306, 3) := by decide +kernel
theorem dX11_judge_39 : decode cX11_judge 39 = .ok (.aload_n 0, 1) := by decide +kernel
theorem dX11_judge_40 : decode cX11_judge 40 = .ok (.getfield 66, 3) := by decide +kernel
theorem dX11_judge_43 : decode cX11_judge 43 = .ok (.iconst 1, 1) := by decide +kernel
theorem dX11_judge_44 : decode cX11_judge 44 = .ok (.putfield 300, 3) := by decide +kernel
theorem dX11_judge_47 : decode cX11_judge 47 = .ok (.iload_n 1, 1) := by decide +kernel
theorem dX11_judge_48 : decode cX11_judge 48 = .ok (.ifCond .ne 14, 3) := by decide +kernel
theorem dX11_judge_51 : decode cX11_judge 51 = .ok (.aload_n 0, 1) := by decide +kernel
theorem dX11_judge_52 : decode cX11_judge 52 = .ok (.getfield 66, 3) := by decide +kernel
theorem dX11_judge_55 : decode cX11_judge 55 = .ok (.iload_n 2, 1) := by decide +kernel
theorem dX11_judge_56 : decode cX11_judge 56 = .ok (.invokevirtual 310, 3) := by decide +kernel
theorem dX11_judge_59 : decode cX11_judge 59 = .ok (.goto 11, 3) := by decide +kernel
theorem dX11_judge_62 : decode cX11_judge 62 = .ok (.aload_n 0, 1) := by decide +kernel
theorem dX11_judge_63 : decode cX11_judge 63 = .ok (.getfield 66, 3) := by decide +kernel
theorem dX11_judge_66 : decode cX11_judge 66 = .ok (.iload_n 2, 1) := by decide +kernel
theorem dX11_judge_67 : decode cX11_judge 67 = .ok (.invokevirtual 313, 3) := by decide +kernel
theorem dX11_judge_70 : decode cX11_judge 70 = .ok (.ireturn, 1) := by decide +kernel
theorem dX11_later_0 : decode cX11_later 0 = .ok (.iload_n 1, 1) := by decide +kernel
theorem dX11_later_1 : decode cX11_later 1 = .ok (.ifCond .lt 24, 3) := by decide +kernel
theorem dX11_later_4 : decode cX11_later 4 = .ok (.iload_n 1, 1) := by decide +kernel
theorem dX11_later_5 : decode cX11_later 5 = .ok (.sipush 1000, 3) := by decide +kernel
theorem dX11_later_8 : decode cX11_later 8 = .ok (.if_icmp .gt 17, 3) := by decide +kernel
theorem dX11_later_11 : decode cX11_later 11 = .ok (.aload_n 0, 1) := by decide +kernel
theorem dX11_later_12 : decode cX11_later 12 = .ok (.getfield 66, 3) := by decide +kernel
theorem dX11_later_15 : decode cX11_later 15 = .ok (.getfield 297, 3) := by decide +kernel
theorem dX11_later_18 : decode cX11_later 18 = .ok (.iload_n 1, 1) := by decide +kernel
theorem dX11_later_19 : decode cX11_later 19 = .ok (.iadd, 1) := by decide +kernel
theorem dX11_later_20 : decode cX11_later 20 = .ok (.ldc 101, 2) := by decide +kernel
theorem dX11_later_22 : decode cX11_later 22 = .ok (.if_icmp .le 5, 3) := by decide +kernel
theorem dX11_later_25 : decode cX11_later 25 = .ok (.iconst (-1), 1) := by decide +kernel
theorem dX11_later_26 : decode cX11_later 26 = .ok (.ireturn, 1) := by decide +kernel
theorem dX11_later_27 : decode cX11_later 27 = .ok (.aload_n 0, 1) := by decide +kernel
theorem dX11_later_28 : decode cX11_later 28 = .ok (.getfield 66, 3) := by decide +kernel
theorem dX11_later_31 : decode cX11_later 31 = .ok (.dup, 1) := by decide +kernel
theorem dX11_later_32 : decode cX11_later 32 = .ok (.getfield 297, 3) := by decide +kernel
theorem dX11_later_35 : decode cX11_later 35 = .ok (.iload_n 1, 1) := by decide +kernel
theorem dX11_later_36 : decode cX11_later 36 = .ok (.iadd, 1) := by decide +kernel
theorem dX11_later_37 : decode cX11_later 37 = .ok (.putfield 297, 3) := by decide +kernel
theorem dX11_later_40 : decode cX11_later 40 = .ok (.aload_n 0, 1) := by decide +kernel
theorem dX11_later_41 : decode cX11_later 41 = .ok (.getfield 66, 3) := by decide +kernel
theorem dX11_later_44 : decode cX11_later 44 = .ok (.getfield 297, 3) := by decide +kernel
theorem dX11_later_47 : decode cX11_later 47 = .ok (.ireturn, 1) := by decide +kernel
theorem dX11_log_0 : decode cX11_log 0 = .ok (.aload_n 0, 1) := by decide +kernel
theorem dX11_log_1 : decode cX11_log 1 = .ok (.getfield 27, 3) := by decide +kernel
theorem dX11_log_4 : decode cX11_log 4 = .ok (.iload_n 1, 1) := by decide +kernel
theorem dX11_log_5 : decode cX11_log 5 = .ok (.invokevirtual 109, 3) := by decide +kernel
theorem dX11_log_8 : decode cX11_log 8 = .ok (.ifCond .eq 22, 3) := by decide +kernel
theorem dX11_log_11 : decode cX11_log 11 = .ok (.iload_n 2, 1) := by decide +kernel
theorem dX11_log_12 : decode cX11_log 12 = .ok (.iconst 1, 1) := by decide +kernel
theorem dX11_log_13 : decode cX11_log 13 = .ok (.if_icmp .lt 17, 3) := by decide +kernel
theorem dX11_log_16 : decode cX11_log 16 = .ok (.iload_n 2, 1) := by decide +kernel
theorem dX11_log_17 : decode cX11_log 17 = .ok (.sipush 200, 3) := by decide +kernel
theorem dX11_log_20 : decode cX11_log 20 = .ok (.if_icmp .gt 10, 3) := by decide +kernel
theorem dX11_log_23 : decode cX11_log 23 = .ok (.iload_n 3, 1) := by decide +kernel
theorem dX11_log_24 : decode cX11_log 24 = .ok (.invokestatic 239, 3) := by decide +kernel
theorem dX11_log_27 : decode cX11_log 27 = .ok (.ifCond .ne 5, 3) := by decide +kernel
theorem dX11_log_30 : decode cX11_log 30 = .ok (.iconst (-1), 1) := by decide +kernel
theorem dX11_log_31 : decode cX11_log 31 = .ok (.ireturn, 1) := by decide +kernel
theorem dX11_log_32 : decode cX11_log 32 = .ok (.aload_n 0, 1) := by decide +kernel
theorem dX11_log_33 : decode cX11_log 33 = .ok (.getfield 66, 3) := by decide +kernel
theorem dX11_log_36 : decode cX11_log 36 = .ok (.iload_n 1, 1) := by decide +kernel
theorem dX11_log_37 : decode cX11_log 37 = .ok (.iload_n 2, 1) := by decide +kernel
theorem dX11_log_38 : decode cX11_log 38 = .ok (.iload_n 3, 1) := by decide +kernel
theorem dX11_log_39 : decode cX11_log 39 = .ok (.invokevirtual 291, 3) := by decide +kernel
theorem dX11_log_42 : decode cX11_log 42 = .ok (.ireturn, 1) := by decide +kernel
theorem dX11_logged_0 : decode cX11_logged 0 = .ok (.aload_n 0, 1) := by decide +kernel
theorem dX11_logged_1 : decode cX11_logged 1 = .ok (.getfield 27, 3) := by decide +kernel
theorem dX11_logged_4 : decode cX11_logged 4 = .ok (.iload_n 1, 1) := by decide +kernel
theorem dX11_logged_5 : decode cX11_logged 5 = .ok (.invokevirtual 109, 3) := by decide +kernel
theorem dX11_logged_8 : decode cX11_logged 8 = .ok (.ifCond .eq 15, 3) := by decide +kernel
theorem dX11_logged_11 : decode cX11_logged 11 = .ok (.aload_n 0, 1) := by decide +kernel
theorem dX11_logged_12 : decode cX11_logged 12 = .ok (.getfield 66, 3) := by decide +kernel
theorem dX11_logged_15 : decode cX11_logged 15 = .ok (.iload_n 1, 1) := by decide +kernel
theorem dX11_logged_16 : decode cX11_logged 16 = .ok (.iload_n 2, 1) := by decide +kernel
theorem dX11_logged_17 : decode cX11_logged 17 = .ok (.invokevirtual 316, 3) := by decide +kernel
theorem dX11_logged_20 : decode cX11_logged 20 = .ok (.goto 6, 3) := by decide +kernel
theorem dX11_logged_23 : decode cX11_logged 23 = .ok (.sipush (-1000), 3) := by decide +kernel
theorem dX11_logged_26 : decode cX11_logged 26 = .ok (.ireturn, 1) := by decide +kernel
theorem dX11_need_0 : decode cX11_need 0 = .ok (.iload_n 1, 1) := by decide +kernel
theorem dX11_need_1 : decode cX11_need 1 = .ok (.invokestatic 239, 3) := by decide +kernel
theorem dX11_need_4 : decode cX11_need 4 = .ok (.ifCond .eq 18, 3) := by decide +kernel
theorem dX11_need_7 : decode cX11_need 7 = .ok (.aload_n 0, 1) := by decide +kernel
theorem dX11_need_8 : decode cX11_need 8 = .ok (.getfield 59, 3) := by decide +kernel
theorem dX11_need_11 : decode cX11_need 11 = .ok (.aload_n 0, 1) := by decide +kernel
theorem dX11_need_12 : decode cX11_need 12 = .ok (.getfield 27, 3) := by decide +kernel
theorem dX11_need_15 : decode cX11_need 15 = .ok (.iload_n 1, 1) := by decide +kernel
theorem dX11_need_16 : decode cX11_need 16 = .ok (.invokevirtual 255, 3) := by decide +kernel
theorem dX11_need_19 : decode cX11_need 19 = .ok (.goto 4, 3) := by decide +kernel
theorem dX11_need_22 : decode cX11_need 22 = .ok (.iconst (-1), 1) := by decide +kernel
theorem dX11_need_23 : decode cX11_need 23 = .ok (.ireturn, 1) := by decide +kernel
theorem dX11_order_0 : decode cX11_order 0 = .ok (.iconst 0, 1) := by decide +kernel
theorem dX11_order_1 : decode cX11_order 1 = .ok (.istore_n 2, 1) := by decide +kernel
theorem dX11_order_2 : decode cX11_order 2 = .ok (.iload_n 2, 1) := by decide +kernel
theorem dX11_order_3 : decode cX11_order 3 = .ok (.aload_n 0, 1) := by decide +kernel
theorem dX11_order_4 : decode cX11_order 4 = .ok (.getfield 27, 3) := by decide +kernel
theorem dX11_order_7 : decode cX11_order 7 = .ok (.getfield 207, 3) := by decide +kernel
theorem dX11_order_10 : decode cX11_order 10 = .ok (.if_icmp .ge 36, 3) := by decide +kernel
theorem dX11_order_13 : decode cX11_order 13 = .ok (.aload_n 0, 1) := by decide +kernel
theorem dX11_order_14 : decode cX11_order 14 = .ok (.getfield 37, 3) := by decide +kernel
theorem dX11_order_17 : decode cX11_order 17 = .ok (.getfield 113, 3) := by decide +kernel
theorem dX11_order_20 : decode cX11_order 20 = .ok (.iload_n 2, 1) := by decide +kernel
theorem dX11_order_21 : decode cX11_order 21 = .ok (.aaload, 1) := by decide +kernel
theorem dX11_order_22 : decode cX11_order 22 = .ok (.getfield 122, 3) := by decide +kernel
theorem dX11_order_25 : decode cX11_order 25 = .ok (.iconst 3, 1) := by decide +kernel
theorem dX11_order_26 : decode cX11_order 26 = .ok (.if_icmp .eq 14, 3) := by decide +kernel
theorem dX11_order_29 : decode cX11_order 29 = .ok (.aload_n 0, 1) := by decide +kernel
theorem dX11_order_30 : decode cX11_order 30 = .ok (.iload_n 2, 1) := by decide +kernel
theorem dX11_order_31 : decode cX11_order 31 = .ok (.invokevirtual 272, 3) := by decide +kernel
theorem dX11_order_34 : decode cX11_order 34 = .ok (.iload_n 1, 1) := by decide +kernel
theorem dX11_order_35 : decode cX11_order 35 = .ok (.if_icmp .ne 5, 3) := by decide +kernel
theorem dX11_order_38 : decode cX11_order 38 = .ok (.iload_n 2, 1) := by decide +kernel
theorem dX11_order_39 : decode cX11_order 39 = .ok (.ireturn, 1) := by decide +kernel
theorem dX11_order_40 : decode cX11_order 40 = .ok (.iinc 2 1, 3) := by decide +kernel
theorem dX11_order_43 : decode cX11_order 43 = .ok (.goto (-41), 3) := by decide +kernel
theorem dX11_order_46 : decode cX11_order 46 = .ok (.iconst (-1), 1) := by decide +kernel
theorem dX11_order_47 : decode cX11_order 47 = .ok (.ireturn, 1) := by decide +kernel
theorem dX11_power_0 : decode cX11_power 0 = .ok (.iload_n 1, 1) := by decide +kernel
theorem dX11_power_1 : decode cX11_power 1 = .ok (.invokestatic 192, 3) := by decide +kernel
theorem dX11_power_4 : decode cX11_power 4 = .ok (.ifCond .eq 12, 3) := by decide +kernel
theorem dX11_power_7 : decode cX11_power 7 = .ok (.iload_n 2, 1) := by decide +kernel
theorem dX11_power_8 : decode cX11_power 8 = .ok (.ifCond .lt 8, 3) := by decide +kernel
theorem dX11_power_11 : decode cX11_power 11 = .ok (.iload_n 2, 1) := by decide +kernel
theorem dX11_power_12 : decode cX11_power 12 = .ok (.iconst 1, 1) := by decide +kernel
theorem dX11_power_13 : decode cX11_power 13 = .ok (.if_icmp .le 5, 3) := by decide +kernel
theorem dX11_power_16 : decode cX11_power 16 = .ok (.iconst (-1), 1) := by decide +kernel
theorem dX11_power_17 : decode cX11_power 17 = .ok (.ireturn, 1) := by decide +kernel
theorem dX11_power_18 : decode cX11_power 18 = .ok (.aload_n 0, 1) := by decide +kernel
theorem dX11_power_19 : decode cX11_power 19 = .ok (.getfield 59, 3) := by decide +kernel
theorem dX11_power_22 : decode cX11_power 22 = .ok (.aload_n 0, 1) := by decide +kernel
theorem dX11_power_23 : decode cX11_power 23 = .ok (.getfield 27, 3) := by decide +kernel
theorem dX11_power_26 : decode cX11_power 26 = .ok (.aload_n 0, 1) := by decide +kernel
theorem dX11_power_27 : decode cX11_power 27 = .ok (.getfield 37, 3) := by decide +kernel
theorem dX11_power_30 : decode cX11_power 30 = .ok (.iload_n 1, 1) := by decide +kernel
theorem dX11_power_31 : decode cX11_power 31 = .ok (.invokevirtual 196, 3) := by decide +kernel
theorem dX11_power_34 : decode cX11_power 34 = .ok (.iload_n 2, 1) := by decide +kernel
theorem dX11_power_35 : decode cX11_power 35 = .ok (.ifCond .ne 13, 3) := by decide +kernel
theorem dX11_power_38 : decode cX11_power 38 = .ok (.aload_n 0, 1) := by decide +kernel
theorem dX11_power_39 : decode cX11_power 39 = .ok (.getfield 59, 3) := by decide +kernel
theorem dX11_power_42 : decode cX11_power 42 = .ok (.getfield 200, 3) := by decide +kernel
theorem dX11_power_45 : decode cX11_power 45 = .ok (.goto 10, 3) := by decide +kernel
theorem dX11_power_48 : decode cX11_power 48 = .ok (.aload_n 0, 1) := by decide +kernel
theorem dX11_power_49 : decode cX11_power 49 = .ok (.getfield 59, 3) := by decide +kernel
theorem dX11_power_52 : decode cX11_power 52 = .ok (.getfield 266, 3) := by decide +kernel
theorem dX11_power_55 : decode cX11_power 55 = .ok (.ireturn, 1) := by decide +kernel
theorem dX11_putBytes_0 : decode cX11_putBytes 0 = .ok (.bipush 24, 2) := by decide +kernel
theorem dX11_putBytes_2 : decode cX11_putBytes 2 = .ok (.istore_n 2, 1) := by decide +kernel
theorem dX11_putBytes_3 : decode cX11_putBytes 3 = .ok (.iload_n 2, 1) := by decide +kernel
theorem dX11_putBytes_4 : decode cX11_putBytes 4 = .ok (.ifCond .lt 42, 3) := by decide +kernel
theorem dX11_putBytes_7 : decode cX11_putBytes 7 = .ok (.aload_n 0, 1) := by decide +kernel
theorem dX11_putBytes_8 : decode cX11_putBytes 8 = .ok (.getfield 13, 3) := by decide +kernel
theorem dX11_putBytes_11 : decode cX11_putBytes 11 = .ok (.sipush 1600, 3) := by decide +kernel
theorem dX11_putBytes_14 : decode cX11_putBytes 14 = .ok (.if_icmp .ge 32, 3) := by decide +kernel
theorem dX11_putBytes_17 : decode cX11_putBytes 17 = .ok (.aload_n 0, 1) := by decide +kernel
theorem dX11_putBytes_18 : decode cX11_putBytes 18 = .ok (.getfield 9, 3) := by decide +kernel
theorem dX11_putBytes_21 : decode cX11_putBytes 21 = .ok (.aload_n 0, 1) := by decide +kernel
theorem dX11_putBytes_22 : decode cX11_putBytes 22 = .ok (.getfield 13, 3) := by decide +kernel
theorem dX11_putBytes_25 : decode cX11_putBytes 25 = .ok (.iload_n 1, 1) := by decide +kernel
theorem dX11_putBytes_26 : decode cX11_putBytes 26 = .ok (.iload_n 2, 1) := by decide +kernel
theorem dX11_putBytes_27 : decode cX11_putBytes 27 = .ok (.iushr, 1) := by decide +kernel
theorem dX11_putBytes_28 : decode cX11_putBytes 28 = .ok (.i2b, 1) := by decide +kernel
theorem dX11_putBytes_29 : decode cX11_putBytes 29 = .ok (.bastore, 1) := by decide +kernel
theorem dX11_putBytes_30 : decode cX11_putBytes 30 = .ok (.aload_n 0, 1) := by decide +kernel
theorem dX11_putBytes_31 : decode cX11_putBytes 31 = .ok (.dup, 1) := by decide +kernel
theorem dX11_putBytes_32 : decode cX11_putBytes 32 = .ok (.getfield 13, 3) := by decide +kernel
theorem dX11_putBytes_35 : decode cX11_putBytes 35 = .ok (.iconst 1, 1) := by decide +kernel
theorem dX11_putBytes_36 : decode cX11_putBytes 36 = .ok (.iadd, 1) := by decide +kernel
theorem dX11_putBytes_37 : decode cX11_putBytes 37 = .ok (.putfield 13, 3) := by decide +kernel
theorem dX11_putBytes_40 : decode cX11_putBytes 40 = .ok (.iinc 2 (-8), 3) := by decide +kernel
theorem dX11_putBytes_43 : decode cX11_putBytes 43 = .ok (.goto (-40), 3) := by decide +kernel
theorem dX11_putBytes_46 : decode cX11_putBytes 46 = .ok (.return_, 1) := by decide +kernel
theorem dX11_rolls_0 : decode cX11_rolls 0 = .ok (.iconst 0, 1) := by decide +kernel
theorem dX11_rolls_1 : decode cX11_rolls 1 = .ok (.istore_n 1, 1) := by decide +kernel
theorem dX11_rolls_2 : decode cX11_rolls 2 = .ok (.iconst 0, 1) := by decide +kernel
theorem dX11_rolls_3 : decode cX11_rolls 3 = .ok (.istore_n 2, 1) := by decide +kernel
theorem dX11_rolls_4 : decode cX11_rolls 4 = .ok (.iload_n 2, 1) := by decide +kernel
theorem dX11_rolls_5 : decode cX11_rolls 5 = .ok (.aload_n 0, 1) := by decide +kernel
theorem dX11_rolls_6 : decode cX11_rolls 6 = .ok (.getfield 27, 3) := by decide +kernel
theorem dX11_rolls_9 : decode cX11_rolls 9 = .ok (.getfield 207, 3) := by decide +kernel
theorem dX11_rolls_12 : decode cX11_rolls 12 = .ok (.if_icmp .ge 48, 3) := by decide +kernel
theorem dX11_rolls_15 : decode cX11_rolls 15 = .ok (.aload_n 0, 1) := by decide +kernel
theorem dX11_rolls_16 : decode cX11_rolls 16 = .ok (.getfield 37, 3) := by decide +kernel
theorem dX11_rolls_19 : decode cX11_rolls 19 = .ok (.getfield 113, 3) := by decide +kernel
theorem dX11_rolls_22 : decode cX11_rolls 22 = .ok (.iload_n 2, 1) := by decide +kernel
theorem dX11_rolls_23 : decode cX11_rolls 23 = .ok (.aaload, 1) := by decide +kernel
theorem dX11_rolls_24 : decode cX11_rolls 24 = .ok (.astore_n 3, 1) := by decide +kernel
theorem dX11_rolls_25 : decode cX11_rolls 25 = .ok (.aload_n 3, 1) := by decide +kernel
theorem dX11_rolls_26 : decode cX11_rolls 26 = .ok (.getfield 122, 3) := by decide +kernel
theorem dX11_rolls_29 : decode cX11_rolls 29 = .ok (.iconst 3, 1) := by decide +kernel
theorem dX11_rolls_30 : decode cX11_rolls 30 = .ok (.if_icmp .eq 24, 3) := by decide +kernel
theorem dX11_rolls_33 : decode cX11_rolls 33 = .ok (.aload_n 0, 1) := by decide +kernel
theorem dX11_rolls_34 : decode cX11_rolls 34 = .ok (.getfield 27, 3) := by decide +kernel
theorem dX11_rolls_37 : decode cX11_rolls 37 = .ok (.iload_n 2, 1) := by decide +kernel
theorem dX11_rolls_38 : decode cX11_rolls 38 = .ok (.aload_n 3, 1) := by decide +kernel
theorem dX11_rolls_39 : decode cX11_rolls 39 = .ok (.invokevirtual 212, 3) := by decide +kernel
theorem dX11_rolls_42 : decode cX11_rolls 42 = .ok (.invokevirtual 216, 3) := by decide +kernel
theorem dX11_rolls_45 : decode cX11_rolls 45 = .ok (.ifCond .ne 9, 3) := by decide +kernel
theorem dX11_rolls_48 : decode cX11_rolls 48 = .ok (.iload_n 1, 1) := by decide +kernel
theorem dX11_rolls_49 : decode cX11_rolls 49 = .ok (.iconst 1, 1) := by decide +kernel
theorem dX11_rolls_50 : decode cX11_rolls 50 = .ok (.iload_n 2, 1) := by decide +kernel
theorem dX11_rolls_51 : decode cX11_rolls 51 = .ok (.ishl, 1) := by decide +kernel
theorem dX11_rolls_52 : decode cX11_rolls 52 = .ok (.ior, 1) := by decide +kernel
theorem dX11_rolls_53 : decode cX11_rolls 53 = .ok (.istore_n 1, 1) := by decide +kernel
theorem dX11_rolls_54 : decode cX11_rolls 54 = .ok (.iinc 2 1, 3) := by decide +kernel
theorem dX11_rolls_57 : decode cX11_rolls 57 = .ok (.goto (-53), 3) := by decide +kernel
theorem dX11_rolls_60 : decode cX11_rolls 60 = .ok (.iload_n 1, 1) := by decide +kernel
theorem dX11_rolls_61 : decode cX11_rolls 61 = .ok (.ireturn, 1) := by decide +kernel
theorem dX11_rope_0 : decode cX11_rope 0 = .ok (.aload_n 0, 1) := by decide +kernel
theorem dX11_rope_1 : decode cX11_rope 1 = .ok (.getfield 27, 3) := by decide +kernel
theorem dX11_rope_4 : decode cX11_rope 4 = .ok (.iload_n 1, 1) := by decide +kernel
theorem dX11_rope_5 : decode cX11_rope 5 = .ok (.invokevirtual 135, 3) := by decide +kernel
theorem dX11_rope_8 : decode cX11_rope 8 = .ok (.ifCond .ne 5, 3) := by decide +kernel
theorem dX11_rope_11 : decode cX11_rope 11 = .ok (.iconst (-1), 1) := by decide +kernel
theorem dX11_rope_12 : decode cX11_rope 12 = .ok (.ireturn, 1) := by decide +kernel
theorem dX11_rope_13 : decode cX11_rope 13 = .ok (.iload_n 2, 1) := by decide +kernel
theorem dX11_rope_14 : decode cX11_rope 14 = .ok (.tableswitch 78 0 2 #[26, 39, 57], 26) := by decide +kernel
theorem dX11_rope_40 : decode cX11_rope 40 = .ok (.aload_n 0, 1) := by decide +kernel
theorem dX11_rope_41 : decode cX11_rope 41 = .ok (.getfield 37, 3) := by decide +kernel
theorem dX11_rope_44 : decode cX11_rope 44 = .ok (.aload_n 0, 1) := by decide +kernel
theorem dX11_rope_45 : decode cX11_rope 45 = .ok (.getfield 27, 3) := by decide +kernel
theorem dX11_rope_48 : decode cX11_rope 48 = .ok (.iload_n 1, 1) := by decide +kernel
theorem dX11_rope_49 : decode cX11_rope 49 = .ok (.invokevirtual 138, 3) := by decide +kernel
theorem dX11_rope_52 : decode cX11_rope 52 = .ok (.ireturn, 1) := by decide +kernel
theorem dX11_rope_53 : decode cX11_rope 53 = .ok (.aload_n 0, 1) := by decide +kernel
theorem dX11_rope_54 : decode cX11_rope 54 = .ok (.getfield 37, 3) := by decide +kernel
theorem dX11_rope_57 : decode cX11_rope 57 = .ok (.getfield 142, 3) := by decide +kernel
theorem dX11_rope_60 : decode cX11_rope 60 = .ok (.iload_n 1, 1) := by decide +kernel
theorem dX11_rope_61 : decode cX11_rope 61 = .ok (.baload, 1) := by decide +kernel
theorem dX11_rope_62 : decode cX11_rope 62 = .ok (.ifCond .eq 7, 3) := by decide +kernel
theorem dX11_rope_65 : decode cX11_rope 65 = .ok (.iconst 1, 1) := by decide +kernel
theorem dX11_rope_66 : decode cX11_rope 66 = .ok (.goto 4, 3) := by decide +kernel
theorem dX11_rope_69 : decode cX11_rope 69 = .ok (.iconst 0, 1) := by decide +kernel
theorem dX11_rope_70 : decode cX11_rope 70 = .ok (.ireturn, 1) := by decide +kernel
theorem dX11_rope_71 : decode cX11_rope 71 = .ok (.aload_n 0, 1) := by decide +kernel
theorem dX11_rope_72 : decode cX11_rope 72 = .ok (.getfield 37, 3) := by decide +kernel
theorem dX11_rope_75 : decode cX11_rope 75 = .ok (.aload_n 0, 1) := by decide +kernel
theorem dX11_rope_76 : decode cX11_rope 76 = .ok (.getfield 27, 3) := by decide +kernel
theorem dX11_rope_79 : decode cX11_rope 79 = .ok (.iload_n 1, 1) := by decide +kernel
theorem dX11_rope_80 : decode cX11_rope 80 = .ok (.invokevirtual 145, 3) := by decide +kernel
theorem dX11_rope_83 : decode cX11_rope 83 = .ok (.ifCond .eq 7, 3) := by decide +kernel
theorem dX11_rope_86 : decode cX11_rope 86 = .ok (.iconst 1, 1) := by decide +kernel
theorem dX11_rope_87 : decode cX11_rope 87 = .ok (.goto 4, 3) := by decide +kernel
theorem dX11_rope_90 : decode cX11_rope 90 = .ok (.iconst 0, 1) := by decide +kernel
theorem dX11_rope_91 : decode cX11_rope 91 = .ok (.ireturn, 1) := by decide +kernel
theorem dX11_rope_92 : decode cX11_rope 92 = .ok (.iconst (-1), 1) := by decide +kernel
theorem dX11_rope_93 : decode cX11_rope 93 = .ok (.ireturn, 1) := by decide +kernel
theorem dX11_run_0 : decode cX11_run 0 = .ok (.iload_n 1, 1) := by decide +kernel
theorem dX11_run_1 : decode cX11_run 1 = .ok (.ifCond .lt 24, 3) := by decide +kernel
theorem dX11_run_4 : decode cX11_run 4 = .ok (.iload_n 1, 1) := by decide +kernel
theorem dX11_run_5 : decode cX11_run 5 = .ok (.sipush 500, 3) := by decide +kernel
theorem dX11_run_8 : decode cX11_run 8 = .ok (.if_icmp .gt 17, 3) := by decide +kernel
theorem dX11_run_11 : decode cX11_run 11 = .ok (.aload_n 0, 1) := by decide +kernel
theorem dX11_run_12 : decode cX11_run 12 = .ok (.getfield 37, 3) := by decide +kernel
theorem dX11_run_15 : decode cX11_run 15 = .ok (.getfield 98, 3) := by decide +kernel
theorem dX11_run_18 : decode cX11_run 18 = .ok (.iload_n 1, 1) := by decide +kernel
theorem dX11_run_19 : decode cX11_run 19 = .ok (.iadd, 1) := by decide +kernel
theorem dX11_run_20 : decode cX11_run 20 = .ok (.ldc 101, 2) := by decide +kernel
theorem dX11_run_22 : decode cX11_run 22 = .ok (.if_icmp .le 5, 3) := by decide +kernel
theorem dX11_run_25 : decode cX11_run 25 = .ok (.iconst (-1), 1) := by decide +kernel
theorem dX11_run_26 : decode cX11_run 26 = .ok (.ireturn, 1) := by decide +kernel
theorem dX11_run_27 : decode cX11_run 27 = .ok (.iconst 0, 1) := by decide +kernel
theorem dX11_run_28 : decode cX11_run 28 = .ok (.istore_n 2, 1) := by decide +kernel
theorem dX11_run_29 : decode cX11_run 29 = .ok (.iload_n 2, 1) := by decide +kernel
theorem dX11_run_30 : decode cX11_run 30 = .ok (.iload_n 1, 1) := by decide +kernel
theorem dX11_run_31 : decode cX11_run 31 = .ok (.if_icmp .ge 24, 3) := by decide +kernel
theorem dX11_run_34 : decode cX11_run 34 = .ok (.aload_n 0, 1) := by decide +kernel
theorem dX11_run_35 : decode cX11_run 35 = .ok (.getfield 52, 3) := by decide +kernel
theorem dX11_run_38 : decode cX11_run 38 = .ok (.aload_n 0, 1) := by decide +kernel
theorem dX11_run_39 : decode cX11_run 39 = .ok (.getfield 27, 3) := by decide +kernel
theorem dX11_run_42 : decode cX11_run 42 = .ok (.aload_n 0, 1) := by decide +kernel
theorem dX11_run_43 : decode cX11_run 43 = .ok (.getfield 37, 3) := by decide +kernel
theorem dX11_run_46 : decode cX11_run 46 = .ok (.invokevirtual 102, 3) := by decide +kernel
theorem dX11_run_49 : decode cX11_run 49 = .ok (.iinc 2 1, 3) := by decide +kernel
theorem dX11_run_52 : decode cX11_run 52 = .ok (.goto (-23), 3) := by decide +kernel
theorem dX11_run_55 : decode cX11_run 55 = .ok (.aload_n 0, 1) := by decide +kernel
theorem dX11_run_56 : decode cX11_run 56 = .ok (.getfield 37, 3) := by decide +kernel
theorem dX11_run_59 : decode cX11_run 59 = .ok (.aload_n 0, 1) := by decide +kernel
theorem dX11_run_60 : decode cX11_run 60 = .ok (.getfield 27, 3) := by decide +kernel
theorem dX11_run_63 : decode cX11_run 63 = .ok (.invokevirtual 105, 3) := by decide +kernel
theorem dX11_run_66 : decode cX11_run 66 = .ok (.ireturn, 1) := by decide +kernel
theorem dX11_runaway_0 : decode cX11_runaway 0 = .ok (.aload_n 0, 1) := by decide +kernel
theorem dX11_runaway_1 : decode cX11_runaway 1 = .ok (.getfield 27, 3) := by decide +kernel
theorem dX11_runaway_4 : decode cX11_runaway 4 = .ok (.iload_n 1, 1) := by decide +kernel
theorem dX11_runaway_5 : decode cX11_runaway 5 = .ok (.invokevirtual 109, 3) := by decide +kernel
theorem dX11_runaway_8 : decode cX11_runaway 8 = .ok (.ifCond .eq 22, 3) := by decide +kernel
theorem dX11_runaway_11 : decode cX11_runaway 11 = .ok (.iload_n 2, 1) := by decide +kernel
theorem dX11_runaway_12 : decode cX11_runaway 12 = .ok (.invokestatic 239, 3) := by decide +kernel
theorem dX11_runaway_15 : decode cX11_runaway 15 = .ok (.ifCond .eq 15, 3) := by decide +kernel
theorem dX11_runaway_18 : decode cX11_runaway 18 = .ok (.aload_n 0, 1) := by decide +kernel
theorem dX11_runaway_19 : decode cX11_runaway 19 = .ok (.getfield 27, 3) := by decide +kernel
theorem dX11_runaway_22 : decode cX11_runaway 22 = .ok (.iload_n 1, 1) := by decide +kernel
theorem dX11_runaway_23 : decode cX11_runaway 23 = .ok (.iload_n 2, 1) := by decide +kernel
theorem dX11_runaway_24 : decode cX11_runaway 24 = .ok (.invokevirtual 216, 3) := by decide +kernel
theorem dX11_runaway_27 : decode cX11_runaway 27 = .ok (.ifCond .eq 5, 3) := by decide +kernel
theorem dX11_runaway_30 : decode cX11_runaway 30 = .ok (.iconst (-1), 1) := by decide +kernel
theorem dX11_runaway_31 : decode cX11_runaway 31 = .ok (.ireturn, 1) := by decide +kernel
theorem dX11_runaway_32 : decode cX11_runaway 32 = .ok (.aload_n 0, 1) := by decide +kernel
theorem dX11_runaway_33 : decode cX11_runaway 33 = .ok (.getfield 59, 3) := by decide +kernel
theorem dX11_runaway_36 : decode cX11_runaway 36 = .ok (.aload_n 0, 1) := by decide +kernel
theorem dX11_runaway_37 : decode cX11_runaway 37 = .ok (.getfield 27, 3) := by decide +kernel
theorem dX11_runaway_40 : decode cX11_runaway 40 = .ok (.iload_n 2, 1) := by decide +kernel
theorem dX11_runaway_41 : decode cX11_runaway 41 = .ok (.invokevirtual 269, 3) := by decide +kernel
theorem dX11_runaway_44 : decode cX11_runaway 44 = .ok (.ireturn, 1) := by decide +kernel
theorem dX11_speed_0 : decode cX11_speed 0 = .ok (.aload_n 0, 1) := by decide +kernel
theorem dX11_speed_1 : decode cX11_speed 1 = .ok (.getfield 27, 3) := by decide +kernel
theorem dX11_speed_4 : decode cX11_speed 4 = .ok (.iload_n 1, 1) := by decide +kernel
theorem dX11_speed_5 : decode cX11_speed 5 = .ok (.invokevirtual 109, 3) := by decide +kernel
theorem dX11_speed_8 : decode cX11_speed 8 = .ok (.ifCond .eq 18, 3) := by decide +kernel
theorem dX11_speed_11 : decode cX11_speed 11 = .ok (.aload_n 0, 1) := by decide +kernel
theorem dX11_speed_12 : decode cX11_speed 12 = .ok (.getfield 37, 3) := by decide +kernel
theorem dX11_speed_15 : decode cX11_speed 15 = .ok (.getfield 113, 3) := by decide +kernel
theorem dX11_speed_18 : decode cX11_speed 18 = .ok (.iload_n 1, 1) := by decide +kernel
theorem dX11_speed_19 : decode cX11_speed 19 = .ok (.aaload, 1) := by decide +kernel
theorem dX11_speed_20 : decode cX11_speed 20 = .ok (.getfield 132, 3) := by decide +kernel
theorem dX11_speed_23 : decode cX11_speed 23 = .ok (.goto 6, 3) := by decide +kernel
theorem dX11_speed_26 : decode cX11_speed 26 = .ok (.sipush (-1000), 3) := by decide +kernel
theorem dX11_speed_29 : decode cX11_speed 29 = .ok (.ireturn, 1) := by decide +kernel
theorem dX11_splice_0 : decode cX11_splice 0 = .ok (.aload_n 0, 1) := by decide +kernel
theorem dX11_splice_1 : decode cX11_splice 1 = .ok (.getfield 27, 3) := by decide +kernel
theorem dX11_splice_4 : decode cX11_splice 4 = .ok (.iload_n 1, 1) := by decide +kernel
theorem dX11_splice_5 : decode cX11_splice 5 = .ok (.invokevirtual 173, 3) := by decide +kernel
theorem dX11_splice_8 : decode cX11_splice 8 = .ok (.ifCond .ne 5, 3) := by decide +kernel
theorem dX11_splice_11 : decode cX11_splice 11 = .ok (.iconst (-1), 1) := by decide +kernel
theorem dX11_splice_12 : decode cX11_splice 12 = .ok (.ireturn, 1) := by decide +kernel
theorem dX11_splice_13 : decode cX11_splice 13 = .ok (.iload_n 2, 1) := by decide +kernel
theorem dX11_splice_14 : decode cX11_splice 14 = .ok (.tableswitch 86 0 3 #[30, 40, 50, 76], 30) := by decide +kernel
theorem dX11_splice_44 : decode cX11_splice 44 = .ok (.aload_n 0, 1) := by decide +kernel
theorem dX11_splice_45 : decode cX11_splice 45 = .ok (.getfield 27, 3) := by decide +kernel
theorem dX11_splice_48 : decode cX11_splice 48 = .ok (.getfield 176, 3) := by decide +kernel
theorem dX11_splice_51 : decode cX11_splice 51 = .ok (.iload_n 1, 1) := by decide +kernel
theorem dX11_splice_52 : decode cX11_splice 52 = .ok (.iaload, 1) := by decide +kernel
theorem dX11_splice_53 : decode cX11_splice 53 = .ok (.ireturn, 1) := by decide +kernel
theorem dX11_splice_54 : decode cX11_splice 54 = .ok (.aload_n 0, 1) := by decide +kernel
theorem dX11_splice_55 : decode cX11_splice 55 = .ok (.getfield 37, 3) := by decide +kernel
theorem dX11_splice_58 : decode cX11_splice 58 = .ok (.getfield 179, 3) := by decide +kernel
theorem dX11_splice_61 : decode cX11_splice 61 = .ok (.iload_n 1, 1) := by decide +kernel
theorem dX11_splice_62 : decode cX11_splice 62 = .ok (.iaload, 1) := by decide +kernel
theorem dX11_splice_63 : decode cX11_splice 63 = .ok (.ireturn, 1) := by decide +kernel
theorem dX11_splice_64 : decode cX11_splice 64 = .ok (.aload_n 0, 1) := by decide +kernel
theorem dX11_splice_65 : decode cX11_splice 65 = .ok (.getfield 27, 3) := by decide +kernel
theorem dX11_splice_68 : decode cX11_splice 68 = .ok (.aload_n 0, 1) := by decide +kernel
theorem dX11_splice_69 : decode cX11_splice 69 = .ok (.getfield 27, 3) := by decide +kernel
theorem dX11_splice_72 : decode cX11_splice 72 = .ok (.getfield 176, 3) := by decide +kernel
theorem dX11_splice_75 : decode cX11_splice 75 = .ok (.iload_n 1, 1) := by decide +kernel
theorem dX11_splice_76 : decode cX11_splice 76 = .ok (.iaload, 1) := by decide +kernel
theorem dX11_splice_77 : decode cX11_splice 77 = .ok (.aload_n 0, 1) := by decide +kernel
theorem dX11_splice_78 : decode cX11_splice 78 = .ok (.getfield 37, 3) := by decide +kernel
theorem dX11_splice_81 : decode cX11_splice 81 = .ok (.getfield 179, 3) := by decide +kernel
theorem dX11_splice_84 : decode cX11_splice 84 = .ok (.iload_n 1, 1) := by decide +kernel
theorem dX11_splice_85 : decode cX11_splice 85 = .ok (.iaload, 1) := by decide +kernel
theorem dX11_splice_86 : decode cX11_splice 86 = .ok (.invokevirtual 169, 3) := by decide +kernel
theorem dX11_splice_89 : decode cX11_splice 89 = .ok (.ireturn, 1) := by decide +kernel
theorem dX11_splice_90 : decode cX11_splice 90 = .ok (.aload_n 0, 1) := by decide +kernel
theorem dX11_splice_91 : decode cX11_splice 91 = .ok (.getfield 37, 3) := by decide +kernel
theorem dX11_splice_94 : decode cX11_splice 94 = .ok (.getfield 182, 3) := by decide +kernel
theorem dX11_splice_97 : decode cX11_splice 97 = .ok (.iload_n 1, 1) := by decide +kernel
theorem dX11_splice_98 : decode cX11_splice 98 = .ok (.iaload, 1) := by decide +kernel
theorem dX11_splice_99 : decode cX11_splice 99 = .ok (.ireturn, 1) := by decide +kernel
theorem dX11_splice_100 : decode cX11_splice 100 = .ok (.iconst (-1), 1) := by decide +kernel
theorem dX11_splice_101 : decode cX11_splice 101 = .ok (.ireturn, 1) := by decide +kernel
theorem dX11_spread_0 : decode cX11_spread 0 = .ok (.aload_n 0, 1) := by decide +kernel
theorem dX11_spread_1 : decode cX11_spread 1 = .ok (.getfield 27, 3) := by decide +kernel
theorem dX11_spread_4 : decode cX11_spread 4 = .ok (.iload_n 1, 1) := by decide +kernel
theorem dX11_spread_5 : decode cX11_spread 5 = .ok (.invokevirtual 109, 3) := by decide +kernel
theorem dX11_spread_8 : decode cX11_spread 8 = .ok (.ifCond .eq 28, 3) := by decide +kernel
theorem dX11_spread_11 : decode cX11_spread 11 = .ok (.aload_n 0, 1) := by decide +kernel
theorem dX11_spread_12 : decode cX11_spread 12 = .ok (.getfield 37, 3) := by decide +kernel
theorem dX11_spread_15 : decode cX11_spread 15 = .ok (.getfield 113, 3) := by decide +kernel
theorem dX11_spread_18 : decode cX11_spread 18 = .ok (.iload_n 1, 1) := by decide +kernel
theorem dX11_spread_19 : decode cX11_spread 19 = .ok (.aaload, 1) := by decide +kernel
theorem dX11_spread_20 : decode cX11_spread 20 = .ok (.getfield 122, 3) := by decide +kernel
theorem dX11_spread_23 : decode cX11_spread 23 = .ok (.iconst 3, 1) := by decide +kernel
theorem dX11_spread_24 : decode cX11_spread 24 = .ok (.if_icmp .eq 12, 3) := by decide +kernel
theorem dX11_spread_27 : decode cX11_spread 27 = .ok (.iload_n 2, 1) := by decide +kernel
theorem dX11_spread_28 : decode cX11_spread 28 = .ok (.ifCond .lt 8, 3) := by decide +kernel
theorem dX11_spread_31 : decode cX11_spread 31 = .ok (.iload_n 2, 1) := by decide +kernel
theorem dX11_spread_32 : decode cX11_spread 32 = .ok (.iconst 1, 1) := by decide +kernel
theorem dX11_spread_33 : decode cX11_spread 33 = .ok (.if_icmp .le 5, 3) := by decide +kernel
theorem dX11_spread_36 : decode cX11_spread 36 = .ok (.iconst (-1), 1) := by decide +kernel
theorem dX11_spread_37 : decode cX11_spread 37 = .ok (.ireturn, 1) := by decide +kernel
theorem dX11_spread_38 : decode cX11_spread 38 = .ok (.iconst (-1), 1) := by decide +kernel
theorem dX11_spread_39 : decode cX11_spread 39 = .ok (.istore_n 3, 1) := by decide +kernel
