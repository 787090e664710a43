theorem dX0_init_0 : decode cX0_init 0 = .ok (.aload_n 0, 1) := by decide +kernel
theorem dX0_init_1 : decode cX0_init 1 = .ok (.invokespecial 3, 3) := by decide +kernel
theorem dX0_init_4 : decode cX0_init 4 = .ok (.return_, 1) := by decide +kernel
theorem dX0_begin_0 : decode cX0_begin 0 = .ok (.aload_n 0, 1) := by decide +kernel
theorem dX0_begin_1 : decode cX0_begin 1 = .ok (.bipush 10, 2) := by decide +kernel
theorem dX0_begin_3 : decode cX0_begin 3 = .ok (.iload_n 1, 1) := by decide +kernel
theorem dX0_begin_4 : decode cX0_begin 4 = .ok (.imul, 1) := by decide +kernel
theorem dX0_begin_5 : decode cX0_begin 5 = .ok (.iconst 5, 1) := by decide +kernel
theorem dX0_begin_6 : decode cX0_begin 6 = .ok (.iadd, 1) := by decide +kernel
theorem dX0_begin_7 : decode cX0_begin 7 = .ok (.putfield 9, 3) := by decide +kernel
theorem dX0_begin_10 : decode cX0_begin 10 = .ok (.aload_n 0, 1) := by decide +kernel
theorem dX0_begin_11 : decode cX0_begin 11 = .ok (.iconst 0, 1) := by decide +kernel
theorem dX0_begin_12 : decode cX0_begin 12 = .ok (.putfield 15, 3) := by decide +kernel
theorem dX0_begin_15 : decode cX0_begin 15 = .ok (.aload_n 0, 1) := by decide +kernel
theorem dX0_begin_16 : decode cX0_begin 16 = .ok (.iconst 0, 1) := by decide +kernel
theorem dX0_begin_17 : decode cX0_begin 17 = .ok (.putfield 18, 3) := by decide +kernel
theorem dX0_begin_20 : decode cX0_begin 20 = .ok (.aload_n 0, 1) := by decide +kernel
theorem dX0_begin_21 : decode cX0_begin 21 = .ok (.iconst 0, 1) := by decide +kernel
theorem dX0_begin_22 : decode cX0_begin 22 = .ok (.putfield 21, 3) := by decide +kernel
theorem dX0_begin_25 : decode cX0_begin 25 = .ok (.aload_n 0, 1) := by decide +kernel
theorem dX0_begin_26 : decode cX0_begin 26 = .ok (.iconst 0, 1) := by decide +kernel
theorem dX0_begin_27 : decode cX0_begin 27 = .ok (.putfield 24, 3) := by decide +kernel
theorem dX0_begin_30 : decode cX0_begin 30 = .ok (.aload_n 0, 1) := by decide +kernel
theorem dX0_begin_31 : decode cX0_begin 31 = .ok (.iconst 1, 1) := by decide +kernel
theorem dX0_begin_32 : decode cX0_begin 32 = .ok (.putfield 28, 3) := by decide +kernel
theorem dX0_begin_35 : decode cX0_begin 35 = .ok (.aload_n 0, 1) := by decide +kernel
theorem dX0_begin_36 : decode cX0_begin 36 = .ok (.iconst (-1), 1) := by decide +kernel
theorem dX0_begin_37 : decode cX0_begin 37 = .ok (.putfield 31, 3) := by decide +kernel
theorem dX0_begin_40 : decode cX0_begin 40 = .ok (.aload_n 0, 1) := by decide +kernel
theorem dX0_begin_41 : decode cX0_begin 41 = .ok (.iconst 0, 1) := by decide +kernel
theorem dX0_begin_42 : decode cX0_begin 42 = .ok (.putfield 34, 3) := by decide +kernel
theorem dX0_begin_45 : decode cX0_begin 45 = .ok (.aload_n 0, 1) := by decide +kernel
theorem dX0_begin_46 : decode cX0_begin 46 = .ok (.iconst 0, 1) := by decide +kernel
theorem dX0_begin_47 : decode cX0_begin 47 = .ok (.putfield 37, 3) := by decide +kernel
theorem dX0_begin_50 : decode cX0_begin 50 = .ok (.aload_n 0, 1) := by decide +kernel
theorem dX0_begin_51 : decode cX0_begin 51 = .ok (.iconst (-1), 1) := by decide +kernel
theorem dX0_begin_52 : decode cX0_begin 52 = .ok (.putfield 40, 3) := by decide +kernel
theorem dX0_begin_55 : decode cX0_begin 55 = .ok (.aload_n 0, 1) := by decide +kernel
theorem dX0_begin_56 : decode cX0_begin 56 = .ok (.iconst (-1), 1) := by decide +kernel
theorem dX0_begin_57 : decode cX0_begin 57 = .ok (.putfield 43, 3) := by decide +kernel
theorem dX0_begin_60 : decode cX0_begin 60 = .ok (.return_, 1) := by decide +kernel
theorem dX0_copyFrom_0 : decode cX0_copyFrom 0 = .ok (.aload_n 0, 1) := by decide +kernel
theorem dX0_copyFrom_1 : decode cX0_copyFrom 1 = .ok (.aload_n 1, 1) := by decide +kernel
theorem dX0_copyFrom_2 : decode cX0_copyFrom 2 = .ok (.getfield 9, 3) := by decide +kernel
theorem dX0_copyFrom_5 : decode cX0_copyFrom 5 = .ok (.putfield 9, 3) := by decide +kernel
theorem dX0_copyFrom_8 : decode cX0_copyFrom 8 = .ok (.aload_n 0, 1) := by decide +kernel
theorem dX0_copyFrom_9 : decode cX0_copyFrom 9 = .ok (.aload_n 1, 1) := by decide +kernel
theorem dX0_copyFrom_10 : decode cX0_copyFrom 10 = .ok (.getfield 15, 3) := by decide +kernel
theorem dX0_copyFrom_13 : decode cX0_copyFrom 13 = .ok (.putfield 15, 3) := by decide +kernel
theorem dX0_copyFrom_16 : decode cX0_copyFrom 16 = .ok (.aload_n 0, 1) := by decide +kernel
theorem dX0_copyFrom_17 : decode cX0_copyFrom 17 = .ok (.aload_n 1, 1) := by decide +kernel
theorem dX0_copyFrom_18 : decode cX0_copyFrom 18 = .ok (.getfield 18, 3) := by decide +kernel
theorem dX0_copyFrom_21 : decode cX0_copyFrom 21 = .ok (.putfield 18, 3) := by decide +kernel
theorem dX0_copyFrom_24 : decode cX0_copyFrom 24 = .ok (.aload_n 0, 1) := by decide +kernel
theorem dX0_copyFrom_25 : decode cX0_copyFrom 25 = .ok (.aload_n 1, 1) := by decide +kernel
theorem dX0_copyFrom_26 : decode cX0_copyFrom 26 = .ok (.getfield 21, 3) := by decide +kernel
theorem dX0_copyFrom_29 : decode cX0_copyFrom 29 = .ok (.putfield 21, 3) := by decide +kernel
theorem dX0_copyFrom_32 : decode cX0_copyFrom 32 = .ok (.aload_n 0, 1) := by decide +kernel
theorem dX0_copyFrom_33 : decode cX0_copyFrom 33 = .ok (.aload_n 1, 1) := by decide +kernel
theorem dX0_copyFrom_34 : decode cX0_copyFrom 34 = .ok (.getfield 24, 3) := by decide +kernel
theorem dX0_copyFrom_37 : decode cX0_copyFrom 37 = .ok (.putfield 24, 3) := by decide +kernel
theorem dX0_copyFrom_40 : decode cX0_copyFrom 40 = .ok (.aload_n 0, 1) := by decide +kernel
theorem dX0_copyFrom_41 : decode cX0_copyFrom 41 = .ok (.aload_n 1, 1) := by decide +kernel
theorem dX0_copyFrom_42 : decode cX0_copyFrom 42 = .ok (.getfield 28, 3) := by decide +kernel
theorem dX0_copyFrom_45 : decode cX0_copyFrom 45 = .ok (.putfield 28, 3) := by decide +kernel
theorem dX0_copyFrom_48 : decode cX0_copyFrom 48 = .ok (.aload_n 0, 1) := by decide +kernel
theorem dX0_copyFrom_49 : decode cX0_copyFrom 49 = .ok (.aload_n 1, 1) := by decide +kernel
theorem dX0_copyFrom_50 : decode cX0_copyFrom 50 = .ok (.getfield 31, 3) := by decide +kernel
theorem dX0_copyFrom_53 : decode cX0_copyFrom 53 = .ok (.putfield 31, 3) := by decide +kernel
theorem dX0_copyFrom_56 : decode cX0_copyFrom 56 = .ok (.aload_n 0, 1) := by decide +kernel
theorem dX0_copyFrom_57 : decode cX0_copyFrom 57 = .ok (.aload_n 1, 1) := by decide +kernel
theorem dX0_copyFrom_58 : decode cX0_copyFrom 58 = .ok (.getfield 34, 3) := by decide +kernel
theorem dX0_copyFrom_61 : decode cX0_copyFrom 61 = .ok (.putfield 34, 3) := by decide +kernel
theorem dX0_copyFrom_64 : decode cX0_copyFrom 64 = .ok (.aload_n 0, 1) := by decide +kernel
theorem dX0_copyFrom_65 : decode cX0_copyFrom 65 = .ok (.aload_n 1, 1) := by decide +kernel
theorem dX0_copyFrom_66 : decode cX0_copyFrom 66 = .ok (.getfield 37, 3) := by decide +kernel
theorem dX0_copyFrom_69 : decode cX0_copyFrom 69 = .ok (.putfield 37, 3) := by decide +kernel
theorem dX0_copyFrom_72 : decode cX0_copyFrom 72 = .ok (.aload_n 0, 1) := by decide +kernel
theorem dX0_copyFrom_73 : decode cX0_copyFrom 73 = .ok (.aload_n 1, 1) := by decide +kernel
theorem dX0_copyFrom_74 : decode cX0_copyFrom 74 = .ok (.getfield 40, 3) := by decide +kernel
theorem dX0_copyFrom_77 : decode cX0_copyFrom 77 = .ok (.putfield 40, 3) := by decide +kernel
theorem dX0_copyFrom_80 : decode cX0_copyFrom 80 = .ok (.aload_n 0, 1) := by decide +kernel
theorem dX0_copyFrom_81 : decode cX0_copyFrom 81 = .ok (.aload_n 1, 1) := by decide +kernel
theorem dX0_copyFrom_82 : decode cX0_copyFrom 82 = .ok (.getfield 43, 3) := by decide +kernel
theorem dX0_copyFrom_85 : decode cX0_copyFrom 85 = .ok (.putfield 43, 3) := by decide +kernel
theorem dX0_copyFrom_88 : decode cX0_copyFrom 88 = .ok (.return_, 1) := by decide +kernel
theorem dX1_init_0 : decode cX1_init 0 = .ok (.aload_n 0, 1) := by decide +kernel
theorem dX1_init_1 : decode cX1_init 1 = .ok (.invokespecial 3, 3) := by decide +kernel
theorem dX1_init_4 : decode cX1_init 4 = .ok (.aload_n 0, 1) := by decide +kernel
theorem dX1_init_5 : decode cX1_init 5 = .ok (.bipush 60, 2) := by decide +kernel
theorem dX1_init_7 : decode cX1_init 7 = .ok (.newarray .int, 2) := by decide +kernel
theorem dX1_init_9 : decode cX1_init 9 = .ok (.putfield 9, 3) := by decide +kernel
theorem dX1_init_12 : decode cX1_init 12 = .ok (.aload_n 0, 1) := by decide +kernel
theorem dX1_init_13 : decode cX1_init 13 = .ok (.iconst 5, 1) := by decide +kernel
theorem dX1_init_14 : decode cX1_init 14 = .ok (.newarray .int, 2) := by decide +kernel
theorem dX1_init_16 : decode cX1_init 16 = .ok (.putfield 15, 3) := by decide +kernel
theorem dX1_init_19 : decode cX1_init 19 = .ok (.aload_n 0, 1) := by decide +kernel
theorem dX1_init_20 : decode cX1_init 20 = .ok (.sipush 512, 3) := by decide +kernel
theorem dX1_init_23 : decode cX1_init 23 = .ok (.newarray .int, 2) := by decide +kernel
theorem dX1_init_25 : decode cX1_init 25 = .ok (.putfield 18, 3) := by decide +kernel
theorem dX1_init_28 : decode cX1_init 28 = .ok (.return_, 1) := by decide +kernel
theorem dX1_clear_0 : decode cX1_clear 0 = .ok (.aload_n 0, 1) := by decide +kernel
theorem dX1_clear_1 : decode cX1_clear 1 = .ok (.iconst 0, 1) := by decide +kernel
theorem dX1_clear_2 : decode cX1_clear 2 = .ok (.putfield 21, 3) := by decide +kernel
theorem dX1_clear_5 : decode cX1_clear 5 = .ok (.aload_n 0, 1) := by decide +kernel
theorem dX1_clear_6 : decode cX1_clear 6 = .ok (.iconst 0, 1) := by decide +kernel
theorem dX1_clear_7 : decode cX1_clear 7 = .ok (.putfield 25, 3) := by decide +kernel
theorem dX1_clear_10 : decode cX1_clear 10 = .ok (.aload_n 0, 1) := by decide +kernel
theorem dX1_clear_11 : decode cX1_clear 11 = .ok (.iconst 0, 1) := by decide +kernel
theorem dX1_clear_12 : decode cX1_clear 12 = .ok (.putfield 28, 3) := by decide +kernel
theorem dX1_clear_15 : decode cX1_clear 15 = .ok (.aload_n 0, 1) := by decide +kernel
theorem dX1_clear_16 : decode cX1_clear 16 = .ok (.getfield 9, 3) := by decide +kernel
theorem dX1_clear_19 : decode cX1_clear 19 = .ok (.iconst (-1), 1) := by decide +kernel
theorem dX1_clear_20 : decode cX1_clear 20 = .ok (.invokestatic 31, 3) := by decide +kernel
theorem dX1_clear_23 : decode cX1_clear 23 = .ok (.aload_n 0, 1) := by decide +kernel
theorem dX1_clear_24 : decode cX1_clear 24 = .ok (.getfield 15, 3) := by decide +kernel
theorem dX1_clear_27 : decode cX1_clear 27 = .ok (.iconst 0, 1) := by decide +kernel
theorem dX1_clear_28 : decode cX1_clear 28 = .ok (.invokestatic 31, 3) := by decide +kernel
theorem dX1_clear_31 : decode cX1_clear 31 = .ok (.return_, 1) := by decide +kernel
theorem dX1_numberOn_0 : decode cX1_numberOn 0 = .ok (.iload_n 1, 1) := by decide +kernel
theorem dX1_numberOn_1 : decode cX1_numberOn 1 = .ok (.ifCond .lt 18, 3) := by decide +kernel
theorem dX1_numberOn_4 : decode cX1_numberOn 4 = .ok (.iload_n 1, 1) := by decide +kernel
theorem dX1_numberOn_5 : decode cX1_numberOn 5 = .ok (.bipush 60, 2) := by decide +kernel
theorem dX1_numberOn_7 : decode cX1_numberOn 7 = .ok (.if_icmp .ge 12, 3) := by decide +kernel
theorem dX1_numberOn_10 : decode cX1_numberOn 10 = .ok (.aload_n 0, 1) := by decide +kernel
theorem dX1_numberOn_11 : decode cX1_numberOn 11 = .ok (.getfield 9, 3) := by decide +kernel
theorem dX1_numberOn_14 : decode cX1_numberOn 14 = .ok (.iload_n 1, 1) := by decide +kernel
theorem dX1_numberOn_15 : decode cX1_numberOn 15 = .ok (.iaload, 1) := by decide +kernel
theorem dX1_numberOn_16 : decode cX1_numberOn 16 = .ok (.goto 4, 3) := by decide +kernel
theorem dX1_numberOn_19 : decode cX1_numberOn 19 = .ok (.iconst (-1), 1) := by decide +kernel
theorem dX1_numberOn_20 : decode cX1_numberOn 20 = .ok (.ireturn, 1) := by decide +kernel
theorem dX2_init_0 : decode cX2_init 0 = .ok (.aload_n 0, 1) := by decide +kernel
theorem dX2_init_1 : decode cX2_init 1 = .ok (.invokespecial 3, 3) := by decide +kernel
theorem dX2_init_4 : decode cX2_init 4 = .ok (.aload_n 0, 1) := by decide +kernel
theorem dX2_init_5 : decode cX2_init 5 = .ok (.bipush 8, 2) := by decide +kernel
theorem dX2_init_7 : decode cX2_init 7 = .ok (.newarray .int, 2) := by decide +kernel
theorem dX2_init_9 : decode cX2_init 9 = .ok (.putfield 9, 3) := by decide +kernel
theorem dX2_init_12 : decode cX2_init 12 = .ok (.aload_n 0, 1) := by decide +kernel
theorem dX2_init_13 : decode cX2_init 13 = .ok (.sipush 300, 3) := by decide +kernel
theorem dX2_init_16 : decode cX2_init 16 = .ok (.newarray .int, 2) := by decide +kernel
theorem dX2_init_18 : decode cX2_init 18 = .ok (.putfield 15, 3) := by decide +kernel
theorem dX2_init_21 : decode cX2_init 21 = .ok (.return_, 1) := by decide +kernel
theorem dX2_cell_0 : decode cX2_cell 0 = .ok (.iload_n 1, 1) := by decide +kernel
theorem dX2_cell_1 : decode cX2_cell 1 = .ok (.ifCond .lt 20, 3) := by decide +kernel
theorem dX2_cell_4 : decode cX2_cell 4 = .ok (.iload_n 1, 1) := by decide +kernel
theorem dX2_cell_5 : decode cX2_cell 5 = .ok (.aload_n 0, 1) := by decide +kernel
theorem dX2_cell_6 : decode cX2_cell 6 = .ok (.getfield 18, 3) := by decide +kernel
theorem dX2_cell_9 : decode cX2_cell 9 = .ok (.if_icmp .ge 12, 3) := by decide +kernel
theorem dX2_cell_21 : decode cX2_cell 21 = .ok (.iconst (-1), 1) := by decide +kernel
theorem dX2_cell_22 : decode cX2_cell 22 = .ok (.ireturn, 1) := by decide +kernel
theorem dX2_clear_0 : decode cX2_clear 0 = .ok (.aload_n 0, 1) := by decide +kernel
theorem dX2_clear_1 : decode cX2_clear 1 = .ok (.iconst 0, 1) := by decide +kernel
theorem dX2_clear_2 : decode cX2_clear 2 = .ok (.putfield 18, 3) := by decide +kernel
theorem dX2_clear_5 : decode cX2_clear 5 = .ok (.aload_n 0, 1) := by decide +kernel
theorem dX2_clear_6 : decode cX2_clear 6 = .ok (.getfield 9, 3) := by decide +kernel
theorem dX2_clear_9 : decode cX2_clear 9 = .ok (.iconst 0, 1) := by decide +kernel
theorem dX2_clear_10 : decode cX2_clear 10 = .ok (.invokestatic 22, 3) := by decide +kernel
theorem dX2_clear_13 : decode cX2_clear 13 = .ok (.return_, 1) := by decide +kernel
theorem dX2_copyFrom_0 : decode cX2_copyFrom 0 = .ok (.aload_n 0, 1) := by decide +kernel
theorem dX2_copyFrom_1 : decode cX2_copyFrom 1 = .ok (.aload_n 1, 1) := by decide +kernel
theorem dX2_copyFrom_2 : decode cX2_copyFrom 2 = .ok (.getfield 18, 3) := by decide +kernel
theorem dX2_copyFrom_5 : decode cX2_copyFrom 5 = .ok (.putfield 18, 3) := by decide +kernel
theorem dX2_copyFrom_8 : decode cX2_copyFrom 8 = .ok (.aload_n 1, 1) := by decide +kernel
theorem dX2_copyFrom_9 : decode cX2_copyFrom 9 = .ok (.getfield 9, 3) := by decide +kernel
theorem dX2_copyFrom_12 : decode cX2_copyFrom 12 = .ok (.iconst 0, 1) := by decide +kernel
theorem dX2_copyFrom_13 : decode cX2_copyFrom 13 = .ok (.aload_n 0, 1) := by decide +kernel
theorem dX2_copyFrom_14 : decode cX2_copyFrom 14 = .ok (.getfield 9, 3) := by decide +kernel
theorem dX2_copyFrom_17 : decode cX2_copyFrom 17 = .ok (.iconst 0, 1) := by decide +kernel
theorem dX2_copyFrom_18 : decode cX2_copyFrom 18 = .ok (.bipush 8, 2) := by decide +kernel
theorem dX2_copyFrom_20 : decode cX2_copyFrom 20 = .ok (.invokestatic 28, 3) := by decide +kernel
theorem dX2_copyFrom_23 : decode cX2_copyFrom 23 = .ok (.aload_n 1, 1) := by decide +kernel
theorem dX2_copyFrom_24 : decode cX2_copyFrom 24 = .ok (.getfield 15, 3) := by decide +kernel
theorem dX2_copyFrom_27 : decode cX2_copyFrom 27 = .ok (.iconst 0, 1) := by decide +kernel
theorem dX2_copyFrom_28 : decode cX2_copyFrom 28 = .ok (.aload_n 0, 1) := by decide +kernel
theorem dX2_copyFrom_29 : decode cX2_copyFrom 29 = .ok (.getfield 15, 3) := by decide +kernel
theorem dX2_copyFrom_32 : decode cX2_copyFrom 32 = .ok (.iconst 0, 1) := by decide +kernel
theorem dX2_copyFrom_33 : decode cX2_copyFrom 33 = .ok (.aload_n 0, 1) := by decide +kernel
theorem dX2_copyFrom_34 : decode cX2_copyFrom 34 = .ok (.getfield 15, 3) := by decide +kernel
theorem dX2_copyFrom_37 : decode cX2_copyFrom 37 = .ok (.arraylength, 1) := by decide +kernel
theorem dX2_copyFrom_38 : decode cX2_copyFrom 38 = .ok (.invokestatic 28, 3) := by decide +kernel
theorem dX2_copyFrom_41 : decode cX2_copyFrom 41 = .ok (.return_, 1) := by decide +kernel
theorem dX3_init_0 : decode cX3_init 0 = .ok (.aload_n 0, 1) := by decide +kernel
theorem dX3_init_1 : decode cX3_init 1 = .ok (.invokespecial 3, 3) := by decide +kernel
theorem dX3_init_4 : decode cX3_init 4 = .ok (.aload_n 0, 1) := by decide +kernel
theorem dX3_init_5 : decode cX3_init 5 = .ok (.new 9, 3) := by decide +kernel
theorem dX3_init_8 : decode cX3_init 8 = .ok (.dup, 1) := by decide +kernel
theorem dX3_init_9 : decode cX3_init 9 = .ok (.invokespecial 11, 3) := by decide +kernel
theorem dX3_init_12 : decode cX3_init 12 = .ok (.putfield 12, 3) := by decide +kernel
theorem dX3_init_15 : decode cX3_init 15 = .ok (.aload_n 0, 1) := by decide +kernel
theorem dX3_init_16 : decode cX3_init 16 = .ok (.new 18, 3) := by decide +kernel
theorem dX3_init_19 : decode cX3_init 19 = .ok (.dup, 1) := by decide +kernel
theorem dX3_init_20 : decode cX3_init 20 = .ok (.invokespecial 20, 3) := by decide +kernel
theorem dX3_init_23 : decode cX3_init 23 = .ok (.putfield 21, 3) := by decide +kernel
theorem dX3_init_26 : decode cX3_init 26 = .ok (.return_, 1) := by decide +kernel
theorem dX3_carOfStrand_0 : decode cX3_carOfStrand 0 = .ok (.aload_n 2, 1) := by decide +kernel
theorem dX3_carOfStrand_1 : decode cX3_carOfStrand 1 = .ok (.getfield 63, 3) := by decide +kernel
theorem dX3_carOfStrand_4 : decode cX3_carOfStrand 4 = .ok (.istore_n 3, 1) := by decide +kernel
theorem dX3_carOfStrand_5 : decode cX3_carOfStrand 5 = .ok (.aload_n 0, 1) := by decide +kernel
theorem dX3_carOfStrand_6 : decode cX3_carOfStrand 6 = .ok (.getfield 21, 3) := by decide +kernel
theorem dX3_carOfStrand_9 : decode cX3_carOfStrand 9 = .ok (.aload_n 2, 1) := by decide +kernel
theorem dX3_carOfStrand_10 : decode cX3_carOfStrand 10 = .ok (.invokevirtual 66, 3) := by decide +kernel
theorem dX3_carOfStrand_13 : decode cX3_carOfStrand 13 = .ok (.iconst 0, 1) := by decide +kernel
theorem dX3_carOfStrand_14 : decode cX3_carOfStrand 14 = .ok (.istore 4, 2) := by decide +kernel
theorem dX3_carOfStrand_16 : decode cX3_carOfStrand 16 = .ok (.iload 4, 2) := by decide +kernel
theorem dX3_carOfStrand_18 : decode cX3_carOfStrand 18 = .ok (.sipush 500, 3) := by decide +kernel
theorem dX3_carOfStrand_21 : decode cX3_carOfStrand 21 = .ok (.if_icmp .ge 60, 3) := by decide +kernel
theorem dX3_carOfStrand_24 : decode cX3_carOfStrand 24 = .ok (.aload_n 1, 1) := by decide +kernel
theorem dX3_carOfStrand_25 : decode cX3_carOfStrand 25 = .ok (.iload_n 3, 1) := by decide +kernel
theorem dX3_carOfStrand_26 : decode cX3_carOfStrand 26 = .ok (.invokevirtual 70, 3) := by decide +kernel
theorem dX3_carOfStrand_29 : decode cX3_carOfStrand 29 = .ok (.ifCond .eq 52, 3) := by decide +kernel
theorem dX3_carOfStrand_81 : decode cX3_carOfStrand 81 = .ok (.iconst (-1), 1) := by decide +kernel
theorem dX3_carOfStrand_82 : decode cX3_carOfStrand 82 = .ok (.ireturn, 1) := by decide +kernel
theorem dX3_drawPower_0 : decode cX3_drawPower 0 = .ok (.aload_n 0, 1) := by decide +kernel
theorem dX3_drawPower_1 : decode cX3_drawPower 1 = .ok (.getfield 21, 3) := by decide +kernel
theorem dX3_drawPower_4 : decode cX3_drawPower 4 = .ok (.aload_n 2, 1) := by decide +kernel
theorem dX3_drawPower_5 : decode cX3_drawPower 5 = .ok (.invokevirtual 66, 3) := by decide +kernel
theorem dX3_drawPower_8 : decode cX3_drawPower 8 = .ok (.aload_n 0, 1) := by decide +kernel
theorem dX3_drawPower_9 : decode cX3_drawPower 9 = .ok (.iconst 0, 1) := by decide +kernel
theorem dX3_drawPower_10 : decode cX3_drawPower 10 = .ok (.putfield 126, 3) := by decide +kernel
theorem dX3_drawPower_13 : decode cX3_drawPower 13 = .ok (.aload_n 0, 1) := by decide +kernel
theorem dX3_drawPower_14 : decode cX3_drawPower 14 = .ok (.iconst 0, 1) := by decide +kernel
theorem dX3_drawPower_15 : decode cX3_drawPower 15 = .ok (.putfield 129, 3) := by decide +kernel
theorem dX3_drawPower_18 : decode cX3_drawPower 18 = .ok (.iconst 0, 1) := by decide +kernel
theorem dX3_drawPower_19 : decode cX3_drawPower 19 = .ok (.istore 4, 2) := by decide +kernel
theorem dX3_drawPower_21 : decode cX3_drawPower 21 = .ok (.iload 4, 2) := by decide +kernel
theorem dX3_drawPower_23 : decode cX3_drawPower 23 = .ok (.iload_n 3, 1) := by decide +kernel
theorem dX3_drawPower_24 : decode cX3_drawPower 24 = .ok (.if_icmp .ge 98, 3) := by decide +kernel
theorem dX3_drawPower_27 : decode cX3_drawPower 27 = .ok (.iconst 0, 1) := by decide +kernel
theorem dX3_drawPower_28 : decode cX3_drawPower 28 = .ok (.istore 5, 2) := by decide +kernel
theorem dX3_drawPower_30 : decode cX3_drawPower 30 = .ok (.iconst 0, 1) := by decide +kernel
theorem dX3_drawPower_31 : decode cX3_drawPower 31 = .ok (.istore 6, 2) := by decide +kernel
theorem dX3_drawPower_33 : decode cX3_drawPower 33 = .ok (.iload 6, 2) := by decide +kernel
theorem dX3_drawPower_35 : decode cX3_drawPower 35 = .ok (.aload_n 1, 1) := by decide +kernel
theorem dX3_drawPower_36 : decode cX3_drawPower 36 = .ok (.getfield 132, 3) := by decide +kernel
theorem dX3_drawPower_39 : decode cX3_drawPower 39 = .ok (.if_icmp .ge 41, 3) := by decide +kernel
theorem dX3_drawPower_80 : decode cX3_drawPower 80 = .ok (.aload_n 0, 1) := by decide +kernel
theorem dX3_drawPower_81 : decode cX3_drawPower 81 = .ok (.dup, 1) := by decide +kernel
theorem dX3_drawPower_82 : decode cX3_drawPower 82 = .ok (.getfield 126, 3) := by decide +kernel
theorem dX3_drawPower_85 : decode cX3_drawPower 85 = .ok (.iload 5, 2) := by decide +kernel
theorem dX3_drawPower_87 : decode cX3_drawPower 87 = .ok (.iadd, 1) := by decide +kernel
theorem dX3_drawPower_88 : decode cX3_drawPower 88 = .ok (.putfield 126, 3) := by decide +kernel
theorem dX3_drawPower_91 : decode cX3_drawPower 91 = .ok (.aload_n 0, 1) := by decide +kernel
theorem dX3_drawPower_92 : decode cX3_drawPower 92 = .ok (.aload_n 0, 1) := by decide +kernel
theorem dX3_drawPower_93 : decode cX3_drawPower 93 = .ok (.getfield 129, 3) := by decide +kernel
theorem dX3_drawPower_96 : decode cX3_drawPower 96 = .ok (.iload 5, 2) := by decide +kernel
theorem dX3_drawPower_98 : decode cX3_drawPower 98 = .ok (.invokestatic 60, 3) := by decide +kernel
theorem dX3_drawPower_101 : decode cX3_drawPower 101 = .ok (.putfield 129, 3) := by decide +kernel
theorem dX3_drawPower_104 : decode cX3_drawPower 104 = .ok (.aload_n 0, 1) := by decide +kernel
theorem dX3_drawPower_105 : decode cX3_drawPower 105 = .ok (.getfield 12, 3) := by decide +kernel
theorem dX3_drawPower_108 : decode cX3_drawPower 108 = .ok (.aload_n 1, 1) := by decide +kernel
theorem dX3_drawPower_109 : decode cX3_drawPower 109 = .ok (.aload_n 0, 1) := by decide +kernel
theorem dX3_drawPower_110 : decode cX3_drawPower 110 = .ok (.getfield 21, 3) := by decide +kernel
theorem dX3_drawPower_113 : decode cX3_drawPower 113 = .ok (.invokevirtual 78, 3) := by decide +kernel
theorem dX3_drawPower_116 : decode cX3_drawPower 116 = .ok (.iinc 4 1, 3) := by decide +kernel
theorem dX3_drawPower_119 : decode cX3_drawPower 119 = .ok (.goto (-98), 3) := by decide +kernel
theorem dX3_drawPower_122 : decode cX3_drawPower 122 = .ok (.return_, 1) := by decide +kernel
theorem dX3_drawTimetable_0 : decode cX3_drawTimetable 0 = .ok (.aload_n 0, 1) := by decide +kernel
theorem dX3_drawTimetable_1 : decode cX3_drawTimetable 1 = .ok (.getfield 21, 3) := by decide +kernel
theorem dX3_drawTimetable_4 : decode cX3_drawTimetable 4 = .ok (.aload_n 1, 1) := by decide +kernel
theorem dX3_drawTimetable_5 : decode cX3_drawTimetable 5 = .ok (.invokevirtual 139, 3) := by decide +kernel
theorem dX3_drawTimetable_8 : decode cX3_drawTimetable 8 = .ok (.iconst 0, 1) := by decide +kernel
theorem dX3_drawTimetable_9 : decode cX3_drawTimetable 9 = .ok (.istore_n 3, 1) := by decide +kernel
theorem dX3_drawTimetable_10 : decode cX3_drawTimetable 10 = .ok (.iload_n 3, 1) := by decide +kernel
theorem dX3_drawTimetable_11 : decode cX3_drawTimetable 11 = .ok (.sipush 200, 3) := by decide +kernel
theorem dX3_drawTimetable_14 : decode cX3_drawTimetable 14 = .ok (.if_icmp .ge 71, 3) := by decide +kernel
theorem dX3_drawTimetable_17 : decode cX3_drawTimetable 17 = .ok (.aload_n 0, 1) := by decide +kernel
theorem dX3_drawTimetable_18 : decode cX3_drawTimetable 18 = .ok (.getfield 12, 3) := by decide +kernel
theorem dX3_drawTimetable_21 : decode cX3_drawTimetable 21 = .ok (.aload_n 1, 1) := by decide +kernel
theorem dX3_drawTimetable_22 : decode cX3_drawTimetable 22 = .ok (.aload_n 0, 1) := by decide +kernel
theorem dX3_drawTimetable_23 : decode cX3_drawTimetable 23 = .ok (.getfield 21, 3) := by decide +kernel
theorem dX3_drawTimetable_26 : decode cX3_drawTimetable 26 = .ok (.invokevirtual 78, 3) := by decide +kernel
theorem dX3_drawTimetable_29 : decode cX3_drawTimetable 29 = .ok (.iconst 0, 1) := by decide +kernel
theorem dX3_drawTimetable_30 : decode cX3_drawTimetable 30 = .ok (.istore 4, 2) := by decide +kernel
theorem dX3_drawTimetable_32 : decode cX3_drawTimetable 32 = .ok (.iload 4, 2) := by decide +kernel
theorem dX3_drawTimetable_34 : decode cX3_drawTimetable 34 = .ok (.aload_n 1, 1) := by decide +kernel
theorem dX3_drawTimetable_35 : decode cX3_drawTimetable 35 = .ok (.getfield 115, 3) := by decide +kernel
theorem dX3_drawTimetable_38 : decode cX3_drawTimetable 38 = .ok (.if_icmp .ge 41, 3) := by decide +kernel
theorem dX3_drawTimetable_79 : decode cX3_drawTimetable 79 = .ok (.iinc 3 1, 3) := by decide +kernel
theorem dX3_drawTimetable_82 : decode cX3_drawTimetable 82 = .ok (.goto (-72), 3) := by decide +kernel
theorem dX3_drawTimetable_85 : decode cX3_drawTimetable 85 = .ok (.return_, 1) := by decide +kernel
theorem dX3_followCoast_0 : decode cX3_followCoast 0 = .ok (.bipush 10, 2) := by decide +kernel
theorem dX3_followCoast_2 : decode cX3_followCoast 2 = .ok (.iload_n 2, 1) := by decide +kernel
theorem dX3_followCoast_3 : decode cX3_followCoast 3 = .ok (.imul, 1) := by decide +kernel
theorem dX3_followCoast_4 : decode cX3_followCoast 4 = .ok (.istore 4, 2) := by decide +kernel
theorem dX3_followCoast_6 : decode cX3_followCoast 6 = .ok (.iload_n 3, 1) := by decide +kernel
theorem dX3_followCoast_7 : decode cX3_followCoast 7 = .ok (.istore 5, 2) := by decide +kernel
theorem dX3_followCoast_9 : decode cX3_followCoast 9 = .ok (.iconst 1, 1) := by decide +kernel
theorem dX3_followCoast_10 : decode cX3_followCoast 10 = .ok (.istore 6, 2) := by decide +kernel
theorem dX3_followCoast_12 : decode cX3_followCoast 12 = .ok (.iload 6, 2) := by decide +kernel
theorem dX3_followCoast_14 : decode cX3_followCoast 14 = .ok (.sipush 500, 3) := by decide +kernel
theorem dX3_followCoast_17 : decode cX3_followCoast 17 = .ok (.if_icmp .gt 124, 3) := by decide +kernel
theorem dX3_followCoast_20 : decode cX3_followCoast 20 = .ok (.aload_n 1, 1) := by decide +kernel
theorem dX3_followCoast_21 : decode cX3_followCoast 21 = .ok (.iload 5, 2) := by decide +kernel
theorem dX3_followCoast_23 : decode cX3_followCoast 23 = .ok (.iload 4, 2) := by decide +kernel
theorem dX3_followCoast_25 : decode cX3_followCoast 25 = .ok (.bipush 10, 2) := by decide +kernel
theorem dX3_followCoast_27 : decode cX3_followCoast 27 = .ok (.idiv, 1) := by decide +kernel
theorem dX3_followCoast_28 : decode cX3_followCoast 28 = .ok (.invokevirtual 25, 3) := by decide +kernel
theorem dX3_followCoast_31 : decode cX3_followCoast 31 = .ok (.istore 5, 2) := by decide +kernel
theorem dX3_followCoast_33 : decode cX3_followCoast 33 = .ok (.iload 4, 2) := by decide +kernel
theorem dX3_followCoast_35 : decode cX3_followCoast 35 = .ok (.iload 5, 2) := by decide +kernel
theorem dX3_followCoast_37 : decode cX3_followCoast 37 = .ok (.iadd, 1) := by decide +kernel
theorem dX3_followCoast_38 : decode cX3_followCoast 38 = .ok (.istore 4, 2) := by decide +kernel
theorem dX3_followCoast_40 : decode cX3_followCoast 40 = .ok (.iload 4, 2) := by decide +kernel
theorem dX3_followCoast_42 : decode cX3_followCoast 42 = .ok (.ifCond .lt 11, 3) := by decide +kernel
theorem dX3_followCoast_45 : decode cX3_followCoast 45 = .ok (.iload 4, 2) := by decide +kernel
theorem dX3_followCoast_47 : decode cX3_followCoast 47 = .ok (.sipush 600, 3) := by decide +kernel
theorem dX3_followCoast_50 : decode cX3_followCoast 50 = .ok (.if_icmp .lt 7, 3) := by decide +kernel
theorem dX3_followCoast_53 : decode cX3_followCoast 53 = .ok (.iconst 1, 1) := by decide +kernel
theorem dX3_followCoast_54 : decode cX3_followCoast 54 = .ok (.goto 4, 3) := by decide +kernel
theorem dX3_followCoast_57 : decode cX3_followCoast 57 = .ok (.iconst 0, 1) := by decide +kernel
theorem dX3_followCoast_58 : decode cX3_followCoast 58 = .ok (.istore 7, 2) := by decide +kernel
theorem dX3_followCoast_60 : decode cX3_followCoast 60 = .ok (.aload_n 0, 1) := by decide +kernel
theorem dX3_followCoast_61 : decode cX3_followCoast 61 = .ok (.iload 6, 2) := by decide +kernel
theorem dX3_followCoast_63 : decode cX3_followCoast 63 = .ok (.putfield 31, 3) := by decide +kernel
theorem dX3_followCoast_66 : decode cX3_followCoast 66 = .ok (.aload_n 0, 1) := by decide +kernel
theorem dX3_followCoast_67 : decode cX3_followCoast 67 = .ok (.iload 7, 2) := by decide +kernel
theorem dX3_followCoast_69 : decode cX3_followCoast 69 = .ok (.ifCond .eq 7, 3) := by decide +kernel
theorem dX3_followCoast_72 : decode cX3_followCoast 72 = .ok (.iconst (-1), 1) := by decide +kernel
theorem dX3_followCoast_73 : decode cX3_followCoast 73 = .ok (.goto 8, 3) := by decide +kernel
theorem dX3_followCoast_76 : decode cX3_followCoast 76 = .ok (.iload 4, 2) := by decide +kernel
theorem dX3_followCoast_78 : decode cX3_followCoast 78 = .ok (.bipush 10, 2) := by decide +kernel
theorem dX3_followCoast_80 : decode cX3_followCoast 80 = .ok (.idiv, 1) := by decide +kernel
theorem dX3_followCoast_81 : decode cX3_followCoast 81 = .ok (.putfield 35, 3) := by decide +kernel
theorem dX3_followCoast_84 : decode cX3_followCoast 84 = .ok (.aload_n 0, 1) := by decide +kernel
theorem dX3_followCoast_85 : decode cX3_followCoast 85 = .ok (.aload_n 1, 1) := by decide +kernel
theorem dX3_followCoast_86 : decode cX3_followCoast 86 = .ok (.aload_n 0, 1) := by decide +kernel
theorem dX3_followCoast_87 : decode cX3_followCoast 87 = .ok (.getfield 35, 3) := by decide +kernel
theorem dX3_followCoast_90 : decode cX3_followCoast 90 = .ok (.invokevirtual 38, 3) := by decide +kernel
theorem dX3_followCoast_93 : decode cX3_followCoast 93 = .ok (.iconst (-1), 1) := by decide +kernel
theorem dX3_followCoast_94 : decode cX3_followCoast 94 = .ok (.if_icmp .eq 7, 3) := by decide +kernel
theorem dX3_followCoast_101 : decode cX3_followCoast 101 = .ok (.iconst 0, 1) := by decide +kernel
theorem dX3_followCoast_102 : decode cX3_followCoast 102 = .ok (.putfield 42, 3) := by decide +kernel
theorem dX3_followCoast_105 : decode cX3_followCoast 105 = .ok (.iload 7, 2) := by decide +kernel
theorem dX3_followCoast_107 : decode cX3_followCoast 107 = .ok (.ifCond .ne 27, 3) := by decide +kernel
theorem dX3_followCoast_110 : decode cX3_followCoast 110 = .ok (.aload_n 0, 1) := by decide +kernel
theorem dX3_followCoast_111 : decode cX3_followCoast 111 = .ok (.getfield 42, 3) := by decide +kernel
theorem dX3_followCoast_114 : decode cX3_followCoast 114 = .ok (.ifCond .ne 20, 3) := by decide +kernel
theorem dX3_followCoast_117 : decode cX3_followCoast 117 = .ok (.iload 5, 2) := by decide +kernel
theorem dX3_followCoast_119 : decode cX3_followCoast 119 = .ok (.ifCond .eq 15, 3) := by decide +kernel
theorem dX3_followCoast_122 : decode cX3_followCoast 122 = .ok (.iload 5, 2) := by decide +kernel
theorem dX3_followCoast_124 : decode cX3_followCoast 124 = .ok (.invokestatic 46, 3) := by decide +kernel
theorem dX3_followCoast_127 : decode cX3_followCoast 127 = .ok (.iload_n 3, 1) := by decide +kernel
theorem dX3_followCoast_128 : decode cX3_followCoast 128 = .ok (.invokestatic 46, 3) := by decide +kernel
theorem dX3_followCoast_131 : decode cX3_followCoast 131 = .ok (.if_icmp .eq 4, 3) := by decide +kernel
theorem dX3_followCoast_134 : decode cX3_followCoast 134 = .ok (.return_, 1) := by decide +kernel
theorem dX3_followCoast_135 : decode cX3_followCoast 135 = .ok (.iinc 6 1, 3) := by decide +kernel
theorem dX3_followCoast_138 : decode cX3_followCoast 138 = .ok (.goto (-126), 3) := by decide +kernel
theorem dX3_gapNow_0 : decode cX3_gapNow 0 = .ok (.iconst (-1), 1) := by decide +kernel
theorem dX3_gapNow_1 : decode cX3_gapNow 1 = .ok (.istore_n 2, 1) := by decide +kernel
theorem dX3_gapNow_2 : decode cX3_gapNow 2 = .ok (.iconst 0, 1) := by decide +kernel
theorem dX3_gapNow_3 : decode cX3_gapNow 3 = .ok (.istore_n 3, 1) := by decide +kernel
theorem dX3_gapNow_4 : decode cX3_gapNow 4 = .ok (.iload_n 3, 1) := by decide +kernel
theorem dX3_gapNow_5 : decode cX3_gapNow 5 = .ok (.aload_n 1, 1) := by decide +kernel
theorem dX3_gapNow_6 : decode cX3_gapNow 6 = .ok (.getfield 115, 3) := by decide +kernel
theorem dX3_gapNow_9 : decode cX3_gapNow 9 = .ok (.if_icmp .ge 110, 3) := by decide +kernel
theorem dX3_gapNow_119 : decode cX3_gapNow 119 = .ok (.iload_n 2, 1) := by decide +kernel
theorem dX3_gapNow_120 : decode cX3_gapNow 120 = .ok (.ireturn, 1) := by decide +kernel
theorem dX3_leastGapIfWaits_0 : decode cX3_leastGapIfWaits 0 = .ok (.aload_n 0, 1) := by decide +kernel
theorem dX3_leastGapIfWaits_1 : decode cX3_leastGapIfWaits 1 = .ok (.getfield 21, 3) := by decide +kernel
theorem dX3_leastGapIfWaits_4 : decode cX3_leastGapIfWaits 4 = .ok (.aload_n 2, 1) := by decide +kernel
theorem dX3_leastGapIfWaits_5 : decode cX3_leastGapIfWaits 5 = .ok (.invokevirtual 66, 3) := by decide +kernel
theorem dX3_leastGapIfWaits_8 : decode cX3_leastGapIfWaits 8 = .ok (.iload 4, 2) := by decide +kernel
theorem dX3_leastGapIfWaits_10 : decode cX3_leastGapIfWaits 10 = .ok (.ifCond .le 25, 3) := by decide +kernel
theorem dX3_leastGapIfWaits_35 : decode cX3_leastGapIfWaits 35 = .ok (.iconst (-1), 1) := by decide +kernel
theorem dX3_leastGapIfWaits_36 : decode cX3_leastGapIfWaits 36 = .ok (.istore 6, 2) := by decide +kernel
theorem dX3_leastGapIfWaits_38 : decode cX3_leastGapIfWaits 38 = .ok (.iconst 0, 1) := by decide +kernel
theorem dX3_leastGapIfWaits_39 : decode cX3_leastGapIfWaits 39 = .ok (.istore 7, 2) := by decide +kernel
theorem dX3_leastGapIfWaits_41 : decode cX3_leastGapIfWaits 41 = .ok (.iload 7, 2) := by decide +kernel
theorem dX3_leastGapIfWaits_43 : decode cX3_leastGapIfWaits 43 = .ok (.iload 5, 2) := by decide +kernel
theorem dX3_leastGapIfWaits_45 : decode cX3_leastGapIfWaits 45 = .ok (.if_icmp .ge 56, 3) := by decide +kernel
theorem dX3_leastGapIfWaits_48 : decode cX3_leastGapIfWaits 48 = .ok (.iload 6, 2) := by decide +kernel
theorem dX3_leastGapIfWaits_50 : decode cX3_leastGapIfWaits 50 = .ok (.ifCond .eq 51, 3) := by decide +kernel
theorem dX3_leastGapIfWaits_53 : decode cX3_leastGapIfWaits 53 = .ok (.aload_n 0, 1) := by decide +kernel
theorem dX3_leastGapIfWaits_54 : decode cX3_leastGapIfWaits 54 = .ok (.getfield 12, 3) := by decide +kernel
theorem dX3_leastGapIfWaits_57 : decode cX3_leastGapIfWaits 57 = .ok (.aload_n 1, 1) := by decide +kernel
theorem dX3_leastGapIfWaits_58 : decode cX3_leastGapIfWaits 58 = .ok (.aload_n 0, 1) := by decide +kernel
theorem dX3_leastGapIfWaits_59 : decode cX3_leastGapIfWaits 59 = .ok (.getfield 21, 3) := by decide +kernel
theorem dX3_leastGapIfWaits_62 : decode cX3_leastGapIfWaits 62 = .ok (.invokevirtual 78, 3) := by decide +kernel
theorem dX3_leastGapIfWaits_65 : decode cX3_leastGapIfWaits 65 = .ok (.aload_n 0, 1) := by decide +kernel
theorem dX3_leastGapIfWaits_66 : decode cX3_leastGapIfWaits 66 = .ok (.aload_n 1, 1) := by decide +kernel
theorem dX3_leastGapIfWaits_67 : decode cX3_leastGapIfWaits 67 = .ok (.invokevirtual 111, 3) := by decide +kernel
theorem dX3_leastGapIfWaits_70 : decode cX3_leastGapIfWaits 70 = .ok (.istore 8, 2) := by decide +kernel
theorem dX3_leastGapIfWaits_72 : decode cX3_leastGapIfWaits 72 = .ok (.iload 8, 2) := by decide +kernel
theorem dX3_leastGapIfWaits_74 : decode cX3_leastGapIfWaits 74 = .ok (.iconst (-1), 1) := by decide +kernel
theorem dX3_leastGapIfWaits_75 : decode cX3_leastGapIfWaits 75 = .ok (.if_icmp .eq 20, 3) := by decide +kernel
theorem dX3_leastGapIfWaits_95 : decode cX3_leastGapIfWaits 95 = .ok (.iinc 7 1, 3) := by decide +kernel
theorem dX3_leastGapIfWaits_98 : decode cX3_leastGapIfWaits 98 = .ok (.goto (-57), 3) := by decide +kernel
theorem dX3_leastGapIfWaits_101 : decode cX3_leastGapIfWaits 101 = .ok (.iload 6, 2) := by decide +kernel
theorem dX3_leastGapIfWaits_103 : decode cX3_leastGapIfWaits 103 = .ok (.ireturn, 1) := by decide +kernel
theorem dX3_leastSpeedToRope_0 : decode cX3_leastSpeedToRope 0 = .ok (.iconst 1, 1) := by decide +kernel
theorem dX3_leastSpeedToRope_1 : decode cX3_leastSpeedToRope 1 = .ok (.istore_n 3, 1) := by decide +kernel
theorem dX3_leastSpeedToRope_2 : decode cX3_leastSpeedToRope 2 = .ok (.iload_n 3, 1) := by decide +kernel
theorem dX3_leastSpeedToRope_3 : decode cX3_leastSpeedToRope 3 = .ok (.bipush 60, 2) := by decide +kernel
theorem dX3_leastSpeedToRope_5 : decode cX3_leastSpeedToRope 5 = .ok (.if_icmp .gt 25, 3) := by decide +kernel
theorem dX3_leastSpeedToRope_8 : decode cX3_leastSpeedToRope 8 = .ok (.aload_n 0, 1) := by decide +kernel
theorem dX3_leastSpeedToRope_9 : decode cX3_leastSpeedToRope 9 = .ok (.aload_n 1, 1) := by decide +kernel
theorem dX3_leastSpeedToRope_10 : decode cX3_leastSpeedToRope 10 = .ok (.iload_n 2, 1) := by decide +kernel
theorem dX3_leastSpeedToRope_11 : decode cX3_leastSpeedToRope 11 = .ok (.iload_n 3, 1) := by decide +kernel
theorem dX3_leastSpeedToRope_12 : decode cX3_leastSpeedToRope 12 = .ok (.invokevirtual 51, 3) := by decide +kernel
theorem dX3_leastSpeedToRope_15 : decode cX3_leastSpeedToRope 15 = .ok (.aload_n 0, 1) := by decide +kernel
theorem dX3_leastSpeedToRope_16 : decode cX3_leastSpeedToRope 16 = .ok (.getfield 42, 3) := by decide +kernel
theorem dX3_leastSpeedToRope_19 : decode cX3_leastSpeedToRope 19 = .ok (.ifCond .eq 5, 3) := by decide +kernel
theorem dX3_leastSpeedToRope_24 : decode cX3_leastSpeedToRope 24 = .ok (.iinc 3 1, 3) := by decide +kernel
theorem dX3_leastSpeedToRope_27 : decode cX3_leastSpeedToRope 27 = .ok (.goto (-25), 3) := by decide +kernel
theorem dX3_leastSpeedToRope_30 : decode cX3_leastSpeedToRope 30 = .ok (.iconst (-1), 1) := by decide +kernel
theorem dX3_leastSpeedToRope_31 : decode cX3_leastSpeedToRope 31 = .ok (.ireturn, 1) := by decide +kernel
theorem dX3_ticksTillWorn_0 : decode cX3_ticksTillWorn 0 = .ok (.aload_n 1, 1) := by decide +kernel
theorem dX3_ticksTillWorn_1 : decode cX3_ticksTillWorn 1 = .ok (.iload_n 3, 1) := by decide +kernel
theorem dX3_ticksTillWorn_2 : decode cX3_ticksTillWorn 2 = .ok (.invokevirtual 85, 3) := by decide +kernel
theorem dX3_ticksTillWorn_5 : decode cX3_ticksTillWorn 5 = .ok (.ifCond .eq 12, 3) := by decide +kernel
theorem dX3_ticksTillWorn_17 : decode cX3_ticksTillWorn 17 = .ok (.iconst (-1), 1) := by decide +kernel
theorem dX3_ticksTillWorn_18 : decode cX3_ticksTillWorn 18 = .ok (.istore 4, 2) := by decide +kernel
theorem dX3_ticksTillWorn_20 : decode cX3_ticksTillWorn 20 = .ok (.aload_n 0, 1) := by decide +kernel
theorem dX3_ticksTillWorn_21 : decode cX3_ticksTillWorn 21 = .ok (.getfield 21, 3) := by decide +kernel
theorem dX3_ticksTillWorn_24 : decode cX3_ticksTillWorn 24 = .ok (.aload_n 2, 1) := by decide +kernel
theorem dX3_ticksTillWorn_25 : decode cX3_ticksTillWorn 25 = .ok (.invokevirtual 66, 3) := by decide +kernel
theorem dX3_ticksTillWorn_28 : decode cX3_ticksTillWorn 28 = .ok (.iconst 1, 1) := by decide +kernel
theorem dX3_ticksTillWorn_29 : decode cX3_ticksTillWorn 29 = .ok (.istore 5, 2) := by decide +kernel
theorem dX3_ticksTillWorn_31 : decode cX3_ticksTillWorn 31 = .ok (.iload 5, 2) := by decide +kernel
theorem dX3_ticksTillWorn_33 : decode cX3_ticksTillWorn 33 = .ok (.sipush 500, 3) := by decide +kernel
theorem dX3_ticksTillWorn_36 : decode cX3_ticksTillWorn 36 = .ok (.if_icmp .gt 64, 3) := by decide +kernel
theorem dX3_ticksTillWorn_39 : decode cX3_ticksTillWorn 39 = .ok (.aload_n 1, 1) := by decide +kernel
theorem dX3_ticksTillWorn_40 : decode cX3_ticksTillWorn 40 = .ok (.iload 4, 2) := by decide +kernel
theorem dX3_ticksTillWorn_42 : decode cX3_ticksTillWorn 42 = .ok (.invokevirtual 70, 3) := by decide +kernel
theorem dX3_ticksTillWorn_45 : decode cX3_ticksTillWorn 45 = .ok (.ifCond .eq 55, 3) := by decide +kernel
theorem dX3_ticksTillWorn_100 : decode cX3_ticksTillWorn 100 = .ok (.iconst (-1), 1) := by decide +kernel
theorem dX3_ticksTillWorn_101 : decode cX3_ticksTillWorn 101 = .ok (.ireturn, 1) := by decide +kernel
theorem dX4_init_0 : decode cX4_init 0 = .ok (.aload_n 0, 1) := by decide +kernel
theorem dX4_init_1 : decode cX4_init 1 = .ok (.invokespecial 3, 3) := by decide +kernel
theorem dX4_init_4 : decode cX4_init 4 = .ok (.aload_n 0, 1) := by decide +kernel
theorem dX4_init_5 : decode cX4_init 5 = .ok (.iconst 0, 1) := by decide +kernel
theorem dX4_init_6 : decode cX4_init 6 = .ok (.newarray .byte, 2) := by decide +kernel
theorem dX4_init_8 : decode cX4_init 8 = .ok (.putfield 9, 3) := by decide +kernel
theorem dX4_init_11 : decode cX4_init 11 = .ok (.return_, 1) := by decide +kernel
theorem dX4_advance_0 : decode cX4_advance 0 = .ok (.aload_n 0, 1) := by decide +kernel
theorem dX4_advance_1 : decode cX4_advance 1 = .ok (.getfield 28, 3) := by decide +kernel
theorem dX4_advance_4 : decode cX4_advance 4 = .ok (.aload_n 0, 1) := by decide +kernel
theorem dX4_advance_5 : decode cX4_advance 5 = .ok (.getfield 24, 3) := by decide +kernel
theorem dX4_advance_8 : decode cX4_advance 8 = .ok (.if_icmp .ge 44, 3) := by decide +kernel
theorem dX4_advance_52 : decode cX4_advance 52 = .ok (.aload_n 0, 1) := by decide +kernel
theorem dX4_advance_53 : decode cX4_advance 53 = .ok (.aload_n 0, 1) := by decide +kernel
theorem dX4_advance_54 : decode cX4_advance 54 = .ok (.getfield 28, 3) := by decide +kernel
theorem dX4_advance_57 : decode cX4_advance 57 = .ok (.putfield 34, 3) := by decide +kernel
theorem dX4_advance_60 : decode cX4_advance 60 = .ok (.aload_n 0, 1) := by decide +kernel
theorem dX4_advance_61 : decode cX4_advance 61 = .ok (.iconst (-1), 1) := by decide +kernel
theorem dX4_advance_62 : decode cX4_advance 62 = .ok (.putfield 37, 3) := by decide +kernel
theorem dX4_advance_65 : decode cX4_advance 65 = .ok (.aload_n 0, 1) := by decide +kernel
theorem dX4_advance_66 : decode cX4_advance 66 = .ok (.getfield 28, 3) := by decide +kernel
theorem dX4_advance_69 : decode cX4_advance 69 = .ok (.aload_n 0, 1) := by decide +kernel
theorem dX4_advance_70 : decode cX4_advance 70 = .ok (.getfield 24, 3) := by decide +kernel
theorem dX4_advance_73 : decode cX4_advance 73 = .ok (.if_icmp .lt 11, 3) := by decide +kernel
theorem dX4_advance_76 : decode cX4_advance 76 = .ok (.aload_n 0, 1) := by decide +kernel
theorem dX4_advance_77 : decode cX4_advance 77 = .ok (.iconst 0, 1) := by decide +kernel
theorem dX4_advance_78 : decode cX4_advance 78 = .ok (.putfield 40, 3) := by decide +kernel
theorem dX4_advance_81 : decode cX4_advance 81 = .ok (.goto 111, 3) := by decide +kernel
theorem dX4_advance_192 : decode cX4_advance 192 = .ok (.return_, 1) := by decide +kernel
theorem dX4_open_0 : decode cX4_open 0 = .ok (.aload_n 0, 1) := by decide +kernel
theorem dX4_open_1 : decode cX4_open 1 = .ok (.aload_n 1, 1) := by decide +kernel
theorem dX4_open_2 : decode cX4_open 2 = .ok (.putfield 9, 3) := by decide +kernel
theorem dX4_open_5 : decode cX4_open 5 = .ok (.aload_n 0, 1) := by decide +kernel
theorem dX4_open_6 : decode cX4_open 6 = .ok (.iconst 0, 1) := by decide +kernel
theorem dX4_open_7 : decode cX4_open 7 = .ok (.iload_n 2, 1) := by decide +kernel
theorem dX4_open_8 : decode cX4_open 8 = .ok (.aload_n 0, 1) := by decide +kernel
theorem dX4_open_9 : decode cX4_open 9 = .ok (.getfield 9, 3) := by decide +kernel
theorem dX4_open_12 : decode cX4_open 12 = .ok (.arraylength, 1) := by decide +kernel
theorem dX4_open_13 : decode cX4_open 13 = .ok (.invokestatic 15, 3) := by decide +kernel
theorem dX4_open_16 : decode cX4_open 16 = .ok (.invokestatic 21, 3) := by decide +kernel
theorem dX4_open_19 : decode cX4_open 19 = .ok (.putfield 24, 3) := by decide +kernel
theorem dX4_open_22 : decode cX4_open 22 = .ok (.aload_n 0, 1) := by decide +kernel
theorem dX4_open_23 : decode cX4_open 23 = .ok (.iconst 0, 1) := by decide +kernel
theorem dX4_open_24 : decode cX4_open 24 = .ok (.putfield 28, 3) := by decide +kernel
theorem dX4_open_27 : decode cX4_open 27 = .ok (.aload_n 0, 1) := by decide +kernel
theorem dX4_open_28 : decode cX4_open 28 = .ok (.invokevirtual 31, 3) := by decide +kernel
theorem dX4_open_31 : decode cX4_open 31 = .ok (.return_, 1) := by decide +kernel
theorem dX5_init_0 : decode cX5_init 0 = .ok (.aload_n 0, 1) := by decide +kernel
theorem dX5_init_1 : decode cX5_init 1 = .ok (.invokespecial 3, 3) := by decide +kernel
theorem dX5_init_4 : decode cX5_init 4 = .ok (.aload_n 0, 1) := by decide +kernel
theorem dX5_init_5 : decode cX5_init 5 = .ok (.iconst 0, 1) := by decide +kernel
theorem dX5_init_6 : decode cX5_init 6 = .ok (.putfield 9, 3) := by decide +kernel
theorem dX5_init_9 : decode cX5_init 9 = .ok (.aload_n 0, 1) := by decide +kernel
theorem dX5_init_10 : decode cX5_init 10 = .ok (.iconst 0, 1) := by decide +kernel
theorem dX5_init_11 : decode cX5_init 11 = .ok (.putfield 15, 3) := by decide +kernel
theorem dX5_init_14 : decode cX5_init 14 = .ok (.aload_n 0, 1) := by decide +kernel
theorem dX5_init_15 : decode cX5_init 15 = .ok (.bipush 60, 2) := by decide +kernel
theorem dX5_init_17 : decode cX5_init 17 = .ok (.newarray .int, 2) := by decide +kernel
theorem dX5_init_19 : decode cX5_init 19 = .ok (.putfield 18, 3) := by decide +kernel
theorem dX5_init_22 : decode cX5_init 22 = .ok (.aload_n 0, 1) := by decide +kernel
theorem dX5_init_23 : decode cX5_init 23 = .ok (.bipush 60, 2) := by decide +kernel
theorem dX5_init_25 : decode cX5_init 25 = .ok (.newarray .int, 2) := by decide +kernel
theorem dX5_init_27 : decode cX5_init 27 = .ok (.putfield 22, 3) := by decide +kernel
theorem dX5_init_30 : decode cX5_init 30 = .ok (.aload_n 0, 1) := by decide +kernel
theorem dX5_init_31 : decode cX5_init 31 = .ok (.bipush 60, 2) := by decide +kernel
theorem dX5_init_33 : decode cX5_init 33 = .ok (.newarray .int, 2) := by decide +kernel
theorem dX5_init_35 : decode cX5_init 35 = .ok (.putfield 25, 3) := by decide +kernel
theorem dX5_init_38 : decode cX5_init 38 = .ok (.aload_n 0, 1) := by decide +kernel
theorem dX5_init_39 : decode cX5_init 39 = .ok (.bipush 60, 2) := by decide +kernel
theorem dX5_init_41 : decode cX5_init 41 = .ok (.newarray .int, 2) := by decide +kernel
theorem dX5_init_43 : decode cX5_init 43 = .ok (.putfield 28, 3) := by decide +kernel
theorem dX5_init_46 : decode cX5_init 46 = .ok (.aload_n 0, 1) := by decide +kernel
theorem dX5_init_47 : decode cX5_init 47 = .ok (.bipush 60, 2) := by decide +kernel
theorem dX5_init_49 : decode cX5_init 49 = .ok (.newarray .int, 2) := by decide +kernel
theorem dX5_init_51 : decode cX5_init 51 = .ok (.putfield 31, 3) := by decide +kernel
theorem dX5_init_54 : decode cX5_init 54 = .ok (.aload_n 0, 1) := by decide +kernel
theorem dX5_init_55 : decode cX5_init 55 = .ok (.sipush 1000, 3) := by decide +kernel
theorem dX5_init_58 : decode cX5_init 58 = .ok (.newarray .int, 2) := by decide +kernel
theorem dX5_init_60 : decode cX5_init 60 = .ok (.putfield 34, 3) := by decide +kernel
theorem dX5_init_63 : decode cX5_init 63 = .ok (.aload_n 0, 1) := by decide +kernel
theorem dX5_init_64 : decode cX5_init 64 = .ok (.iconst 0, 1) := by decide +kernel
theorem dX5_init_65 : decode cX5_init 65 = .ok (.putfield 37, 3) := by decide +kernel
theorem dX5_init_68 : decode cX5_init 68 = .ok (.return_, 1) := by decide +kernel
theorem dX5_falseOnes_0 : decode cX5_falseOnes 0 = .ok (.iconst 0, 1) := by decide +kernel
theorem dX5_falseOnes_1 : decode cX5_falseOnes 1 = .ok (.istore_n 2, 1) := by decide +kernel
theorem dX5_falseOnes_2 : decode cX5_falseOnes 2 = .ok (.iconst 0, 1) := by decide +kernel
theorem dX5_falseOnes_3 : decode cX5_falseOnes 3 = .ok (.istore_n 3, 1) := by decide +kernel
theorem dX5_falseOnes_4 : decode cX5_falseOnes 4 = .ok (.iload_n 3, 1) := by decide +kernel
theorem dX5_falseOnes_5 : decode cX5_falseOnes 5 = .ok (.aload_n 0, 1) := by decide +kernel
theorem dX5_falseOnes_6 : decode cX5_falseOnes 6 = .ok (.getfield 15, 3) := by decide +kernel
theorem dX5_falseOnes_9 : decode cX5_falseOnes 9 = .ok (.if_icmp .ge 29, 3) := by decide +kernel
theorem dX5_falseOnes_38 : decode cX5_falseOnes 38 = .ok (.iload_n 2, 1) := by decide +kernel
theorem dX5_falseOnes_39 : decode cX5_falseOnes 39 = .ok (.ireturn, 1) := by decide +kernel
theorem dX5_firstFalse_0 : decode cX5_firstFalse 0 = .ok (.iconst 0, 1) := by decide +kernel
theorem dX5_firstFalse_1 : decode cX5_firstFalse 1 = .ok (.istore_n 2, 1) := by decide +kernel
theorem dX5_firstFalse_2 : decode cX5_firstFalse 2 = .ok (.iload_n 2, 1) := by decide +kernel
theorem dX5_firstFalse_3 : decode cX5_firstFalse 3 = .ok (.aload_n 0, 1) := by decide +kernel
theorem dX5_firstFalse_4 : decode cX5_firstFalse 4 = .ok (.getfield 15, 3) := by decide +kernel
theorem dX5_firstFalse_7 : decode cX5_firstFalse 7 = .ok (.if_icmp .ge 28, 3) := by decide +kernel
theorem dX5_firstFalse_35 : decode cX5_firstFalse 35 = .ok (.iconst (-1), 1) := by decide +kernel
theorem dX5_firstFalse_36 : decode cX5_firstFalse 36 = .ok (.ireturn, 1) := by decide +kernel
theorem dX5_forget_0 : decode cX5_forget 0 = .ok (.aload_n 0, 1) := by decide +kernel
theorem dX5_forget_1 : decode cX5_forget 1 = .ok (.iconst 0, 1) := by decide +kernel
theorem dX5_forget_2 : decode cX5_forget 2 = .ok (.putfield 15, 3) := by decide +kernel
theorem dX5_forget_5 : decode cX5_forget 5 = .ok (.aload_n 0, 1) := by decide +kernel
theorem dX5_forget_6 : decode cX5_forget 6 = .ok (.iconst 0, 1) := by decide +kernel
theorem dX5_forget_7 : decode cX5_forget 7 = .ok (.putfield 37, 3) := by decide +kernel
theorem dX5_forget_10 : decode cX5_forget 10 = .ok (.return_, 1) := by decide +kernel
theorem dX5_takeBack_0 : decode cX5_takeBack 0 = .ok (.iload_n 1, 1) := by decide +kernel
theorem dX5_takeBack_1 : decode cX5_takeBack 1 = .ok (.ifCond .lt 21, 3) := by decide +kernel
theorem dX5_takeBack_4 : decode cX5_takeBack 4 = .ok (.iload_n 1, 1) := by decide +kernel
theorem dX5_takeBack_5 : decode cX5_takeBack 5 = .ok (.aload_n 0, 1) := by decide +kernel
theorem dX5_takeBack_6 : decode cX5_takeBack 6 = .ok (.getfield 15, 3) := by decide +kernel
theorem dX5_takeBack_9 : decode cX5_takeBack 9 = .ok (.if_icmp .ge 13, 3) := by decide +kernel
theorem dX5_takeBack_22 : decode cX5_takeBack 22 = .ok (.iconst 0, 1) := by decide +kernel
theorem dX5_takeBack_23 : decode cX5_takeBack 23 = .ok (.ireturn, 1) := by decide +kernel
theorem dX6_init_0 : decode cX6_init 0 = .ok (.aload_n 0, 1) := by decide +kernel
theorem dX6_init_1 : decode cX6_init 1 = .ok (.invokespecial 3, 3) := by decide +kernel
theorem dX6_init_4 : decode cX6_init 4 = .ok (.aload_n 0, 1) := by decide +kernel
theorem dX6_init_5 : decode cX6_init 5 = .ok (.iconst 3, 1) := by decide +kernel
theorem dX6_init_6 : decode cX6_init 6 = .ok (.newarray .int, 2) := by decide +kernel
theorem dX6_init_8 : decode cX6_init 8 = .ok (.putfield 9, 3) := by decide +kernel
theorem dX6_init_11 : decode cX6_init 11 = .ok (.aload_n 0, 1) := by decide +kernel
theorem dX6_init_12 : decode cX6_init 12 = .ok (.bipush 41, 2) := by decide +kernel
theorem dX6_init_14 : decode cX6_init 14 = .ok (.newarray .int, 2) := by decide +kernel
theorem dX6_init_16 : decode cX6_init 16 = .ok (.putfield 15, 3) := by decide +kernel
theorem dX6_init_19 : decode cX6_init 19 = .ok (.return_, 1) := by decide +kernel
theorem dX6_countBumps_0 : decode cX6_countBumps 0 = .ok (.iconst 0, 1) := by decide +kernel
theorem dX6_countBumps_1 : decode cX6_countBumps 1 = .ok (.istore_n 1, 1) := by decide +kernel
theorem dX6_countBumps_2 : decode cX6_countBumps 2 = .ok (.iload_n 1, 1) := by decide +kernel
theorem dX6_countBumps_3 : decode cX6_countBumps 3 = .ok (.aload_n 0, 1) := by decide +kernel
theorem dX6_countBumps_4 : decode cX6_countBumps 4 = .ok (.getfield 18, 3) := by decide +kernel
theorem dX6_countBumps_7 : decode cX6_countBumps 7 = .ok (.getfield 41, 3) := by decide +kernel
theorem dX6_countBumps_10 : decode cX6_countBumps 10 = .ok (.if_icmp .ge 101, 3) := by decide +kernel
theorem dX6_countBumps_111 : decode cX6_countBumps 111 = .ok (.return_, 1) := by decide +kernel
theorem dX6_dipRopes_0 : decode cX6_dipRopes 0 = .ok (.iconst 0, 1) := by decide +kernel
theorem dX6_dipRopes_1 : decode cX6_dipRopes 1 = .ok (.istore_n 1, 1) := by decide +kernel
theorem dX6_dipRopes_2 : decode cX6_dipRopes 2 = .ok (.iload_n 1, 1) := by decide +kernel
theorem dX6_dipRopes_3 : decode cX6_dipRopes 3 = .ok (.aload_n 0, 1) := by decide +kernel
theorem dX6_dipRopes_4 : decode cX6_dipRopes 4 = .ok (.getfield 18, 3) := by decide +kernel
theorem dX6_dipRopes_7 : decode cX6_dipRopes 7 = .ok (.getfield 98, 3) := by decide +kernel
theorem dX6_dipRopes_10 : decode cX6_dipRopes 10 = .ok (.if_icmp .ge 77, 3) := by decide +kernel
theorem dX6_dipRopes_87 : decode cX6_dipRopes 87 = .ok (.return_, 1) := by decide +kernel
theorem dX6_moveStrand_0 : decode cX6_moveStrand 0 = .ok (.aload_n 0, 1) := by decide +kernel
theorem dX6_moveStrand_1 : decode cX6_moveStrand 1 = .ok (.getfield 22, 3) := by decide +kernel
theorem dX6_moveStrand_4 : decode cX6_moveStrand 4 = .ok (.getfield 121, 3) := by decide +kernel
theorem dX6_moveStrand_7 : decode cX6_moveStrand 7 = .ok (.istore_n 1, 1) := by decide +kernel
theorem dX6_moveStrand_8 : decode cX6_moveStrand 8 = .ok (.aload_n 0, 1) := by decide +kernel
theorem dX6_moveStrand_9 : decode cX6_moveStrand 9 = .ok (.getfield 18, 3) := by decide +kernel
theorem dX6_moveStrand_12 : decode cX6_moveStrand 12 = .ok (.iload_n 1, 1) := by decide +kernel
theorem dX6_moveStrand_13 : decode cX6_moveStrand 13 = .ok (.invokevirtual 124, 3) := by decide +kernel
theorem dX6_moveStrand_16 : decode cX6_moveStrand 16 = .ok (.ifCond .eq 15, 3) := by decide +kernel
theorem dX6_moveStrand_31 : decode cX6_moveStrand 31 = .ok (.return_, 1) := by decide +kernel
theorem dX6_tick_0 : decode cX6_tick 0 = .ok (.aload_n 0, 1) := by decide +kernel
theorem dX6_tick_1 : decode cX6_tick 1 = .ok (.aload_n 1, 1) := by decide +kernel
theorem dX6_tick_2 : decode cX6_tick 2 = .ok (.putfield 18, 3) := by decide +kernel
theorem dX6_tick_5 : decode cX6_tick 5 = .ok (.aload_n 0, 1) := by decide +kernel
theorem dX6_tick_6 : decode cX6_tick 6 = .ok (.aload_n 2, 1) := by decide +kernel
theorem dX6_tick_7 : decode cX6_tick 7 = .ok (.putfield 22, 3) := by decide +kernel
theorem dX6_tick_10 : decode cX6_tick 10 = .ok (.aload_n 0, 1) := by decide +kernel
theorem dX6_tick_11 : decode cX6_tick 11 = .ok (.getfield 22, 3) := by decide +kernel
theorem dX6_tick_14 : decode cX6_tick 14 = .ok (.dup, 1) := by decide +kernel
theorem dX6_tick_15 : decode cX6_tick 15 = .ok (.getfield 26, 3) := by decide +kernel
theorem dX6_tick_18 : decode cX6_tick 18 = .ok (.iconst 1, 1) := by decide +kernel
theorem dX6_tick_19 : decode cX6_tick 19 = .ok (.iadd, 1) := by decide +kernel
theorem dX6_tick_20 : decode cX6_tick 20 = .ok (.putfield 26, 3) := by decide +kernel
theorem dX6_tick_23 : decode cX6_tick 23 = .ok (.aload_n 0, 1) := by decide +kernel
theorem dX6_tick_24 : decode cX6_tick 24 = .ok (.invokevirtual 32, 3) := by decide +kernel
theorem dX6_tick_27 : decode cX6_tick 27 = .ok (.aload_n 0, 1) := by decide +kernel
theorem dX6_tick_28 : decode cX6_tick 28 = .ok (.invokevirtual 35, 3) := by decide +kernel
theorem dX6_tick_31 : decode cX6_tick 31 = .ok (.aload_n 0, 1) := by decide +kernel
theorem dX6_tick_32 : decode cX6_tick 32 = .ok (.invokevirtual 38, 3) := by decide +kernel
theorem dX6_tick_35 : decode cX6_tick 35 = .ok (.iconst 0, 1) := by decide +kernel
theorem dX6_tick_36 : decode cX6_tick 36 = .ok (.istore_n 3, 1) := by decide +kernel
theorem dX6_tick_37 : decode cX6_tick 37 = .ok (.iload_n 3, 1) := by decide +kernel
theorem dX6_tick_38 : decode cX6_tick 38 = .ok (.aload_n 0, 1) := by decide +kernel
theorem dX6_tick_39 : decode cX6_tick 39 = .ok (.getfield 18, 3) := by decide +kernel
theorem dX6_tick_42 : decode cX6_tick 42 = .ok (.getfield 41, 3) := by decide +kernel
theorem dX6_tick_45 : decode cX6_tick 45 = .ok (.if_icmp .ge 107, 3) := by decide +kernel
theorem dX6_tick_152 : decode cX6_tick 152 = .ok (.aload_n 0, 1) := by decide +kernel
theorem dX6_tick_153 : decode cX6_tick 153 = .ok (.invokevirtual 79, 3) := by decide +kernel
theorem dX6_tick_156 : decode cX6_tick 156 = .ok (.aload_n 0, 1) := by decide +kernel
theorem dX6_tick_157 : decode cX6_tick 157 = .ok (.getfield 18, 3) := by decide +kernel
theorem dX6_tick_160 : decode cX6_tick 160 = .ok (.getfield 82, 3) := by decide +kernel
theorem dX6_tick_163 : decode cX6_tick 163 = .ok (.ifCond .le 7, 3) := by decide +kernel
theorem dX6_tick_170 : decode cX6_tick 170 = .ok (.return_, 1) := by decide +kernel
theorem dX6_wearSplices_0 : decode cX6_wearSplices 0 = .ok (.iconst 0, 1) := by decide +kernel
theorem dX6_wearSplices_1 : decode cX6_wearSplices 1 = .ok (.istore_n 1, 1) := by decide +kernel
theorem dX6_wearSplices_2 : decode cX6_wearSplices 2 = .ok (.iload_n 1, 1) := by decide +kernel
theorem dX6_wearSplices_3 : decode cX6_wearSplices 3 = .ok (.aload_n 0, 1) := by decide +kernel
theorem dX6_wearSplices_4 : decode cX6_wearSplices 4 = .ok (.getfield 18, 3) := by decide +kernel
theorem dX6_wearSplices_7 : decode cX6_wearSplices 7 = .ok (.getfield 152, 3) := by decide +kernel
theorem dX6_wearSplices_10 : decode cX6_wearSplices 10 = .ok (.if_icmp .ge 143, 3) := by decide +kernel
theorem dX6_wearSplices_153 : decode cX6_wearSplices 153 = .ok (.return_, 1) := by decide +kernel
theorem dX7_init_0 : decode cX7_init 0 = .ok (.aload_n 0, 1) := by decide +kernel
theorem dX7_init_1 : decode cX7_init 1 = .ok (.invokespecial 3, 3) := by decide +kernel
theorem dX7_init_4 : decode cX7_init 4 = .ok (.aload_n 0, 1) := by decide +kernel
theorem dX7_init_5 : decode cX7_init 5 = .ok (.iconst 3, 1) := by decide +kernel
theorem dX7_init_6 : decode cX7_init 6 = .ok (.anewarray 9, 3) := by decide +kernel
theorem dX7_init_9 : decode cX7_init 9 = .ok (.putfield 11, 3) := by decide +kernel
theorem dX7_init_12 : decode cX7_init 12 = .ok (.aload_n 0, 1) := by decide +kernel
theorem dX7_init_13 : decode cX7_init 13 = .ok (.bipush 60, 2) := by decide +kernel
theorem dX7_init_15 : decode cX7_init 15 = .ok (.newarray .int, 2) := by decide +kernel
theorem dX7_init_17 : decode cX7_init 17 = .ok (.putfield 17, 3) := by decide +kernel
theorem dX7_init_20 : decode cX7_init 20 = .ok (.aload_n 0, 1) := by decide +kernel
theorem dX7_init_21 : decode cX7_init 21 = .ok (.bipush 60, 2) := by decide +kernel
theorem dX7_init_23 : decode cX7_init 23 = .ok (.newarray .int, 2) := by decide +kernel
theorem dX7_init_25 : decode cX7_init 25 = .ok (.putfield 21, 3) := by decide +kernel
theorem dX7_init_28 : decode cX7_init 28 = .ok (.aload_n 0, 1) := by decide +kernel
theorem dX7_init_29 : decode cX7_init 29 = .ok (.iconst 5, 1) := by decide +kernel
theorem dX7_init_30 : decode cX7_init 30 = .ok (.newarray .int, 2) := by decide +kernel
theorem dX7_init_32 : decode cX7_init 32 = .ok (.putfield 24, 3) := by decide +kernel
theorem dX7_init_35 : decode cX7_init 35 = .ok (.aload_n 0, 1) := by decide +kernel
theorem dX7_init_36 : decode cX7_init 36 = .ok (.iconst 5, 1) := by decide +kernel
theorem dX7_init_37 : decode cX7_init 37 = .ok (.newarray .int, 2) := by decide +kernel
theorem dX7_init_39 : decode cX7_init 39 = .ok (.putfield 27, 3) := by decide +kernel
theorem dX7_init_42 : decode cX7_init 42 = .ok (.aload_n 0, 1) := by decide +kernel
theorem dX7_init_43 : decode cX7_init 43 = .ok (.iconst 4, 1) := by decide +kernel
theorem dX7_init_44 : decode cX7_init 44 = .ok (.bipush 60, 2) := by decide +kernel
theorem dX7_init_46 : decode cX7_init 46 = .ok (.multianewarray 30 2, 4) := by decide +kernel
theorem dX7_init_50 : decode cX7_init 50 = .ok (.putfield 32, 3) := by decide +kernel
theorem dX7_init_53 : decode cX7_init 53 = .ok (.aload_n 0, 1) := by decide +kernel
theorem dX7_init_54 : decode cX7_init 54 = .ok (.bipush 6, 2) := by decide +kernel
theorem dX7_init_56 : decode cX7_init 56 = .ok (.newarray .int, 2) := by decide +kernel
theorem dX7_init_58 : decode cX7_init 58 = .ok (.putfield 35, 3) := by decide +kernel
theorem dX7_init_61 : decode cX7_init 61 = .ok (.aload_n 0, 1) := by decide +kernel
theorem dX7_init_62 : decode cX7_init 62 = .ok (.bipush 6, 2) := by decide +kernel
theorem dX7_init_64 : decode cX7_init 64 = .ok (.newarray .int, 2) := by decide +kernel
theorem dX7_init_66 : decode cX7_init 66 = .ok (.putfield 38, 3) := by decide +kernel
theorem dX7_init_69 : decode cX7_init 69 = .ok (.aload_n 0, 1) := by decide +kernel
theorem dX7_init_70 : decode cX7_init 70 = .ok (.bipush 6, 2) := by decide +kernel
theorem dX7_init_72 : decode cX7_init 72 = .ok (.newarray .int, 2) := by decide +kernel
theorem dX7_init_74 : decode cX7_init 74 = .ok (.putfield 41, 3) := by decide +kernel
theorem dX7_init_77 : decode cX7_init 77 = .ok (.aload_n 0, 1) := by decide +kernel
theorem dX7_init_78 : decode cX7_init 78 = .ok (.new 44, 3) := by decide +kernel
theorem dX7_init_81 : decode cX7_init 81 = .ok (.dup, 1) := by decide +kernel
theorem dX7_init_82 : decode cX7_init 82 = .ok (.invokespecial 46, 3) := by decide +kernel
theorem dX7_init_85 : decode cX7_init 85 = .ok (.putfield 47, 3) := by decide +kernel
theorem dX7_init_88 : decode cX7_init 88 = .ok (.iconst 0, 1) := by decide +kernel
theorem dX7_init_89 : decode cX7_init 89 = .ok (.istore_n 1, 1) := by decide +kernel
theorem dX7_init_90 : decode cX7_init 90 = .ok (.iload_n 1, 1) := by decide +kernel
theorem dX7_init_91 : decode cX7_init 91 = .ok (.iconst 3, 1) := by decide +kernel
theorem dX7_init_92 : decode cX7_init 92 = .ok (.if_icmp .ge 22, 3) := by decide +kernel
theorem dX7_init_95 : decode cX7_init 95 = .ok (.aload_n 0, 1) := by decide +kernel
theorem dX7_init_96 : decode cX7_init 96 = .ok (.getfield 11, 3) := by decide +kernel
theorem dX7_init_99 : decode cX7_init 99 = .ok (.iload_n 1, 1) := by decide +kernel
theorem dX7_init_100 : decode cX7_init 100 = .ok (.new 9, 3) := by decide +kernel
theorem dX7_init_103 : decode cX7_init 103 = .ok (.dup, 1) := by decide +kernel
theorem dX7_init_104 : decode cX7_init 104 = .ok (.invokespecial 51, 3) := by decide +kernel
theorem dX7_init_107 : decode cX7_init 107 = .ok (.aastore, 1) := by decide +kernel
theorem dX7_init_108 : decode cX7_init 108 = .ok (.iinc 1 1, 3) := by decide +kernel
theorem dX7_init_111 : decode cX7_init 111 = .ok (.goto (-21), 3) := by decide +kernel
theorem dX7_init_114 : decode cX7_init 114 = .ok (.aload_n 0, 1) := by decide +kernel
theorem dX7_init_115 : decode cX7_init 115 = .ok (.invokevirtual 52, 3) := by decide +kernel
theorem dX7_init_118 : decode cX7_init 118 = .ok (.return_, 1) := by decide +kernel
theorem dX7_clear_0 : decode cX7_clear 0 = .ok (.aload_n 0, 1) := by decide +kernel
theorem dX7_clear_1 : decode cX7_clear 1 = .ok (.iconst 0, 1) := by decide +kernel
theorem dX7_clear_2 : decode cX7_clear 2 = .ok (.putfield 55, 3) := by decide +kernel
theorem dX7_clear_5 : decode cX7_clear 5 = .ok (.aload_n 0, 1) := by decide +kernel
theorem dX7_clear_6 : decode cX7_clear 6 = .ok (.iconst 0, 1) := by decide +kernel
theorem dX7_clear_7 : decode cX7_clear 7 = .ok (.putfield 59, 3) := by decide +kernel
theorem dX7_clear_10 : decode cX7_clear 10 = .ok (.aload_n 0, 1) := by decide +kernel
theorem dX7_clear_11 : decode cX7_clear 11 = .ok (.iconst 0, 1) := by decide +kernel
theorem dX7_clear_12 : decode cX7_clear 12 = .ok (.putfield 62, 3) := by decide +kernel
theorem dX7_clear_15 : decode cX7_clear 15 = .ok (.aload_n 0, 1) := by decide +kernel
theorem dX7_clear_16 : decode cX7_clear 16 = .ok (.iconst 0, 1) := by decide +kernel
theorem dX7_clear_17 : decode cX7_clear 17 = .ok (.putfield 65, 3) := by decide +kernel
theorem dX7_clear_20 : decode cX7_clear 20 = .ok (.aload_n 0, 1) := by decide +kernel
theorem dX7_clear_21 : decode cX7_clear 21 = .ok (.iconst 0, 1) := by decide +kernel
theorem dX7_clear_22 : decode cX7_clear 22 = .ok (.putfield 68, 3) := by decide +kernel
theorem dX7_clear_25 : decode cX7_clear 25 = .ok (.aload_n 0, 1) := by decide +kernel
theorem dX7_clear_26 : decode cX7_clear 26 = .ok (.iconst 1, 1) := by decide +kernel
theorem dX7_clear_27 : decode cX7_clear 27 = .ok (.putfield 71, 3) := by decide +kernel
theorem dX7_clear_30 : decode cX7_clear 30 = .ok (.aload_n 0, 1) := by decide +kernel
theorem dX7_clear_31 : decode cX7_clear 31 = .ok (.sipush 200, 3) := by decide +kernel
theorem dX7_clear_34 : decode cX7_clear 34 = .ok (.putfield 74, 3) := by decide +kernel
theorem dX7_clear_37 : decode cX7_clear 37 = .ok (.aload_n 0, 1) := by decide +kernel
theorem dX7_clear_38 : decode cX7_clear 38 = .ok (.iconst 0, 1) := by decide +kernel
theorem dX7_clear_39 : decode cX7_clear 39 = .ok (.putfield 77, 3) := by decide +kernel
theorem dX7_clear_42 : decode cX7_clear 42 = .ok (.aload_n 0, 1) := by decide +kernel
theorem dX7_clear_43 : decode cX7_clear 43 = .ok (.getfield 17, 3) := by decide +kernel
theorem dX7_clear_46 : decode cX7_clear 46 = .ok (.iconst (-1), 1) := by decide +kernel
theorem dX7_clear_47 : decode cX7_clear 47 = .ok (.invokestatic 80, 3) := by decide +kernel
theorem dX7_clear_50 : decode cX7_clear 50 = .ok (.aload_n 0, 1) := by decide +kernel
theorem dX7_clear_51 : decode cX7_clear 51 = .ok (.getfield 21, 3) := by decide +kernel
theorem dX7_clear_54 : decode cX7_clear 54 = .ok (.iconst 0, 1) := by decide +kernel
theorem dX7_clear_55 : decode cX7_clear 55 = .ok (.invokestatic 80, 3) := by decide +kernel
theorem dX7_clear_58 : decode cX7_clear 58 = .ok (.iconst 0, 1) := by decide +kernel
theorem dX7_clear_59 : decode cX7_clear 59 = .ok (.istore_n 1, 1) := by decide +kernel
theorem dX7_clear_60 : decode cX7_clear 60 = .ok (.iload_n 1, 1) := by decide +kernel
theorem dX7_clear_61 : decode cX7_clear 61 = .ok (.iconst 4, 1) := by decide +kernel
theorem dX7_clear_62 : decode cX7_clear 62 = .ok (.if_icmp .ge 19, 3) := by decide +kernel
theorem dX7_clear_65 : decode cX7_clear 65 = .ok (.aload_n 0, 1) := by decide +kernel
theorem dX7_clear_66 : decode cX7_clear 66 = .ok (.getfield 32, 3) := by decide +kernel
theorem dX7_clear_69 : decode cX7_clear 69 = .ok (.iload_n 1, 1) := by decide +kernel
theorem dX7_clear_70 : decode cX7_clear 70 = .ok (.aaload, 1) := by decide +kernel
theorem dX7_clear_71 : decode cX7_clear 71 = .ok (.iconst 0, 1) := by decide +kernel
theorem dX7_clear_72 : decode cX7_clear 72 = .ok (.invokestatic 80, 3) := by decide +kernel
theorem dX7_clear_75 : decode cX7_clear 75 = .ok (.iinc 1 1, 3) := by decide +kernel
theorem dX7_clear_78 : decode cX7_clear 78 = .ok (.goto (-18), 3) := by decide +kernel
theorem dX7_clear_81 : decode cX7_clear 81 = .ok (.aload_n 0, 1) := by decide +kernel
theorem dX7_clear_82 : decode cX7_clear 82 = .ok (.getfield 47, 3) := by decide +kernel
theorem dX7_clear_85 : decode cX7_clear 85 = .ok (.invokevirtual 86, 3) := by decide +kernel
theorem dX7_clear_88 : decode cX7_clear 88 = .ok (.return_, 1) := by decide +kernel
theorem dX7_coasted_0 : decode cX7_coasted 0 = .ok (.iload_n 1, 1) := by decide +kernel
theorem dX7_coasted_1 : decode cX7_coasted 1 = .ok (.aload_n 0, 1) := by decide +kernel
theorem dX7_coasted_2 : decode cX7_coasted 2 = .ok (.iload_n 2, 1) := by decide +kernel
theorem dX7_coasted_3 : decode cX7_coasted 3 = .ok (.invokevirtual 112, 3) := by decide +kernel
theorem dX7_coasted_6 : decode cX7_coasted 6 = .ok (.isub, 1) := by decide +kernel
theorem dX7_coasted_7 : decode cX7_coasted 7 = .ok (.istore_n 3, 1) := by decide +kernel
theorem dX7_coasted_8 : decode cX7_coasted 8 = .ok (.iload_n 3, 1) := by decide +kernel
theorem dX7_coasted_9 : decode cX7_coasted 9 = .ok (.ifCond .le 16, 3) := by decide +kernel
theorem dX7_coasted_12 : decode cX7_coasted 12 = .ok (.iload_n 3, 1) := by decide +kernel
theorem dX7_coasted_13 : decode cX7_coasted 13 = .ok (.aload_n 0, 1) := by decide +kernel
theorem dX7_coasted_14 : decode cX7_coasted 14 = .ok (.getfield 71, 3) := by decide +kernel
theorem dX7_coasted_17 : decode cX7_coasted 17 = .ok (.isub, 1) := by decide +kernel
theorem dX7_coasted_18 : decode cX7_coasted 18 = .ok (.iconst 0, 1) := by decide +kernel
theorem dX7_coasted_19 : decode cX7_coasted 19 = .ok (.invokestatic 100, 3) := by decide +kernel
theorem dX7_coasted_22 : decode cX7_coasted 22 = .ok (.goto 13, 3) := by decide +kernel
theorem dX7_coasted_25 : decode cX7_coasted 25 = .ok (.iload_n 3, 1) := by decide +kernel
theorem dX7_coasted_26 : decode cX7_coasted 26 = .ok (.aload_n 0, 1) := by decide +kernel
theorem dX7_coasted_27 : decode cX7_coasted 27 = .ok (.getfield 71, 3) := by decide +kernel
theorem dX7_coasted_30 : decode cX7_coasted 30 = .ok (.iadd, 1) := by decide +kernel
theorem dX7_coasted_31 : decode cX7_coasted 31 = .ok (.iconst 0, 1) := by decide +kernel
theorem dX7_coasted_32 : decode cX7_coasted 32 = .ok (.invokestatic 121, 3) := by decide +kernel
theorem dX7_coasted_35 : decode cX7_coasted 35 = .ok (.ireturn, 1) := by decide +kernel
theorem dX7_grade_0 : decode cX7_grade 0 = .ok (.iload_n 1, 1) := by decide +kernel
theorem dX7_grade_1 : decode cX7_grade 1 = .ok (.ifCond .lt 18, 3) := by decide +kernel
theorem dX7_grade_4 : decode cX7_grade 4 = .ok (.iload_n 1, 1) := by decide +kernel
theorem dX7_grade_5 : decode cX7_grade 5 = .ok (.bipush 60, 2) := by decide +kernel
theorem dX7_grade_7 : decode cX7_grade 7 = .ok (.if_icmp .ge 12, 3) := by decide +kernel
theorem dX7_grade_10 : decode cX7_grade 10 = .ok (.aload_n 0, 1) := by decide +kernel
theorem dX7_grade_11 : decode cX7_grade 11 = .ok (.getfield 21, 3) := by decide +kernel
theorem dX7_grade_14 : decode cX7_grade 14 = .ok (.iload_n 1, 1) := by decide +kernel
theorem dX7_grade_15 : decode cX7_grade 15 = .ok (.iaload, 1) := by decide +kernel
theorem dX7_grade_16 : decode cX7_grade 16 = .ok (.goto 4, 3) := by decide +kernel
theorem dX7_grade_20 : decode cX7_grade 20 = .ok (.ireturn, 1) := by decide +kernel
theorem dX7_hasCar_0 : decode cX7_hasCar 0 = .ok (.iload_n 1, 1) := by decide +kernel
theorem dX7_hasCar_1 : decode cX7_hasCar 1 = .ok (.ifCond .lt 15, 3) := by decide +kernel
theorem dX7_hasCar_4 : decode cX7_hasCar 4 = .ok (.iload_n 1, 1) := by decide +kernel
theorem dX7_hasCar_5 : decode cX7_hasCar 5 = .ok (.aload_n 0, 1) := by decide +kernel
theorem dX7_hasCar_6 : decode cX7_hasCar 6 = .ok (.getfield 62, 3) := by decide +kernel
theorem dX7_hasCar_9 : decode cX7_hasCar 9 = .ok (.if_icmp .ge 7, 3) := by decide +kernel
theorem dX7_hasCar_16 : decode cX7_hasCar 16 = .ok (.iconst 0, 1) := by decide +kernel
theorem dX7_hasCar_17 : decode cX7_hasCar 17 = .ok (.ireturn, 1) := by decide +kernel
theorem dX7_hasPlace_0 : decode cX7_hasPlace 0 = .ok (.aload_n 0, 1) := by decide +kernel
theorem dX7_hasPlace_1 : decode cX7_hasPlace 1 = .ok (.iload_n 1, 1) := by decide +kernel
theorem dX7_hasPlace_2 : decode cX7_hasPlace 2 = .ok (.invokevirtual 87, 3) := by decide +kernel
theorem dX7_hasPlace_5 : decode cX7_hasPlace 5 = .ok (.ifCond .eq 27, 3) := by decide +kernel
theorem dX7_hasPlace_32 : decode cX7_hasPlace 32 = .ok (.iconst 0, 1) := by decide +kernel
theorem dX7_hasPlace_33 : decode cX7_hasPlace 33 = .ok (.ireturn, 1) := by decide +kernel
theorem dX7_hasRope_0 : decode cX7_hasRope 0 = .ok (.iload_n 1, 1) := by decide +kernel
theorem dX7_hasRope_1 : decode cX7_hasRope 1 = .ok (.ifCond .lt 15, 3) := by decide +kernel
theorem dX7_hasRope_4 : decode cX7_hasRope 4 = .ok (.iload_n 1, 1) := by decide +kernel
theorem dX7_hasRope_5 : decode cX7_hasRope 5 = .ok (.aload_n 0, 1) := by decide +kernel
theorem dX7_hasRope_6 : decode cX7_hasRope 6 = .ok (.getfield 55, 3) := by decide +kernel
theorem dX7_hasRope_9 : decode cX7_hasRope 9 = .ok (.if_icmp .ge 7, 3) := by decide +kernel
theorem dX7_hasRope_16 : decode cX7_hasRope 16 = .ok (.iconst 0, 1) := by decide +kernel
theorem dX7_hasRope_17 : decode cX7_hasRope 17 = .ok (.ireturn, 1) := by decide +kernel
theorem dX7_hasSplice_0 : decode cX7_hasSplice 0 = .ok (.iload_n 1, 1) := by decide +kernel
theorem dX7_hasSplice_1 : decode cX7_hasSplice 1 = .ok (.ifCond .lt 15, 3) := by decide +kernel
theorem dX7_hasSplice_4 : decode cX7_hasSplice 4 = .ok (.iload_n 1, 1) := by decide +kernel
theorem dX7_hasSplice_5 : decode cX7_hasSplice 5 = .ok (.aload_n 0, 1) := by decide +kernel
theorem dX7_hasSplice_6 : decode cX7_hasSplice 6 = .ok (.getfield 68, 3) := by decide +kernel
theorem dX7_hasSplice_9 : decode cX7_hasSplice 9 = .ok (.if_icmp .ge 7, 3) := by decide +kernel
theorem dX7_hasSplice_16 : decode cX7_hasSplice 16 = .ok (.iconst 0, 1) := by decide +kernel
theorem dX7_hasSplice_17 : decode cX7_hasSplice 17 = .ok (.ireturn, 1) := by decide +kernel
theorem dX7_isSegment_0 : decode cX7_isSegment 0 = .ok (.iload_n 0, 1) := by decide +kernel
theorem dX7_isSegment_1 : decode cX7_isSegment 1 = .ok (.ifCond .lt 13, 3) := by decide +kernel
theorem dX7_isSegment_4 : decode cX7_isSegment 4 = .ok (.iload_n 0, 1) := by decide +kernel
theorem dX7_isSegment_5 : decode cX7_isSegment 5 = .ok (.bipush 60, 2) := by decide +kernel
theorem dX7_isSegment_7 : decode cX7_isSegment 7 = .ok (.if_icmp .ge 7, 3) := by decide +kernel
theorem dX7_isSegment_10 : decode cX7_isSegment 10 = .ok (.iconst 1, 1) := by decide +kernel
theorem dX7_isSegment_11 : decode cX7_isSegment 11 = .ok (.goto 4, 3) := by decide +kernel
theorem dX7_isSegment_14 : decode cX7_isSegment 14 = .ok (.iconst 0, 1) := by decide +kernel
theorem dX7_isSegment_15 : decode cX7_isSegment 15 = .ok (.ireturn, 1) := by decide +kernel
theorem dX7_mark_0 : decode cX7_mark 0 = .ok (.iload_n 1, 1) := by decide +kernel
theorem dX7_mark_1 : decode cX7_mark 1 = .ok (.ifCond .lt 26, 3) := by decide +kernel
theorem dX7_mark_4 : decode cX7_mark 4 = .ok (.iload_n 1, 1) := by decide +kernel
theorem dX7_mark_5 : decode cX7_mark 5 = .ok (.iconst 4, 1) := by decide +kernel
theorem dX7_mark_6 : decode cX7_mark 6 = .ok (.if_icmp .ge 21, 3) := by decide +kernel
theorem dX7_mark_9 : decode cX7_mark 9 = .ok (.iload_n 2, 1) := by decide +kernel
theorem dX7_mark_10 : decode cX7_mark 10 = .ok (.invokestatic 106, 3) := by decide +kernel
theorem dX7_mark_13 : decode cX7_mark 13 = .ok (.ifCond .eq 14, 3) := by decide +kernel
theorem dX7_mark_16 : decode cX7_mark 16 = .ok (.aload_n 0, 1) := by decide +kernel
theorem dX7_mark_17 : decode cX7_mark 17 = .ok (.getfield 32, 3) := by decide +kernel
theorem dX7_mark_20 : decode cX7_mark 20 = .ok (.iload_n 1, 1) := by decide +kernel
theorem dX7_mark_21 : decode cX7_mark 21 = .ok (.aaload, 1) := by decide +kernel
theorem dX7_mark_22 : decode cX7_mark 22 = .ok (.iload_n 2, 1) := by decide +kernel
theorem dX7_mark_23 : decode cX7_mark 23 = .ok (.iaload, 1) := by decide +kernel
theorem dX7_mark_24 : decode cX7_mark 24 = .ok (.goto 4, 3) := by decide +kernel
theorem dX7_mark_27 : decode cX7_mark 27 = .ok (.iconst 0, 1) := by decide +kernel
theorem dX7_mark_28 : decode cX7_mark 28 = .ok (.ireturn, 1) := by decide +kernel
theorem dX7_ropeOn_0 : decode cX7_ropeOn 0 = .ok (.iload_n 1, 1) := by decide +kernel
theorem dX7_ropeOn_1 : decode cX7_ropeOn 1 = .ok (.ifCond .lt 18, 3) := by decide +kernel
theorem dX7_ropeOn_4 : decode cX7_ropeOn 4 = .ok (.iload_n 1, 1) := by decide +kernel
theorem dX7_ropeOn_5 : decode cX7_ropeOn 5 = .ok (.bipush 60, 2) := by decide +kernel
theorem dX7_ropeOn_7 : decode cX7_ropeOn 7 = .ok (.if_icmp .ge 12, 3) := by decide +kernel
theorem dX7_ropeOn_10 : decode cX7_ropeOn 10 = .ok (.aload_n 0, 1) := by decide +kernel
theorem dX7_ropeOn_11 : decode cX7_ropeOn 11 = .ok (.getfield 17, 3) := by decide +kernel
theorem dX7_ropeOn_14 : decode cX7_ropeOn 14 = .ok (.iload_n 1, 1) := by decide +kernel
theorem dX7_ropeOn_15 : decode cX7_ropeOn 15 = .ok (.iaload, 1) := by decide +kernel
theorem dX7_ropeOn_16 : decode cX7_ropeOn 16 = .ok (.goto 4, 3) := by decide +kernel
theorem dX7_ropeOn_19 : decode cX7_ropeOn 19 = .ok (.iconst (-1), 1) := by decide +kernel
theorem dX7_ropeOn_20 : decode cX7_ropeOn 20 = .ok (.ireturn, 1) := by decide +kernel
theorem dX8_init_0 : decode cX8_init 0 = .ok (.aload_n 0, 1) := by decide +kernel
theorem dX8_init_1 : decode cX8_init 1 = .ok (.invokespecial 3, 3) := by decide +kernel
theorem dX8_init_4 : decode cX8_init 4 = .ok (.aload_n 0, 1) := by decide +kernel
theorem dX8_init_5 : decode cX8_init 5 = .ok (.new 9, 3) := by decide +kernel
theorem dX8_init_8 : decode cX8_init 8 = .ok (.dup, 1) := by decide +kernel
theorem dX8_init_9 : decode cX8_init 9 = .ok (.invokespecial 11, 3) := by decide +kernel
theorem dX8_init_12 : decode cX8_init 12 = .ok (.putfield 12, 3) := by decide +kernel
theorem dX8_init_15 : decode cX8_init 15 = .ok (.aload_n 0, 1) := by decide +kernel
theorem dX8_init_16 : decode cX8_init 16 = .ok (.iconst 3, 1) := by decide +kernel
theorem dX8_init_17 : decode cX8_init 17 = .ok (.newarray .long, 2) := by decide +kernel
theorem dX8_init_19 : decode cX8_init 19 = .ok (.putfield 18, 3) := by decide +kernel
theorem dX8_init_22 : decode cX8_init 22 = .ok (.aload_n 0, 1) := by decide +kernel
theorem dX8_init_23 : decode cX8_init 23 = .ok (.iconst 5, 1) := by decide +kernel
theorem dX8_init_24 : decode cX8_init 24 = .ok (.newarray .long, 2) := by decide +kernel
theorem dX8_init_26 : decode cX8_init 26 = .ok (.putfield 22, 3) := by decide +kernel
theorem dX8_init_29 : decode cX8_init 29 = .ok (.aload_n 0, 1) := by decide +kernel
theorem dX8_init_30 : decode cX8_init 30 = .ok (.bipush 6, 2) := by decide +kernel
theorem dX8_init_32 : decode cX8_init 32 = .ok (.newarray .long, 2) := by decide +kernel
theorem dX8_init_34 : decode cX8_init 34 = .ok (.putfield 25, 3) := by decide +kernel
theorem dX8_init_37 : decode cX8_init 37 = .ok (.aload_n 0, 1) := by decide +kernel
theorem dX8_init_38 : decode cX8_init 38 = .ok (.iconst 0, 1) := by decide +kernel
theorem dX8_init_39 : decode cX8_init 39 = .ok (.putfield 28, 3) := by decide +kernel
theorem dX8_init_42 : decode cX8_init 42 = .ok (.aload_n 0, 1) := by decide +kernel
theorem dX8_init_43 : decode cX8_init 43 = .ok (.iconst (-1), 1) := by decide +kernel
theorem dX8_init_44 : decode cX8_init 44 = .ok (.putfield 32, 3) := by decide +kernel
theorem dX8_init_47 : decode cX8_init 47 = .ok (.return_, 1) := by decide +kernel
theorem dX8_hasLine_0 : decode cX8_hasLine 0 = .ok (.aload_n 0, 1) := by decide +kernel
theorem dX8_hasLine_1 : decode cX8_hasLine 1 = .ok (.getfield 28, 3) := by decide +kernel
theorem dX8_hasLine_4 : decode cX8_hasLine 4 = .ok (.ifCond .ne 17, 3) := by decide +kernel
theorem dX8_hasLine_7 : decode cX8_hasLine 7 = .ok (.aload_n 0, 1) := by decide +kernel
theorem dX8_hasLine_8 : decode cX8_hasLine 8 = .ok (.getfield 12, 3) := by decide +kernel
theorem dX8_hasLine_11 : decode cX8_hasLine 11 = .ok (.getfield 58, 3) := by decide +kernel
theorem dX8_hasLine_14 : decode cX8_hasLine 14 = .ok (.ifCond .eq 7, 3) := by decide +kernel
theorem dX8_hasLine_21 : decode cX8_hasLine 21 = .ok (.iconst 0, 1) := by decide +kernel
theorem dX8_hasLine_22 : decode cX8_hasLine 22 = .ok (.ireturn, 1) := by decide +kernel
theorem dX8_open_0 : decode cX8_open 0 = .ok (.aload_n 0, 1) := by decide +kernel
theorem dX8_open_1 : decode cX8_open 1 = .ok (.aload_n 1, 1) := by decide +kernel
theorem dX8_open_2 : decode cX8_open 2 = .ok (.putfield 35, 3) := by decide +kernel
theorem dX8_open_5 : decode cX8_open 5 = .ok (.aload_n 0, 1) := by decide +kernel
theorem dX8_open_6 : decode cX8_open 6 = .ok (.getfield 35, 3) := by decide +kernel
theorem dX8_open_9 : decode cX8_open 9 = .ok (.invokevirtual 39, 3) := by decide +kernel
theorem dX8_open_12 : decode cX8_open 12 = .ok (.aload_n 0, 1) := by decide +kernel
theorem dX8_open_13 : decode cX8_open 13 = .ok (.iconst 0, 1) := by decide +kernel
theorem dX8_open_14 : decode cX8_open 14 = .ok (.putfield 44, 3) := by decide +kernel
theorem dX8_open_17 : decode cX8_open 17 = .ok (.aload_n 0, 1) := by decide +kernel
theorem dX8_open_18 : decode cX8_open 18 = .ok (.iconst 0, 1) := by decide +kernel
theorem dX8_open_19 : decode cX8_open 19 = .ok (.putfield 48, 3) := by decide +kernel
theorem dX8_open_22 : decode cX8_open 22 = .ok (.aload_n 0, 1) := by decide +kernel
theorem dX8_open_23 : decode cX8_open 23 = .ok (.iconst 0, 1) := by decide +kernel
theorem dX8_open_24 : decode cX8_open 24 = .ok (.putfield 51, 3) := by decide +kernel
theorem dX8_open_27 : decode cX8_open 27 = .ok (.aload_n 0, 1) := by decide +kernel
theorem dX8_open_28 : decode cX8_open 28 = .ok (.iconst 0, 1) := by decide +kernel
theorem dX8_open_29 : decode cX8_open 29 = .ok (.putfield 28, 3) := by decide +kernel
theorem dX8_open_32 : decode cX8_open 32 = .ok (.aload_n 0, 1) := by decide +kernel
theorem dX8_open_33 : decode cX8_open 33 = .ok (.iconst (-1), 1) := by decide +kernel
theorem dX8_open_34 : decode cX8_open 34 = .ok (.putfield 32, 3) := by decide +kernel
theorem dX8_open_37 : decode cX8_open 37 = .ok (.aload_n 0, 1) := by decide +kernel
theorem dX8_open_38 : decode cX8_open 38 = .ok (.getfield 12, 3) := by decide +kernel
theorem dX8_open_41 : decode cX8_open 41 = .ok (.aload_n 2, 1) := by decide +kernel
theorem dX8_open_42 : decode cX8_open 42 = .ok (.iload_n 3, 1) := by decide +kernel
theorem dX8_open_43 : decode cX8_open 43 = .ok (.invokevirtual 54, 3) := by decide +kernel
theorem dX8_open_46 : decode cX8_open 46 = .ok (.return_, 1) := by decide +kernel
theorem dX9_init_0 : decode cX9_init 0 = .ok (.aload_n 0, 1) := by decide +kernel
theorem dX9_init_1 : decode cX9_init 1 = .ok (.invokespecial 1, 3) := by decide +kernel
theorem dX9_init_4 : decode cX9_init 4 = .ok (.return_, 1) := by decide +kernel
theorem dX10_init_0 : decode cX10_init 0 = .ok (.aload_n 0, 1) := by decide +kernel
theorem dX10_init_1 : decode cX10_init 1 = .ok (.invokespecial 3, 3) := by decide +kernel
theorem dX10_init_4 : decode cX10_init 4 = .ok (.aload_n 0, 1) := by decide +kernel
