theorem dX0_init_0 : decode cX0_init 0 = .ok (.aload_n 0, 1) := by decide +kernel
theorem dX0_init_1 : decode cX0_init 1 = .ok (.invokespecial 3, 3) := by decide +kernel
theorem dX0_init_4 : decode cX0_init 4 = .ok (.return_, 1) := by decide +kernel
theorem dX0_begin_0 : decode cX0_begin 0 = .ok (.aload_n 0, 1) := by decide +kernel
theorem dX0_begin_1 : decode cX0_begin 1 = .ok (.bipush 10, 2) := by decide +kernel
theorem dX0_begin_3 : decode cX0_begin 3 = .ok (.iload_n 1, 1) := by decide +kernel
theorem dX0_begin_4 : decode cX0_begin 4 = .ok (.imul, 1) := by decide +kernel
theorem dX0_begin_5 : decode cX0_begin 5 = .ok (.iconst 5, 1) := by decide +kernel
theorem dX0_begin_6 : decode cX0_begin 6 = .ok (.iadd, 1) := by decide +kernel
theorem dX0_begin_7 : decode cX0_begin 7 = .ok (.putfield 9, 3) := by decide +kernel
theorem dX0_begin_10 : decode cX0_begin 10 = .ok (.aload_n 0, 1) := by decide +kernel
theorem dX0_begin_11 : decode cX0_begin 11 = .ok (.iconst 0, 1) := by decide +kernel
theorem dX0_begin_12 : decode cX0_begin 12 = .ok (.putfield 15, 3) := by decide +kernel
theorem dX0_begin_15 : decode cX0_begin 15 = .ok (.aload_n 0, 1) := by decide +kernel
theorem dX0_begin_16 : decode cX0_begin 16 = .ok (.iconst 0, 1) := by decide +kernel
theorem dX0_begin_17 : decode cX0_begin 17 = .ok (.putfield 18, 3) := by decide +kernel
theorem dX0_begin_20 : decode cX0_begin 20 = .ok (.aload_n 0, 1) := by decide +kernel
theorem dX0_begin_21 : decode cX0_begin 21 = .ok (.iconst 0, 1) := by decide +kernel
theorem dX0_begin_22 : decode cX0_begin 22 = .ok (.putfield 21, 3) := by decide +kernel
theorem dX0_begin_25 : decode cX0_begin 25 = .ok (.aload_n 0, 1) := by decide +kernel
theorem dX0_begin_26 : decode cX0_begin 26 = .ok (.iconst 0, 1) := by decide +kernel
theorem dX0_begin_27 : decode cX0_begin 27 = .ok (.putfield 24, 3) := by decide +kernel
theorem dX0_begin_30 : decode cX0_begin 30 = .ok (.aload_n 0, 1) := by decide +kernel
theorem dX0_begin_31 : decode cX0_begin 31 = .ok (.iconst 1, 1) := by decide +kernel
theorem dX0_begin_32 : decode cX0_begin 32 = .ok (.putfield 28, 3) := by decide +kernel
theorem dX0_begin_35 : decode cX0_begin 35 = .ok (.aload_n 0, 1) := by decide +kernel
theorem dX0_begin_36 : decode cX0_begin 36 = .ok (.iconst (-1), 1) := by decide +kernel
theorem dX0_begin_37 : decode cX0_begin 37 = .ok (.putfield 31, 3) := by decide +kernel
theorem dX0_begin_40 : decode cX0_begin 40 = .ok (.aload_n 0, 1) := by decide +kernel
theorem dX0_begin_41 : decode cX0_begin 41 = .ok (.iconst 0, 1) := by decide +kernel
theorem dX0_begin_42 : decode cX0_begin 42 = .ok (.putfield 34, 3) := by decide +kernel
theorem dX0_begin_45 : decode cX0_begin 45 = .ok (.aload_n 0, 1) := by decide +kernel
theorem dX0_begin_46 : decode cX0_begin 46 = .ok (.iconst 0, 1) := by decide +kernel
theorem dX0_begin_47 : decode cX0_begin 47 = .ok (.putfield 37, 3) := by decide +kernel
theorem dX0_begin_50 : decode cX0_begin 50 = .ok (.aload_n 0, 1) := by decide +kernel
theorem dX0_begin_51 : decode cX0_begin 51 = .ok (.iconst (-1), 1) := by decide +kernel
theorem dX0_begin_52 : decode cX0_begin 52 = .ok (.putfield 40, 3) := by decide +kernel
theorem dX0_begin_55 : decode cX0_begin 55 = .ok (.aload_n 0, 1) := by decide +kernel
theorem dX0_begin_56 : decode cX0_begin 56 = .ok (.iconst (-1), 1) := by decide +kernel
theorem dX0_begin_57 : decode cX0_begin 57 = .ok (.putfield 43, 3) := by decide +kernel
theorem dX0_begin_60 : decode cX0_begin 60 = .ok (.return_, 1) := by decide +kernel
theorem dX0_copyFrom_0 : decode cX0_copyFrom 0 = .ok (.aload_n 0, 1) := by decide +kernel
theorem dX0_copyFrom_1 : decode cX0_copyFrom 1 = .ok (.aload_n 1, 1) := by decide +kernel
theorem dX0_copyFrom_2 : decode cX0_copyFrom 2 = .ok (.getfield 9, 3) := by decide +kernel
theorem dX0_copyFrom_5 : decode cX0_copyFrom 5 = .ok (.putfield 9, 3) := by decide +kernel
theorem dX0_copyFrom_8 : decode cX0_copyFrom 8 = .ok (.aload_n 0, 1) := by decide +kernel
theorem dX0_copyFrom_9 : decode cX0_copyFrom 9 = .ok (.aload_n 1, 1) := by decide +kernel
theorem dX0_copyFrom_10 : decode cX0_copyFrom 10 = .ok (.getfield 15, 3) := by decide +kernel
theorem dX0_copyFrom_13 : decode cX0_copyFrom 13 = .ok (.putfield 15, 3) := by decide +kernel
theorem dX0_copyFrom_16 : decode cX0_copyFrom 16 = .ok (.aload_n 0, 1) := by decide +kernel
theorem dX0_copyFrom_17 : decode cX0_copyFrom 17 = .ok (.aload_n 1, 1) := by decide +kernel
theorem dX0_copyFrom_18 : decode cX0_copyFrom 18 = .ok (.getfield 18, 3) := by decide +kernel
theorem dX0_copyFrom_21 : decode cX0_copyFrom 21 = .ok (.putfield 18, 3) := by decide +kernel
theorem dX0_copyFrom_24 : decode cX0_copyFrom 24 = .ok (.aload_n 0, 1) := by decide +kernel
theorem dX0_copyFrom_25 : decode cX0_copyFrom 25 = .ok (.aload_n 1, 1) := by decide +kernel
theorem dX0_copyFrom_26 : decode cX0_copyFrom 26 = .ok (.getfield 21, 3) := by decide +kernel
theorem dX0_copyFrom_29 : decode cX0_copyFrom 29 = .ok (.putfield 21, 3) := by decide +kernel
theorem dX0_copyFrom_32 : decode cX0_copyFrom 32 = .ok (.aload_n 0, 1) := by decide +kernel
theorem dX0_copyFrom_33 : decode cX0_copyFrom 33 = .ok (.aload_n 1, 1) := by decide +kernel
theorem dX0_copyFrom_34 : decode cX0_copyFrom 34 = .ok (.getfield 24, 3) := by decide +kernel
theorem dX0_copyFrom_37 : decode cX0_copyFrom 37 = .ok (.putfield 24, 3) := by decide +kernel
theorem dX0_copyFrom_40 : decode cX0_copyFrom 40 = .ok (.aload_n 0, 1) := by decide +kernel
theorem dX0_copyFrom_41 : decode cX0_copyFrom 41 = .ok (.aload_n 1, 1) := by decide +kernel
theorem dX0_copyFrom_42 : decode cX0_copyFrom 42 = .ok (.getfield 28, 3) := by decide +kernel
theorem dX0_copyFrom_45 : decode cX0_copyFrom 45 = .ok (.putfield 28, 3) := by decide +kernel
theorem dX0_copyFrom_48 : decode cX0_copyFrom 48 = .ok (.aload_n 0, 1) := by decide +kernel
theorem dX0_copyFrom_49 : decode cX0_copyFrom 49 = .ok (.aload_n 1, 1) := by decide +kernel
theorem dX0_copyFrom_50 : decode cX0_copyFrom 50 = .ok (.getfield 31, 3) := by decide +kernel
theorem dX0_copyFrom_53 : decode cX0_copyFrom 53 = .ok (.putfield 31, 3) := by decide +kernel
theorem dX0_copyFrom_56 : decode cX0_copyFrom 56 = .ok (.aload_n 0, 1) := by decide +kernel
theorem dX0_copyFrom_57 : decode cX0_copyFrom 57 = .ok (.aload_n 1, 1) := by decide +kernel
theorem dX0_copyFrom_58 : decode cX0_copyFrom 58 = .ok (.getfield 34, 3) := by decide +kernel
theorem dX0_copyFrom_61 : decode cX0_copyFrom 61 = .ok (.putfield 34, 3) := by decide +kernel
theorem dX0_copyFrom_64 : decode cX0_copyFrom 64 = .ok (.aload_n 0, 1) := by decide +kernel
theorem dX0_copyFrom_65 : decode cX0_copyFrom 65 = .ok (.aload_n 1, 1) := by decide +kernel
theorem dX0_copyFrom_66 : decode cX0_copyFrom 66 = .ok (.getfield 37, 3) := by decide +kernel
theorem dX0_copyFrom_69 : decode cX0_copyFrom 69 = .ok (.putfield 37, 3) := by decide +kernel
theorem dX0_copyFrom_72 : decode cX0_copyFrom 72 = .ok (.aload_n 0, 1) := by decide +kernel
theorem dX0_copyFrom_73 : decode cX0_copyFrom 73 = .ok (.aload_n 1, 1) := by decide +kernel
theorem dX0_copyFrom_74 : decode cX0_copyFrom 74 = .ok (.getfield 40, 3) := by decide +kernel
theorem dX0_copyFrom_77 : decode cX0_copyFrom 77 = .ok (.putfield 40, 3) := by decide +kernel
theorem dX0_copyFrom_80 : decode cX0_copyFrom 80 = .ok (.aload_n 0, 1) := by decide +kernel
theorem dX0_copyFrom_81 : decode cX0_copyFrom 81 = .ok (.aload_n 1, 1) := by decide +kernel
theorem dX0_copyFrom_82 : decode cX0_copyFrom 82 = .ok (.getfield 43, 3) := by decide +kernel
theorem dX0_copyFrom_85 : decode cX0_copyFrom 85 = .ok (.putfield 43, 3) := by decide +kernel
theorem dX0_copyFrom_88 : decode cX0_copyFrom 88 = .ok (.return_, 1) := by decide +kernel
theorem dX0_letGo_0 : decode cX0_letGo 0 = .ok (.aload_n 0, 1) := by decide +kernel
theorem dX0_letGo_1 : decode cX0_letGo 1 = .ok (.iconst 1, 1) := by decide +kernel
theorem dX0_letGo_2 : decode cX0_letGo 2 = .ok (.putfield 18, 3) := by decide +kernel
theorem dX0_letGo_5 : decode cX0_letGo 5 = .ok (.aload_n 0, 1) := by decide +kernel
theorem dX0_letGo_6 : decode cX0_letGo 6 = .ok (.iconst 0, 1) := by decide +kernel
theorem dX0_letGo_7 : decode cX0_letGo 7 = .ok (.putfield 24, 3) := by decide +kernel
theorem dX0_letGo_10 : decode cX0_letGo 10 = .ok (.return_, 1) := by decide +kernel
theorem dX0_segment_0 : decode cX0_segment 0 = .ok (.aload_n 0, 1) := by decide +kernel
theorem dX0_segment_1 : decode cX0_segment 1 = .ok (.getfield 9, 3) := by decide +kernel
theorem dX0_segment_4 : decode cX0_segment 4 = .ok (.bipush 10, 2) := by decide +kernel
theorem dX0_segment_6 : decode cX0_segment 6 = .ok (.idiv, 1) := by decide +kernel
theorem dX0_segment_7 : decode cX0_segment 7 = .ok (.ireturn, 1) := by decide +kernel
theorem dX0_waitFor_0 : decode cX0_waitFor 0 = .ok (.aload_n 0, 1) := by decide +kernel
theorem dX0_waitFor_1 : decode cX0_waitFor 1 = .ok (.iconst 2, 1) := by decide +kernel
theorem dX0_waitFor_2 : decode cX0_waitFor 2 = .ok (.putfield 18, 3) := by decide +kernel
theorem dX0_waitFor_5 : decode cX0_waitFor 5 = .ok (.aload_n 0, 1) := by decide +kernel
theorem dX0_waitFor_6 : decode cX0_waitFor 6 = .ok (.iload_n 1, 1) := by decide +kernel
theorem dX0_waitFor_7 : decode cX0_waitFor 7 = .ok (.putfield 21, 3) := by decide +kernel
theorem dX0_waitFor_10 : decode cX0_waitFor 10 = .ok (.aload_n 0, 1) := by decide +kernel
theorem dX0_waitFor_11 : decode cX0_waitFor 11 = .ok (.iconst 0, 1) := by decide +kernel
theorem dX0_waitFor_12 : decode cX0_waitFor 12 = .ok (.putfield 15, 3) := by decide +kernel
theorem dX0_waitFor_15 : decode cX0_waitFor 15 = .ok (.return_, 1) := by decide +kernel
theorem dX0_waitLonger_0 : decode cX0_waitLonger 0 = .ok (.aload_n 0, 1) := by decide +kernel
theorem dX0_waitLonger_1 : decode cX0_waitLonger 1 = .ok (.aload_n 0, 1) := by decide +kernel
theorem dX0_waitLonger_2 : decode cX0_waitLonger 2 = .ok (.getfield 18, 3) := by decide +kernel
theorem dX0_waitLonger_5 : decode cX0_waitLonger 5 = .ok (.iconst 2, 1) := by decide +kernel
theorem dX0_waitLonger_6 : decode cX0_waitLonger 6 = .ok (.if_icmp .ne 12, 3) := by decide +kernel
theorem dX0_waitLonger_9 : decode cX0_waitLonger 9 = .ok (.aload_n 0, 1) := by decide +kernel
theorem dX0_waitLonger_10 : decode cX0_waitLonger 10 = .ok (.getfield 21, 3) := by decide +kernel
theorem dX0_waitLonger_13 : decode cX0_waitLonger 13 = .ok (.iload_n 1, 1) := by decide +kernel
theorem dX0_waitLonger_14 : decode cX0_waitLonger 14 = .ok (.iadd, 1) := by decide +kernel
theorem dX0_waitLonger_15 : decode cX0_waitLonger 15 = .ok (.goto 4, 3) := by decide +kernel
theorem dX0_waitLonger_18 : decode cX0_waitLonger 18 = .ok (.iload_n 1, 1) := by decide +kernel
theorem dX0_waitLonger_19 : decode cX0_waitLonger 19 = .ok (.invokevirtual 46, 3) := by decide +kernel
theorem dX0_waitLonger_22 : decode cX0_waitLonger 22 = .ok (.return_, 1) := by decide +kernel
theorem dX1_init_0 : decode cX1_init 0 = .ok (.aload_n 0, 1) := by decide +kernel
theorem dX1_init_1 : decode cX1_init 1 = .ok (.invokespecial 3, 3) := by decide +kernel
theorem dX1_init_4 : decode cX1_init 4 = .ok (.aload_n 0, 1) := by decide +kernel
theorem dX1_init_5 : decode cX1_init 5 = .ok (.bipush 60, 2) := by decide +kernel
theorem dX1_init_7 : decode cX1_init 7 = .ok (.newarray .int, 2) := by decide +kernel
theorem dX1_init_9 : decode cX1_init 9 = .ok (.putfield 9, 3) := by decide +kernel
theorem dX1_init_12 : decode cX1_init 12 = .ok (.aload_n 0, 1) := by decide +kernel
theorem dX1_init_13 : decode cX1_init 13 = .ok (.iconst 5, 1) := by decide +kernel
theorem dX1_init_14 : decode cX1_init 14 = .ok (.newarray .int, 2) := by decide +kernel
theorem dX1_init_16 : decode cX1_init 16 = .ok (.putfield 15, 3) := by decide +kernel
theorem dX1_init_19 : decode cX1_init 19 = .ok (.aload_n 0, 1) := by decide +kernel
theorem dX1_init_20 : decode cX1_init 20 = .ok (.sipush 512, 3) := by decide +kernel
theorem dX1_init_23 : decode cX1_init 23 = .ok (.newarray .int, 2) := by decide +kernel
theorem dX1_init_25 : decode cX1_init 25 = .ok (.putfield 18, 3) := by decide +kernel
theorem dX1_init_28 : decode cX1_init 28 = .ok (.return_, 1) := by decide +kernel
theorem dX1_add_0 : decode cX1_add 0 = .ok (.iload_n 1, 1) := by decide +kernel
theorem dX1_add_1 : decode cX1_add 1 = .ok (.invokestatic 37, 3) := by decide +kernel
theorem dX1_add_4 : decode cX1_add 4 = .ok (.ifCond .eq 44, 3) := by decide +kernel
theorem dX1_add_7 : decode cX1_add 7 = .ok (.aload_n 0, 1) := by decide +kernel
theorem dX1_add_8 : decode cX1_add 8 = .ok (.getfield 21, 3) := by decide +kernel
theorem dX1_add_11 : decode cX1_add 11 = .ok (.iconst 4, 1) := by decide +kernel
theorem dX1_add_12 : decode cX1_add 12 = .ok (.if_icmp .ge 36, 3) := by decide +kernel
theorem dX1_add_15 : decode cX1_add 15 = .ok (.aload_n 0, 1) := by decide +kernel
theorem dX1_add_16 : decode cX1_add 16 = .ok (.getfield 9, 3) := by decide +kernel
theorem dX1_add_19 : decode cX1_add 19 = .ok (.iload_n 1, 1) := by decide +kernel
theorem dX1_add_20 : decode cX1_add 20 = .ok (.aload_n 0, 1) := by decide +kernel
theorem dX1_add_21 : decode cX1_add 21 = .ok (.getfield 21, 3) := by decide +kernel
theorem dX1_add_24 : decode cX1_add 24 = .ok (.iastore, 1) := by decide +kernel
theorem dX1_add_25 : decode cX1_add 25 = .ok (.aload_n 0, 1) := by decide +kernel
theorem dX1_add_26 : decode cX1_add 26 = .ok (.dup, 1) := by decide +kernel
theorem dX1_add_27 : decode cX1_add 27 = .ok (.getfield 21, 3) := by decide +kernel
theorem dX1_add_30 : decode cX1_add 30 = .ok (.iconst 1, 1) := by decide +kernel
theorem dX1_add_31 : decode cX1_add 31 = .ok (.iadd, 1) := by decide +kernel
theorem dX1_add_32 : decode cX1_add 32 = .ok (.putfield 21, 3) := by decide +kernel
theorem dX1_add_35 : decode cX1_add 35 = .ok (.aload_n 0, 1) := by decide +kernel
theorem dX1_add_36 : decode cX1_add 36 = .ok (.getfield 15, 3) := by decide +kernel
theorem dX1_add_39 : decode cX1_add 39 = .ok (.aload_n 0, 1) := by decide +kernel
theorem dX1_add_40 : decode cX1_add 40 = .ok (.getfield 21, 3) := by decide +kernel
theorem dX1_add_43 : decode cX1_add 43 = .ok (.aload_n 0, 1) := by decide +kernel
theorem dX1_add_44 : decode cX1_add 44 = .ok (.getfield 28, 3) := by decide +kernel
theorem dX1_add_47 : decode cX1_add 47 = .ok (.iastore, 1) := by decide +kernel
theorem dX1_add_48 : decode cX1_add 48 = .ok (.return_, 1) := by decide +kernel
theorem dX1_addStep_0 : decode cX1_addStep 0 = .ok (.aload_n 0, 1) := by decide +kernel
theorem dX1_addStep_1 : decode cX1_addStep 1 = .ok (.getfield 28, 3) := by decide +kernel
theorem dX1_addStep_4 : decode cX1_addStep 4 = .ok (.sipush 512, 3) := by decide +kernel
theorem dX1_addStep_7 : decode cX1_addStep 7 = .ok (.if_icmp .ge 28, 3) := by decide +kernel
theorem dX1_addStep_10 : decode cX1_addStep 10 = .ok (.aload_n 0, 1) := by decide +kernel
theorem dX1_addStep_11 : decode cX1_addStep 11 = .ok (.getfield 18, 3) := by decide +kernel
theorem dX1_addStep_14 : decode cX1_addStep 14 = .ok (.aload_n 0, 1) := by decide +kernel
theorem dX1_addStep_15 : decode cX1_addStep 15 = .ok (.getfield 28, 3) := by decide +kernel
theorem dX1_addStep_18 : decode cX1_addStep 18 = .ok (.iload_n 1, 1) := by decide +kernel
theorem dX1_addStep_19 : decode cX1_addStep 19 = .ok (.bipush 14, 2) := by decide +kernel
theorem dX1_addStep_21 : decode cX1_addStep 21 = .ok (.ishl, 1) := by decide +kernel
theorem dX1_addStep_22 : decode cX1_addStep 22 = .ok (.iload_n 2, 1) := by decide +kernel
theorem dX1_addStep_23 : decode cX1_addStep 23 = .ok (.ior, 1) := by decide +kernel
theorem dX1_addStep_24 : decode cX1_addStep 24 = .ok (.iastore, 1) := by decide +kernel
theorem dX1_addStep_25 : decode cX1_addStep 25 = .ok (.aload_n 0, 1) := by decide +kernel
theorem dX1_addStep_26 : decode cX1_addStep 26 = .ok (.dup, 1) := by decide +kernel
theorem dX1_addStep_27 : decode cX1_addStep 27 = .ok (.getfield 28, 3) := by decide +kernel
theorem dX1_addStep_30 : decode cX1_addStep 30 = .ok (.iconst 1, 1) := by decide +kernel
theorem dX1_addStep_31 : decode cX1_addStep 31 = .ok (.iadd, 1) := by decide +kernel
theorem dX1_addStep_32 : decode cX1_addStep 32 = .ok (.putfield 28, 3) := by decide +kernel
theorem dX1_addStep_35 : decode cX1_addStep 35 = .ok (.return_, 1) := by decide +kernel
theorem dX1_argumentOf_0 : decode cX1_argumentOf 0 = .ok (.iload_n 1, 1) := by decide +kernel
theorem dX1_argumentOf_1 : decode cX1_argumentOf 1 = .ok (.ifCond .lt 24, 3) := by decide +kernel
theorem dX1_argumentOf_4 : decode cX1_argumentOf 4 = .ok (.iload_n 1, 1) := by decide +kernel
theorem dX1_argumentOf_5 : decode cX1_argumentOf 5 = .ok (.aload_n 0, 1) := by decide +kernel
theorem dX1_argumentOf_6 : decode cX1_argumentOf 6 = .ok (.getfield 28, 3) := by decide +kernel
theorem dX1_argumentOf_9 : decode cX1_argumentOf 9 = .ok (.if_icmp .ge 16, 3) := by decide +kernel
theorem dX1_argumentOf_12 : decode cX1_argumentOf 12 = .ok (.aload_n 0, 1) := by decide +kernel
theorem dX1_argumentOf_13 : decode cX1_argumentOf 13 = .ok (.getfield 18, 3) := by decide +kernel
theorem dX1_argumentOf_16 : decode cX1_argumentOf 16 = .ok (.iload_n 1, 1) := by decide +kernel
theorem dX1_argumentOf_17 : decode cX1_argumentOf 17 = .ok (.iaload, 1) := by decide +kernel
theorem dX1_argumentOf_18 : decode cX1_argumentOf 18 = .ok (.sipush 16383, 3) := by decide +kernel
theorem dX1_argumentOf_21 : decode cX1_argumentOf 21 = .ok (.iand, 1) := by decide +kernel
theorem dX1_argumentOf_22 : decode cX1_argumentOf 22 = .ok (.goto 4, 3) := by decide +kernel
theorem dX1_argumentOf_25 : decode cX1_argumentOf 25 = .ok (.iconst 0, 1) := by decide +kernel
theorem dX1_argumentOf_26 : decode cX1_argumentOf 26 = .ok (.ireturn, 1) := by decide +kernel
theorem dX1_clear_0 : decode cX1_clear 0 = .ok (.aload_n 0, 1) := by decide +kernel
theorem dX1_clear_1 : decode cX1_clear 1 = .ok (.iconst 0, 1) := by decide +kernel
theorem dX1_clear_2 : decode cX1_clear 2 = .ok (.putfield 21, 3) := by decide +kernel
theorem dX1_clear_5 : decode cX1_clear 5 = .ok (.aload_n 0, 1) := by decide +kernel
theorem dX1_clear_6 : decode cX1_clear 6 = .ok (.iconst 0, 1) := by decide +kernel
theorem dX1_clear_7 : decode cX1_clear 7 = .ok (.putfield 25, 3) := by decide +kernel
theorem dX1_clear_10 : decode cX1_clear 10 = .ok (.aload_n 0, 1) := by decide +kernel
theorem dX1_clear_11 : decode cX1_clear 11 = .ok (.iconst 0, 1) := by decide +kernel
theorem dX1_clear_12 : decode cX1_clear 12 = .ok (.putfield 28, 3) := by decide +kernel
theorem dX1_clear_15 : decode cX1_clear 15 = .ok (.aload_n 0, 1) := by decide +kernel
theorem dX1_clear_16 : decode cX1_clear 16 = .ok (.getfield 9, 3) := by decide +kernel
theorem dX1_clear_19 : decode cX1_clear 19 = .ok (.iconst (-1), 1) := by decide +kernel
theorem dX1_clear_20 : decode cX1_clear 20 = .ok (.invokestatic 31, 3) := by decide +kernel
theorem dX1_clear_23 : decode cX1_clear 23 = .ok (.aload_n 0, 1) := by decide +kernel
theorem dX1_clear_24 : decode cX1_clear 24 = .ok (.getfield 15, 3) := by decide +kernel
theorem dX1_clear_27 : decode cX1_clear 27 = .ok (.iconst 0, 1) := by decide +kernel
theorem dX1_clear_28 : decode cX1_clear 28 = .ok (.invokestatic 31, 3) := by decide +kernel
theorem dX1_clear_31 : decode cX1_clear 31 = .ok (.return_, 1) := by decide +kernel
theorem dX1_firstStep_0 : decode cX1_firstStep 0 = .ok (.iload_n 1, 1) := by decide +kernel
theorem dX1_firstStep_1 : decode cX1_firstStep 1 = .ok (.ifCond .lt 20, 3) := by decide +kernel
theorem dX1_firstStep_4 : decode cX1_firstStep 4 = .ok (.iload_n 1, 1) := by decide +kernel
theorem dX1_firstStep_5 : decode cX1_firstStep 5 = .ok (.aload_n 0, 1) := by decide +kernel
theorem dX1_firstStep_6 : decode cX1_firstStep 6 = .ok (.getfield 21, 3) := by decide +kernel
theorem dX1_firstStep_9 : decode cX1_firstStep 9 = .ok (.if_icmp .ge 12, 3) := by decide +kernel
theorem dX1_firstStep_12 : decode cX1_firstStep 12 = .ok (.aload_n 0, 1) := by decide +kernel
theorem dX1_firstStep_13 : decode cX1_firstStep 13 = .ok (.getfield 15, 3) := by decide +kernel
theorem dX1_firstStep_16 : decode cX1_firstStep 16 = .ok (.iload_n 1, 1) := by decide +kernel
theorem dX1_firstStep_17 : decode cX1_firstStep 17 = .ok (.iaload, 1) := by decide +kernel
theorem dX1_firstStep_18 : decode cX1_firstStep 18 = .ok (.goto 4, 3) := by decide +kernel
theorem dX1_firstStep_21 : decode cX1_firstStep 21 = .ok (.iconst 0, 1) := by decide +kernel
theorem dX1_firstStep_22 : decode cX1_firstStep 22 = .ok (.ireturn, 1) := by decide +kernel
theorem dX1_numberOn_0 : decode cX1_numberOn 0 = .ok (.iload_n 1, 1) := by decide +kernel
theorem dX1_numberOn_1 : decode cX1_numberOn 1 = .ok (.ifCond .lt 18, 3) := by decide +kernel
theorem dX1_numberOn_4 : decode cX1_numberOn 4 = .ok (.iload_n 1, 1) := by decide +kernel
theorem dX1_numberOn_5 : decode cX1_numberOn 5 = .ok (.bipush 60, 2) := by decide +kernel
theorem dX1_numberOn_7 : decode cX1_numberOn 7 = .ok (.if_icmp .ge 12, 3) := by decide +kernel
theorem dX1_numberOn_10 : decode cX1_numberOn 10 = .ok (.aload_n 0, 1) := by decide +kernel
theorem dX1_numberOn_11 : decode cX1_numberOn 11 = .ok (.getfield 9, 3) := by decide +kernel
theorem dX1_numberOn_14 : decode cX1_numberOn 14 = .ok (.iload_n 1, 1) := by decide +kernel
theorem dX1_numberOn_15 : decode cX1_numberOn 15 = .ok (.iaload, 1) := by decide +kernel
theorem dX1_numberOn_16 : decode cX1_numberOn 16 = .ok (.goto 4, 3) := by decide +kernel
theorem dX1_numberOn_19 : decode cX1_numberOn 19 = .ok (.iconst (-1), 1) := by decide +kernel
theorem dX1_numberOn_20 : decode cX1_numberOn 20 = .ok (.ireturn, 1) := by decide +kernel
theorem dX1_opOf_0 : decode cX1_opOf 0 = .ok (.iload_n 1, 1) := by decide +kernel
theorem dX1_opOf_1 : decode cX1_opOf 1 = .ok (.ifCond .lt 23, 3) := by decide +kernel
theorem dX1_opOf_4 : decode cX1_opOf 4 = .ok (.iload_n 1, 1) := by decide +kernel
theorem dX1_opOf_5 : decode cX1_opOf 5 = .ok (.aload_n 0, 1) := by decide +kernel
theorem dX1_opOf_6 : decode cX1_opOf 6 = .ok (.getfield 28, 3) := by decide +kernel
theorem dX1_opOf_9 : decode cX1_opOf 9 = .ok (.if_icmp .ge 15, 3) := by decide +kernel
theorem dX1_opOf_12 : decode cX1_opOf 12 = .ok (.aload_n 0, 1) := by decide +kernel
theorem dX1_opOf_13 : decode cX1_opOf 13 = .ok (.getfield 18, 3) := by decide +kernel
theorem dX1_opOf_16 : decode cX1_opOf 16 = .ok (.iload_n 1, 1) := by decide +kernel
theorem dX1_opOf_17 : decode cX1_opOf 17 = .ok (.iaload, 1) := by decide +kernel
theorem dX1_opOf_18 : decode cX1_opOf 18 = .ok (.bipush 14, 2) := by decide +kernel
theorem dX1_opOf_20 : decode cX1_opOf 20 = .ok (.ishr, 1) := by decide +kernel
theorem dX1_opOf_21 : decode cX1_opOf 21 = .ok (.goto 4, 3) := by decide +kernel
theorem dX1_opOf_24 : decode cX1_opOf 24 = .ok (.iconst 0, 1) := by decide +kernel
theorem dX1_opOf_25 : decode cX1_opOf 25 = .ok (.ireturn, 1) := by decide +kernel
theorem dX1_stepsEnd_0 : decode cX1_stepsEnd 0 = .ok (.iload_n 1, 1) := by decide +kernel
theorem dX1_stepsEnd_1 : decode cX1_stepsEnd 1 = .ok (.ifCond .lt 22, 3) := by decide +kernel
theorem dX1_stepsEnd_4 : decode cX1_stepsEnd 4 = .ok (.iload_n 1, 1) := by decide +kernel
theorem dX1_stepsEnd_5 : decode cX1_stepsEnd 5 = .ok (.aload_n 0, 1) := by decide +kernel
theorem dX1_stepsEnd_6 : decode cX1_stepsEnd 6 = .ok (.getfield 21, 3) := by decide +kernel
theorem dX1_stepsEnd_9 : decode cX1_stepsEnd 9 = .ok (.if_icmp .ge 14, 3) := by decide +kernel
theorem dX1_stepsEnd_12 : decode cX1_stepsEnd 12 = .ok (.aload_n 0, 1) := by decide +kernel
theorem dX1_stepsEnd_13 : decode cX1_stepsEnd 13 = .ok (.getfield 15, 3) := by decide +kernel
theorem dX1_stepsEnd_16 : decode cX1_stepsEnd 16 = .ok (.iload_n 1, 1) := by decide +kernel
theorem dX1_stepsEnd_17 : decode cX1_stepsEnd 17 = .ok (.iconst 1, 1) := by decide +kernel
theorem dX1_stepsEnd_18 : decode cX1_stepsEnd 18 = .ok (.iadd, 1) := by decide +kernel
theorem dX1_stepsEnd_19 : decode cX1_stepsEnd 19 = .ok (.iaload, 1) := by decide +kernel
theorem dX1_stepsEnd_20 : decode cX1_stepsEnd 20 = .ok (.goto 4, 3) := by decide +kernel
theorem dX1_stepsEnd_23 : decode cX1_stepsEnd 23 = .ok (.iconst 0, 1) := by decide +kernel
theorem dX1_stepsEnd_24 : decode cX1_stepsEnd 24 = .ok (.ireturn, 1) := by decide +kernel
theorem dX2_init_0 : decode cX2_init 0 = .ok (.aload_n 0, 1) := by decide +kernel
theorem dX2_init_1 : decode cX2_init 1 = .ok (.invokespecial 3, 3) := by decide +kernel
theorem dX2_init_4 : decode cX2_init 4 = .ok (.aload_n 0, 1) := by decide +kernel
theorem dX2_init_5 : decode cX2_init 5 = .ok (.bipush 8, 2) := by decide +kernel
theorem dX2_init_7 : decode cX2_init 7 = .ok (.newarray .int, 2) := by decide +kernel
theorem dX2_init_9 : decode cX2_init 9 = .ok (.putfield 9, 3) := by decide +kernel
theorem dX2_init_12 : decode cX2_init 12 = .ok (.aload_n 0, 1) := by decide +kernel
theorem dX2_init_13 : decode cX2_init 13 = .ok (.sipush 300, 3) := by decide +kernel
theorem dX2_init_16 : decode cX2_init 16 = .ok (.newarray .int, 2) := by decide +kernel
theorem dX2_init_18 : decode cX2_init 18 = .ok (.putfield 15, 3) := by decide +kernel
theorem dX2_init_21 : decode cX2_init 21 = .ok (.return_, 1) := by decide +kernel
theorem dX2_cell_0 : decode cX2_cell 0 = .ok (.iload_n 1, 1) := by decide +kernel
theorem dX2_cell_1 : decode cX2_cell 1 = .ok (.ifCond .lt 20, 3) := by decide +kernel
theorem dX2_cell_4 : decode cX2_cell 4 = .ok (.iload_n 1, 1) := by decide +kernel
theorem dX2_cell_5 : decode cX2_cell 5 = .ok (.aload_n 0, 1) := by decide +kernel
theorem dX2_cell_6 : decode cX2_cell 6 = .ok (.getfield 18, 3) := by decide +kernel
theorem dX2_cell_9 : decode cX2_cell 9 = .ok (.if_icmp .ge 12, 3) := by decide +kernel
theorem dX2_cell_12 : decode cX2_cell 12 = .ok (.iload_n 2, 1) := by decide +kernel
theorem dX2_cell_13 : decode cX2_cell 13 = .ok (.ifCond .lt 8, 3) := by decide +kernel
theorem dX2_cell_16 : decode cX2_cell 16 = .ok (.iload_n 2, 1) := by decide +kernel
theorem dX2_cell_17 : decode cX2_cell 17 = .ok (.iconst 5, 1) := by decide +kernel
theorem dX2_cell_18 : decode cX2_cell 18 = .ok (.if_icmp .lt 5, 3) := by decide +kernel
theorem dX2_cell_21 : decode cX2_cell 21 = .ok (.iconst (-1), 1) := by decide +kernel
theorem dX2_cell_22 : decode cX2_cell 22 = .ok (.ireturn, 1) := by decide +kernel
theorem dX2_cell_23 : decode cX2_cell 23 = .ok (.aload_n 0, 1) := by decide +kernel
theorem dX2_cell_24 : decode cX2_cell 24 = .ok (.getfield 15, 3) := by decide +kernel
theorem dX2_cell_27 : decode cX2_cell 27 = .ok (.iload_n 1, 1) := by decide +kernel
theorem dX2_cell_28 : decode cX2_cell 28 = .ok (.iconst 5, 1) := by decide +kernel
theorem dX2_cell_29 : decode cX2_cell 29 = .ok (.imul, 1) := by decide +kernel
theorem dX2_cell_30 : decode cX2_cell 30 = .ok (.iload_n 2, 1) := by decide +kernel
theorem dX2_cell_31 : decode cX2_cell 31 = .ok (.iadd, 1) := by decide +kernel
theorem dX2_cell_32 : decode cX2_cell 32 = .ok (.iaload, 1) := by decide +kernel
theorem dX2_cell_33 : decode cX2_cell 33 = .ok (.ireturn, 1) := by decide +kernel
theorem dX2_clear_0 : decode cX2_clear 0 = .ok (.aload_n 0, 1) := by decide +kernel
theorem dX2_clear_1 : decode cX2_clear 1 = .ok (.iconst 0, 1) := by decide +kernel
theorem dX2_clear_2 : decode cX2_clear 2 = .ok (.putfield 18, 3) := by decide +kernel
theorem dX2_clear_5 : decode cX2_clear 5 = .ok (.aload_n 0, 1) := by decide +kernel
theorem dX2_clear_6 : decode cX2_clear 6 = .ok (.getfield 9, 3) := by decide +kernel
theorem dX2_clear_9 : decode cX2_clear 9 = .ok (.iconst 0, 1) := by decide +kernel
theorem dX2_clear_10 : decode cX2_clear 10 = .ok (.invokestatic 22, 3) := by decide +kernel
theorem dX2_clear_13 : decode cX2_clear 13 = .ok (.return_, 1) := by decide +kernel
theorem dX2_copyFrom_0 : decode cX2_copyFrom 0 = .ok (.aload_n 0, 1) := by decide +kernel
theorem dX2_copyFrom_1 : decode cX2_copyFrom 1 = .ok (.aload_n 1, 1) := by decide +kernel
theorem dX2_copyFrom_2 : decode cX2_copyFrom 2 = .ok (.getfield 18, 3) := by decide +kernel
theorem dX2_copyFrom_5 : decode cX2_copyFrom 5 = .ok (.putfield 18, 3) := by decide +kernel
theorem dX2_copyFrom_8 : decode cX2_copyFrom 8 = .ok (.aload_n 1, 1) := by decide +kernel
theorem dX2_copyFrom_9 : decode cX2_copyFrom 9 = .ok (.getfield 9, 3) := by decide +kernel
theorem dX2_copyFrom_12 : decode cX2_copyFrom 12 = .ok (.iconst 0, 1) := by decide +kernel
theorem dX2_copyFrom_13 : decode cX2_copyFrom 13 = .ok (.aload_n 0, 1) := by decide +kernel
theorem dX2_copyFrom_14 : decode cX2_copyFrom 14 = .ok (.getfield 9, 3) := by decide +kernel
theorem dX2_copyFrom_17 : decode cX2_copyFrom 17 = .ok (.iconst 0, 1) := by decide +kernel
theorem dX2_copyFrom_18 : decode cX2_copyFrom 18 = .ok (.bipush 8, 2) := by decide +kernel
theorem dX2_copyFrom_20 : decode cX2_copyFrom 20 = .ok (.invokestatic 28, 3) := by decide +kernel
theorem dX2_copyFrom_23 : decode cX2_copyFrom 23 = .ok (.aload_n 1, 1) := by decide +kernel
theorem dX2_copyFrom_24 : decode cX2_copyFrom 24 = .ok (.getfield 15, 3) := by decide +kernel
theorem dX2_copyFrom_27 : decode cX2_copyFrom 27 = .ok (.iconst 0, 1) := by decide +kernel
theorem dX2_copyFrom_28 : decode cX2_copyFrom 28 = .ok (.aload_n 0, 1) := by decide +kernel
theorem dX2_copyFrom_29 : decode cX2_copyFrom 29 = .ok (.getfield 15, 3) := by decide +kernel
theorem dX2_copyFrom_32 : decode cX2_copyFrom 32 = .ok (.iconst 0, 1) := by decide +kernel
theorem dX2_copyFrom_33 : decode cX2_copyFrom 33 = .ok (.aload_n 0, 1) := by decide +kernel
theorem dX2_copyFrom_34 : decode cX2_copyFrom 34 = .ok (.getfield 15, 3) := by decide +kernel
theorem dX2_copyFrom_37 : decode cX2_copyFrom 37 = .ok (.arraylength, 1) := by decide +kernel
theorem dX2_copyFrom_38 : decode cX2_copyFrom 38 = .ok (.invokestatic 28, 3) := by decide +kernel
theorem dX2_copyFrom_41 : decode cX2_copyFrom 41 = .ok (.return_, 1) := by decide +kernel
theorem dX2_keep_0 : decode cX2_keep 0 = .ok (.aload_n 0, 1) := by decide +kernel
theorem dX2_keep_1 : decode cX2_keep 1 = .ok (.getfield 18, 3) := by decide +kernel
theorem dX2_keep_4 : decode cX2_keep 4 = .ok (.bipush 60, 2) := by decide +kernel
theorem dX2_keep_6 : decode cX2_keep 6 = .ok (.if_icmp .lt 5, 3) := by decide +kernel
theorem dX2_keep_9 : decode cX2_keep 9 = .ok (.iconst (-1), 1) := by decide +kernel
theorem dX2_keep_10 : decode cX2_keep 10 = .ok (.ireturn, 1) := by decide +kernel
theorem dX2_keep_11 : decode cX2_keep 11 = .ok (.aload_n 0, 1) := by decide +kernel
theorem dX2_keep_12 : decode cX2_keep 12 = .ok (.getfield 18, 3) := by decide +kernel
theorem dX2_keep_15 : decode cX2_keep 15 = .ok (.iconst 5, 1) := by decide +kernel
theorem dX2_keep_16 : decode cX2_keep 16 = .ok (.imul, 1) := by decide +kernel
theorem dX2_keep_17 : decode cX2_keep 17 = .ok (.istore 6, 2) := by decide +kernel
theorem dX2_keep_19 : decode cX2_keep 19 = .ok (.aload_n 0, 1) := by decide +kernel
theorem dX2_keep_20 : decode cX2_keep 20 = .ok (.getfield 15, 3) := by decide +kernel
theorem dX2_keep_23 : decode cX2_keep 23 = .ok (.iload 6, 2) := by decide +kernel
theorem dX2_keep_25 : decode cX2_keep 25 = .ok (.iload_n 1, 1) := by decide +kernel
theorem dX2_keep_26 : decode cX2_keep 26 = .ok (.iastore, 1) := by decide +kernel
theorem dX2_keep_27 : decode cX2_keep 27 = .ok (.aload_n 0, 1) := by decide +kernel
theorem dX2_keep_28 : decode cX2_keep 28 = .ok (.getfield 15, 3) := by decide +kernel
theorem dX2_keep_31 : decode cX2_keep 31 = .ok (.iload 6, 2) := by decide +kernel
theorem dX2_keep_33 : decode cX2_keep 33 = .ok (.iconst 1, 1) := by decide +kernel
theorem dX2_keep_34 : decode cX2_keep 34 = .ok (.iadd, 1) := by decide +kernel
theorem dX2_keep_35 : decode cX2_keep 35 = .ok (.iload_n 2, 1) := by decide +kernel
theorem dX2_keep_36 : decode cX2_keep 36 = .ok (.iastore, 1) := by decide +kernel
theorem dX2_keep_37 : decode cX2_keep 37 = .ok (.aload_n 0, 1) := by decide +kernel
theorem dX2_keep_38 : decode cX2_keep 38 = .ok (.getfield 15, 3) := by decide +kernel
theorem dX2_keep_41 : decode cX2_keep 41 = .ok (.iload 6, 2) := by decide +kernel
theorem dX2_keep_43 : decode cX2_keep 43 = .ok (.iconst 2, 1) := by decide +kernel
theorem dX2_keep_44 : decode cX2_keep 44 = .ok (.iadd, 1) := by decide +kernel
theorem dX2_keep_45 : decode cX2_keep 45 = .ok (.iload_n 3, 1) := by decide +kernel
theorem dX2_keep_46 : decode cX2_keep 46 = .ok (.iastore, 1) := by decide +kernel
theorem dX2_keep_47 : decode cX2_keep 47 = .ok (.aload_n 0, 1) := by decide +kernel
theorem dX2_keep_48 : decode cX2_keep 48 = .ok (.getfield 15, 3) := by decide +kernel
theorem dX2_keep_51 : decode cX2_keep 51 = .ok (.iload 6, 2) := by decide +kernel
theorem dX2_keep_53 : decode cX2_keep 53 = .ok (.iconst 3, 1) := by decide +kernel
theorem dX2_keep_54 : decode cX2_keep 54 = .ok (.iadd, 1) := by decide +kernel
theorem dX2_keep_55 : decode cX2_keep 55 = .ok (.iload 4, 2) := by decide +kernel
theorem dX2_keep_57 : decode cX2_keep 57 = .ok (.iastore, 1) := by decide +kernel
theorem dX2_keep_58 : decode cX2_keep 58 = .ok (.aload_n 0, 1) := by decide +kernel
theorem dX2_keep_59 : decode cX2_keep 59 = .ok (.getfield 15, 3) := by decide +kernel
theorem dX2_keep_62 : decode cX2_keep 62 = .ok (.iload 6, 2) := by decide +kernel
theorem dX2_keep_64 : decode cX2_keep 64 = .ok (.iconst 4, 1) := by decide +kernel
theorem dX2_keep_65 : decode cX2_keep 65 = .ok (.iadd, 1) := by decide +kernel
theorem dX2_keep_66 : decode cX2_keep 66 = .ok (.iload 5, 2) := by decide +kernel
theorem dX2_keep_68 : decode cX2_keep 68 = .ok (.iastore, 1) := by decide +kernel
theorem dX2_keep_69 : decode cX2_keep 69 = .ok (.aload_n 0, 1) := by decide +kernel
theorem dX2_keep_70 : decode cX2_keep 70 = .ok (.dup, 1) := by decide +kernel
theorem dX2_keep_71 : decode cX2_keep 71 = .ok (.getfield 18, 3) := by decide +kernel
theorem dX2_keep_74 : decode cX2_keep 74 = .ok (.iconst 1, 1) := by decide +kernel
theorem dX2_keep_75 : decode cX2_keep 75 = .ok (.iadd, 1) := by decide +kernel
theorem dX2_keep_76 : decode cX2_keep 76 = .ok (.putfield 18, 3) := by decide +kernel
theorem dX2_keep_79 : decode cX2_keep 79 = .ok (.aload_n 0, 1) := by decide +kernel
theorem dX2_keep_80 : decode cX2_keep 80 = .ok (.getfield 18, 3) := by decide +kernel
theorem dX2_keep_83 : decode cX2_keep 83 = .ok (.iconst 1, 1) := by decide +kernel
theorem dX2_keep_84 : decode cX2_keep 84 = .ok (.isub, 1) := by decide +kernel
theorem dX2_keep_85 : decode cX2_keep 85 = .ok (.ireturn, 1) := by decide +kernel
theorem dX3_init_0 : decode cX3_init 0 = .ok (.aload_n 0, 1) := by decide +kernel
theorem dX3_init_1 : decode cX3_init 1 = .ok (.invokespecial 3, 3) := by decide +kernel
theorem dX3_init_4 : decode cX3_init 4 = .ok (.aload_n 0, 1) := by decide +kernel
theorem dX3_init_5 : decode cX3_init 5 = .ok (.new 9, 3) := by decide +kernel
theorem dX3_init_8 : decode cX3_init 8 = .ok (.dup, 1) := by decide +kernel
theorem dX3_init_9 : decode cX3_init 9 = .ok (.invokespecial 11, 3) := by decide +kernel
theorem dX3_init_12 : decode cX3_init 12 = .ok (.putfield 12, 3) := by decide +kernel
theorem dX3_init_15 : decode cX3_init 15 = .ok (.aload_n 0, 1) := by decide +kernel
theorem dX3_init_16 : decode cX3_init 16 = .ok (.new 18, 3) := by decide +kernel
theorem dX3_init_19 : decode cX3_init 19 = .ok (.dup, 1) := by decide +kernel
theorem dX3_init_20 : decode cX3_init 20 = .ok (.invokespecial 20, 3) := by decide +kernel
theorem dX3_init_23 : decode cX3_init 23 = .ok (.putfield 21, 3) := by decide +kernel
theorem dX3_init_26 : decode cX3_init 26 = .ok (.return_, 1) := by decide +kernel
theorem dX3_carOfStrand_0 : decode cX3_carOfStrand 0 = .ok (.aload_n 2, 1) := by decide +kernel
theorem dX3_carOfStrand_1 : decode cX3_carOfStrand 1 = .ok (.getfield 63, 3) := by decide +kernel
theorem dX3_carOfStrand_4 : decode cX3_carOfStrand 4 = .ok (.istore_n 3, 1) := by decide +kernel
theorem dX3_carOfStrand_5 : decode cX3_carOfStrand 5 = .ok (.aload_n 0, 1) := by decide +kernel
theorem dX3_carOfStrand_6 : decode cX3_carOfStrand 6 = .ok (.getfield 21, 3) := by decide +kernel
theorem dX3_carOfStrand_9 : decode cX3_carOfStrand 9 = .ok (.aload_n 2, 1) := by decide +kernel
theorem dX3_carOfStrand_10 : decode cX3_carOfStrand 10 = .ok (.invokevirtual 66, 3) := by decide +kernel
theorem dX3_carOfStrand_13 : decode cX3_carOfStrand 13 = .ok (.iconst 0, 1) := by decide +kernel
theorem dX3_carOfStrand_14 : decode cX3_carOfStrand 14 = .ok (.istore 4, 2) := by decide +kernel
theorem dX3_carOfStrand_16 : decode cX3_carOfStrand 16 = .ok (.iload 4, 2) := by decide +kernel
theorem dX3_carOfStrand_18 : decode cX3_carOfStrand 18 = .ok (.sipush 500, 3) := by decide +kernel
theorem dX3_carOfStrand_21 : decode cX3_carOfStrand 21 = .ok (.if_icmp .ge 60, 3) := by decide +kernel
theorem dX3_carOfStrand_24 : decode cX3_carOfStrand 24 = .ok (.aload_n 1, 1) := by decide +kernel
theorem dX3_carOfStrand_25 : decode cX3_carOfStrand 25 = .ok (.iload_n 3, 1) := by decide +kernel
theorem dX3_carOfStrand_26 : decode cX3_carOfStrand 26 = .ok (.invokevirtual 70, 3) := by decide +kernel
theorem dX3_carOfStrand_29 : decode cX3_carOfStrand 29 = .ok (.ifCond .eq 52, 3) := by decide +kernel
theorem dX3_carOfStrand_32 : decode cX3_carOfStrand 32 = .ok (.aload_n 0, 1) := by decide +kernel
theorem dX3_carOfStrand_33 : decode cX3_carOfStrand 33 = .ok (.getfield 21, 3) := by decide +kernel
theorem dX3_carOfStrand_36 : decode cX3_carOfStrand 36 = .ok (.getfield 74, 3) := by decide +kernel
theorem dX3_carOfStrand_39 : decode cX3_carOfStrand 39 = .ok (.iload_n 3, 1) := by decide +kernel
theorem dX3_carOfStrand_40 : decode cX3_carOfStrand 40 = .ok (.baload, 1) := by decide +kernel
theorem dX3_carOfStrand_41 : decode cX3_carOfStrand 41 = .ok (.ifCond .ne 40, 3) := by decide +kernel
theorem dX3_carOfStrand_44 : decode cX3_carOfStrand 44 = .ok (.aload_n 0, 1) := by decide +kernel
theorem dX3_carOfStrand_45 : decode cX3_carOfStrand 45 = .ok (.getfield 12, 3) := by decide +kernel
theorem dX3_carOfStrand_48 : decode cX3_carOfStrand 48 = .ok (.aload_n 1, 1) := by decide +kernel
theorem dX3_carOfStrand_49 : decode cX3_carOfStrand 49 = .ok (.aload_n 0, 1) := by decide +kernel
theorem dX3_carOfStrand_50 : decode cX3_carOfStrand 50 = .ok (.getfield 21, 3) := by decide +kernel
theorem dX3_carOfStrand_53 : decode cX3_carOfStrand 53 = .ok (.invokevirtual 78, 3) := by decide +kernel
theorem dX3_carOfStrand_56 : decode cX3_carOfStrand 56 = .ok (.aload_n 0, 1) := by decide +kernel
theorem dX3_carOfStrand_57 : decode cX3_carOfStrand 57 = .ok (.getfield 21, 3) := by decide +kernel
theorem dX3_carOfStrand_60 : decode cX3_carOfStrand 60 = .ok (.getfield 63, 3) := by decide +kernel
theorem dX3_carOfStrand_63 : decode cX3_carOfStrand 63 = .ok (.iconst (-1), 1) := by decide +kernel
theorem dX3_carOfStrand_64 : decode cX3_carOfStrand 64 = .ok (.if_icmp .ne 11, 3) := by decide +kernel
theorem dX3_carOfStrand_67 : decode cX3_carOfStrand 67 = .ok (.aload_n 0, 1) := by decide +kernel
theorem dX3_carOfStrand_68 : decode cX3_carOfStrand 68 = .ok (.getfield 21, 3) := by decide +kernel
theorem dX3_carOfStrand_71 : decode cX3_carOfStrand 71 = .ok (.getfield 82, 3) := by decide +kernel
theorem dX3_carOfStrand_74 : decode cX3_carOfStrand 74 = .ok (.ireturn, 1) := by decide +kernel
theorem dX3_carOfStrand_75 : decode cX3_carOfStrand 75 = .ok (.iinc 4 1, 3) := by decide +kernel
theorem dX3_carOfStrand_78 : decode cX3_carOfStrand 78 = .ok (.goto (-62), 3) := by decide +kernel
theorem dX3_carOfStrand_81 : decode cX3_carOfStrand 81 = .ok (.iconst (-1), 1) := by decide +kernel
theorem dX3_carOfStrand_82 : decode cX3_carOfStrand 82 = .ok (.ireturn, 1) := by decide +kernel
theorem dX3_drawPower_0 : decode cX3_drawPower 0 = .ok (.aload_n 0, 1) := by decide +kernel
theorem dX3_drawPower_1 : decode cX3_drawPower 1 = .ok (.getfield 21, 3) := by decide +kernel
theorem dX3_drawPower_4 : decode cX3_drawPower 4 = .ok (.aload_n 2, 1) := by decide +kernel
theorem dX3_drawPower_5 : decode cX3_drawPower 5 = .ok (.invokevirtual 66, 3) := by decide +kernel
theorem dX3_drawPower_8 : decode cX3_drawPower 8 = .ok (.aload_n 0, 1) := by decide +kernel
theorem dX3_drawPower_9 : decode cX3_drawPower 9 = .ok (.iconst 0, 1) := by decide +kernel
theorem dX3_drawPower_10 : decode cX3_drawPower 10 = .ok (.putfield 126, 3) := by decide +kernel
theorem dX3_drawPower_13 : decode cX3_drawPower 13 = .ok (.aload_n 0, 1) := by decide +kernel
theorem dX3_drawPower_14 : decode cX3_drawPower 14 = .ok (.iconst 0, 1) := by decide +kernel
theorem dX3_drawPower_15 : decode cX3_drawPower 15 = .ok (.putfield 129, 3) := by decide +kernel
theorem dX3_drawPower_18 : decode cX3_drawPower 18 = .ok (.iconst 0, 1) := by decide +kernel
theorem dX3_drawPower_19 : decode cX3_drawPower 19 = .ok (.istore 4, 2) := by decide +kernel
theorem dX3_drawPower_21 : decode cX3_drawPower 21 = .ok (.iload 4, 2) := by decide +kernel
theorem dX3_drawPower_23 : decode cX3_drawPower 23 = .ok (.iload_n 3, 1) := by decide +kernel
theorem dX3_drawPower_24 : decode cX3_drawPower 24 = .ok (.if_icmp .ge 98, 3) := by decide +kernel
theorem dX3_drawPower_27 : decode cX3_drawPower 27 = .ok (.iconst 0, 1) := by decide +kernel
theorem dX3_drawPower_28 : decode cX3_drawPower 28 = .ok (.istore 5, 2) := by decide +kernel
theorem dX3_drawPower_30 : decode cX3_drawPower 30 = .ok (.iconst 0, 1) := by decide +kernel
theorem dX3_drawPower_31 : decode cX3_drawPower 31 = .ok (.istore 6, 2) := by decide +kernel
theorem dX3_drawPower_33 : decode cX3_drawPower 33 = .ok (.iload 6, 2) := by decide +kernel
theorem dX3_drawPower_35 : decode cX3_drawPower 35 = .ok (.aload_n 1, 1) := by decide +kernel
theorem dX3_drawPower_36 : decode cX3_drawPower 36 = .ok (.getfield 132, 3) := by decide +kernel
theorem dX3_drawPower_39 : decode cX3_drawPower 39 = .ok (.if_icmp .ge 41, 3) := by decide +kernel
theorem dX3_drawPower_42 : decode cX3_drawPower 42 = .ok (.iload 5, 2) := by decide +kernel
theorem dX3_drawPower_44 : decode cX3_drawPower 44 = .ok (.aload_n 0, 1) := by decide +kernel
theorem dX3_drawPower_45 : decode cX3_drawPower 45 = .ok (.getfield 21, 3) := by decide +kernel
theorem dX3_drawPower_48 : decode cX3_drawPower 48 = .ok (.getfield 74, 3) := by decide +kernel
theorem dX3_drawPower_51 : decode cX3_drawPower 51 = .ok (.iload 6, 2) := by decide +kernel
theorem dX3_drawPower_53 : decode cX3_drawPower 53 = .ok (.baload, 1) := by decide +kernel
theorem dX3_drawPower_54 : decode cX3_drawPower 54 = .ok (.ifCond .eq 7, 3) := by decide +kernel
theorem dX3_drawPower_57 : decode cX3_drawPower 57 = .ok (.iconst 0, 1) := by decide +kernel
theorem dX3_drawPower_58 : decode cX3_drawPower 58 = .ok (.goto 13, 3) := by decide +kernel
theorem dX3_drawPower_61 : decode cX3_drawPower 61 = .ok (.aload_n 0, 1) := by decide +kernel
theorem dX3_drawPower_62 : decode cX3_drawPower 62 = .ok (.getfield 21, 3) := by decide +kernel
theorem dX3_drawPower_65 : decode cX3_drawPower 65 = .ok (.aload_n 1, 1) := by decide +kernel
theorem dX3_drawPower_66 : decode cX3_drawPower 66 = .ok (.iload 6, 2) := by decide +kernel
theorem dX3_drawPower_68 : decode cX3_drawPower 68 = .ok (.invokevirtual 135, 3) := by decide +kernel
theorem dX3_drawPower_71 : decode cX3_drawPower 71 = .ok (.iadd, 1) := by decide +kernel
theorem dX3_drawPower_72 : decode cX3_drawPower 72 = .ok (.istore 5, 2) := by decide +kernel
theorem dX3_drawPower_74 : decode cX3_drawPower 74 = .ok (.iinc 6 1, 3) := by decide +kernel
theorem dX3_drawPower_77 : decode cX3_drawPower 77 = .ok (.goto (-44), 3) := by decide +kernel
theorem dX3_drawPower_80 : decode cX3_drawPower 80 = .ok (.aload_n 0, 1) := by decide +kernel
theorem dX3_drawPower_81 : decode cX3_drawPower 81 = .ok (.dup, 1) := by decide +kernel
theorem dX3_drawPower_82 : decode cX3_drawPower 82 = .ok (.getfield 126, 3) := by decide +kernel
theorem dX3_drawPower_85 : decode cX3_drawPower 85 = .ok (.iload 5, 2) := by decide +kernel
theorem dX3_drawPower_87 : decode cX3_drawPower 87 = .ok (.iadd, 1) := by decide +kernel
theorem dX3_drawPower_88 : decode cX3_drawPower 88 = .ok (.putfield 126, 3) := by decide +kernel
theorem dX3_drawPower_91 : decode cX3_drawPower 91 = .ok (.aload_n 0, 1) := by decide +kernel
theorem dX3_drawPower_92 : decode cX3_drawPower 92 = .ok (.aload_n 0, 1) := by decide +kernel
theorem dX3_drawPower_93 : decode cX3_drawPower 93 = .ok (.getfield 129, 3) := by decide +kernel
theorem dX3_drawPower_96 : decode cX3_drawPower 96 = .ok (.iload 5, 2) := by decide +kernel
theorem dX3_drawPower_98 : decode cX3_drawPower 98 = .ok (.invokestatic 60, 3) := by decide +kernel
theorem dX3_drawPower_101 : decode cX3_drawPower 101 = .ok (.putfield 129, 3) := by decide +kernel
theorem dX3_drawPower_104 : decode cX3_drawPower 104 = .ok (.aload_n 0, 1) := by decide +kernel
theorem dX3_drawPower_105 : decode cX3_drawPower 105 = .ok (.getfield 12, 3) := by decide +kernel
theorem dX3_drawPower_108 : decode cX3_drawPower 108 = .ok (.aload_n 1, 1) := by decide +kernel
theorem dX3_drawPower_109 : decode cX3_drawPower 109 = .ok (.aload_n 0, 1) := by decide +kernel
theorem dX3_drawPower_110 : decode cX3_drawPower 110 = .ok (.getfield 21, 3) := by decide +kernel
theorem dX3_drawPower_113 : decode cX3_drawPower 113 = .ok (.invokevirtual 78, 3) := by decide +kernel
theorem dX3_drawPower_116 : decode cX3_drawPower 116 = .ok (.iinc 4 1, 3) := by decide +kernel
theorem dX3_drawPower_119 : decode cX3_drawPower 119 = .ok (.goto (-98), 3) := by decide +kernel
theorem dX3_drawPower_122 : decode cX3_drawPower 122 = .ok (.return_, 1) := by decide +kernel
theorem dX3_drawTimetable_0 : decode cX3_drawTimetable 0 = .ok (.aload_n 0, 1) := by decide +kernel
theorem dX3_drawTimetable_1 : decode cX3_drawTimetable 1 = .ok (.getfield 21, 3) := by decide +kernel
theorem dX3_drawTimetable_4 : decode cX3_drawTimetable 4 = .ok (.aload_n 1, 1) := by decide +kernel
theorem dX3_drawTimetable_5 : decode cX3_drawTimetable 5 = .ok (.invokevirtual 139, 3) := by decide +kernel
theorem dX3_drawTimetable_8 : decode cX3_drawTimetable 8 = .ok (.iconst 0, 1) := by decide +kernel
theorem dX3_drawTimetable_9 : decode cX3_drawTimetable 9 = .ok (.istore_n 3, 1) := by decide +kernel
theorem dX3_drawTimetable_10 : decode cX3_drawTimetable 10 = .ok (.iload_n 3, 1) := by decide +kernel
theorem dX3_drawTimetable_11 : decode cX3_drawTimetable 11 = .ok (.sipush 200, 3) := by decide +kernel
theorem dX3_drawTimetable_14 : decode cX3_drawTimetable 14 = .ok (.if_icmp .ge 71, 3) := by decide +kernel
theorem dX3_drawTimetable_17 : decode cX3_drawTimetable 17 = .ok (.aload_n 0, 1) := by decide +kernel
theorem dX3_drawTimetable_18 : decode cX3_drawTimetable 18 = .ok (.getfield 12, 3) := by decide +kernel
theorem dX3_drawTimetable_21 : decode cX3_drawTimetable 21 = .ok (.aload_n 1, 1) := by decide +kernel
theorem dX3_drawTimetable_22 : decode cX3_drawTimetable 22 = .ok (.aload_n 0, 1) := by decide +kernel
theorem dX3_drawTimetable_23 : decode cX3_drawTimetable 23 = .ok (.getfield 21, 3) := by decide +kernel
theorem dX3_drawTimetable_26 : decode cX3_drawTimetable 26 = .ok (.invokevirtual 78, 3) := by decide +kernel
theorem dX3_drawTimetable_29 : decode cX3_drawTimetable 29 = .ok (.iconst 0, 1) := by decide +kernel
theorem dX3_drawTimetable_30 : decode cX3_drawTimetable 30 = .ok (.istore 4, 2) := by decide +kernel
theorem dX3_drawTimetable_32 : decode cX3_drawTimetable 32 = .ok (.iload 4, 2) := by decide +kernel
theorem dX3_drawTimetable_34 : decode cX3_drawTimetable 34 = .ok (.aload_n 1, 1) := by decide +kernel
theorem dX3_drawTimetable_35 : decode cX3_drawTimetable 35 = .ok (.getfield 115, 3) := by decide +kernel
theorem dX3_drawTimetable_38 : decode cX3_drawTimetable 38 = .ok (.if_icmp .ge 41, 3) := by decide +kernel
theorem dX3_drawTimetable_41 : decode cX3_drawTimetable 41 = .ok (.iload_n 3, 1) := by decide +kernel
theorem dX3_drawTimetable_42 : decode cX3_drawTimetable 42 = .ok (.iconst 5, 1) := by decide +kernel
theorem dX3_drawTimetable_43 : decode cX3_drawTimetable 43 = .ok (.imul, 1) := by decide +kernel
theorem dX3_drawTimetable_44 : decode cX3_drawTimetable 44 = .ok (.iload 4, 2) := by decide +kernel
theorem dX3_drawTimetable_46 : decode cX3_drawTimetable 46 = .ok (.iadd, 1) := by decide +kernel
theorem dX3_drawTimetable_47 : decode cX3_drawTimetable 47 = .ok (.istore 5, 2) := by decide +kernel
theorem dX3_drawTimetable_49 : decode cX3_drawTimetable 49 = .ok (.iload 5, 2) := by decide +kernel
theorem dX3_drawTimetable_51 : decode cX3_drawTimetable 51 = .ok (.aload_n 2, 1) := by decide +kernel
theorem dX3_drawTimetable_52 : decode cX3_drawTimetable 52 = .ok (.arraylength, 1) := by decide +kernel
theorem dX3_drawTimetable_53 : decode cX3_drawTimetable 53 = .ok (.if_icmp .ge 20, 3) := by decide +kernel
theorem dX3_drawTimetable_56 : decode cX3_drawTimetable 56 = .ok (.aload_n 2, 1) := by decide +kernel
theorem dX3_drawTimetable_57 : decode cX3_drawTimetable 57 = .ok (.iload 5, 2) := by decide +kernel
theorem dX3_drawTimetable_59 : decode cX3_drawTimetable 59 = .ok (.aload_n 0, 1) := by decide +kernel
theorem dX3_drawTimetable_60 : decode cX3_drawTimetable 60 = .ok (.getfield 21, 3) := by decide +kernel
theorem dX3_drawTimetable_63 : decode cX3_drawTimetable 63 = .ok (.getfield 101, 3) := by decide +kernel
theorem dX3_drawTimetable_66 : decode cX3_drawTimetable 66 = .ok (.iload 4, 2) := by decide +kernel
theorem dX3_drawTimetable_68 : decode cX3_drawTimetable 68 = .ok (.aaload, 1) := by decide +kernel
theorem dX3_drawTimetable_69 : decode cX3_drawTimetable 69 = .ok (.invokevirtual 143, 3) := by decide +kernel
theorem dX3_drawTimetable_72 : decode cX3_drawTimetable 72 = .ok (.iastore, 1) := by decide +kernel
theorem dX3_drawTimetable_73 : decode cX3_drawTimetable 73 = .ok (.iinc 4 1, 3) := by decide +kernel
theorem dX3_drawTimetable_76 : decode cX3_drawTimetable 76 = .ok (.goto (-44), 3) := by decide +kernel
theorem dX3_drawTimetable_79 : decode cX3_drawTimetable 79 = .ok (.iinc 3 1, 3) := by decide +kernel
theorem dX3_drawTimetable_82 : decode cX3_drawTimetable 82 = .ok (.goto (-72), 3) := by decide +kernel
theorem dX3_drawTimetable_85 : decode cX3_drawTimetable 85 = .ok (.return_, 1) := by decide +kernel
theorem dX3_followCoast_0 : decode cX3_followCoast 0 = .ok (.bipush 10, 2) := by decide +kernel
theorem dX3_followCoast_2 : decode cX3_followCoast 2 = .ok (.iload_n 2, 1) := by decide +kernel
theorem dX3_followCoast_3 : decode cX3_followCoast 3 = .ok (.imul, 1) := by decide +kernel
theorem dX3_followCoast_4 : decode cX3_followCoast 4 = .ok (.istore 4, 2) := by decide +kernel
theorem dX3_followCoast_6 : decode cX3_followCoast 6 = .ok (.iload_n 3, 1) := by decide +kernel
theorem dX3_followCoast_7 : decode cX3_followCoast 7 = .ok (.istore 5, 2) := by decide +kernel
theorem dX3_followCoast_9 : decode cX3_followCoast 9 = .ok (.iconst 1, 1) := by decide +kernel
theorem dX3_followCoast_10 : decode cX3_followCoast 10 = .ok (.istore 6, 2) := by decide +kernel
theorem dX3_followCoast_12 : decode cX3_followCoast 12 = .ok (.iload 6, 2) := by decide +kernel
theorem dX3_followCoast_14 : decode cX3_followCoast 14 = .ok (.sipush 500, 3) := by decide +kernel
theorem dX3_followCoast_17 : decode cX3_followCoast 17 = .ok (.if_icmp .gt 124, 3) := by decide +kernel
theorem dX3_followCoast_20 : decode cX3_followCoast 20 = .ok (.aload_n 1, 1) := by decide +kernel
theorem dX3_followCoast_21 : decode cX3_followCoast 21 = .ok (.iload 5, 2) := by decide +kernel
theorem dX3_followCoast_23 : decode cX3_followCoast 23 = .ok (.iload 4, 2) := by decide +kernel
theorem dX3_followCoast_25 : decode cX3_followCoast 25 = .ok (.bipush 10, 2) := by decide +kernel
theorem dX3_followCoast_27 : decode cX3_followCoast 27 = .ok (.idiv, 1) := by decide +kernel
theorem dX3_followCoast_28 : decode cX3_followCoast 28 = .ok (.invokevirtual 25, 3) := by decide +kernel
theorem dX3_followCoast_31 : decode cX3_followCoast 31 = .ok (.istore 5, 2) := by decide +kernel
theorem dX3_followCoast_33 : decode cX3_followCoast 33 = .ok (.iload 4, 2) := by decide +kernel
theorem dX3_followCoast_35 : decode cX3_followCoast 35 = .ok (.iload 5, 2) := by decide +kernel
theorem dX3_followCoast_37 : decode cX3_followCoast 37 = .ok (.iadd, 1) := by decide +kernel
theorem dX3_followCoast_38 : decode cX3_followCoast 38 = .ok (.istore 4, 2) := by decide +kernel
theorem dX3_followCoast_40 : decode cX3_followCoast 40 = .ok (.iload 4, 2) := by decide +kernel
theorem dX3_followCoast_42 : decode cX3_followCoast 42 = .ok (.ifCond .lt 11, 3) := by decide +kernel
theorem dX3_followCoast_45 : decode cX3_followCoast 45 = .ok (.iload 4, 2) := by decide +kernel
theorem dX3_followCoast_47 : decode cX3_followCoast 47 = .ok (.sipush 600, 3) := by decide +kernel
theorem dX3_followCoast_50 : decode cX3_followCoast 50 = .ok (.if_icmp .lt 7, 3) := by decide +kernel
theorem dX3_followCoast_53 : decode cX3_followCoast 53 = .ok (.iconst 1, 1) := by decide +kernel
theorem dX3_followCoast_54 : decode cX3_followCoast 54 = .ok (.goto 4, 3) := by decide +kernel
theorem dX3_followCoast_57 : decode cX3_followCoast 57 = .ok (.iconst 0, 1) := by decide +kernel
theorem dX3_followCoast_58 : decode cX3_followCoast 58 = .ok (.istore 7, 2) := by decide +kernel
theorem dX3_followCoast_60 : decode cX3_followCoast 60 = .ok (.aload_n 0, 1) := by decide +kernel
theorem dX3_followCoast_61 : decode cX3_followCoast 61 = .ok (.iload 6, 2) := by decide +kernel
theorem dX3_followCoast_63 : decode cX3_followCoast 63 = .ok (.putfield 31, 3) := by decide +kernel
theorem dX3_followCoast_66 : decode cX3_followCoast 66 = .ok (.aload_n 0, 1) := by decide +kernel
theorem dX3_followCoast_67 : decode cX3_followCoast 67 = .ok (.iload 7, 2) := by decide +kernel
theorem dX3_followCoast_69 : decode cX3_followCoast 69 = .ok (.ifCond .eq 7, 3) := by decide +kernel
theorem dX3_followCoast_72 : decode cX3_followCoast 72 = .ok (.iconst (-1), 1) := by decide +kernel
theorem dX3_followCoast_73 : decode cX3_followCoast 73 = .ok (.goto 8, 3) := by decide +kernel
theorem dX3_followCoast_76 : decode cX3_followCoast 76 = .ok (.iload 4, 2) := by decide +kernel
theorem dX3_followCoast_78 : decode cX3_followCoast 78 = .ok (.bipush 10, 2) := by decide +kernel
theorem dX3_followCoast_80 : decode cX3_followCoast 80 = .ok (.idiv, 1) := by decide +kernel
theorem dX3_followCoast_81 : decode cX3_followCoast 81 = .ok (.putfield 35, 3) := by decide +kernel
theorem dX3_followCoast_84 : decode cX3_followCoast 84 = .ok (.aload_n 0, 1) := by decide +kernel
theorem dX3_followCoast_85 : decode cX3_followCoast 85 = .ok (.aload_n 1, 1) := by decide +kernel
theorem dX3_followCoast_86 : decode cX3_followCoast 86 = .ok (.aload_n 0, 1) := by decide +kernel
theorem dX3_followCoast_87 : decode cX3_followCoast 87 = .ok (.getfield 35, 3) := by decide +kernel
theorem dX3_followCoast_90 : decode cX3_followCoast 90 = .ok (.invokevirtual 38, 3) := by decide +kernel
theorem dX3_followCoast_93 : decode cX3_followCoast 93 = .ok (.iconst (-1), 1) := by decide +kernel
theorem dX3_followCoast_94 : decode cX3_followCoast 94 = .ok (.if_icmp .eq 7, 3) := by decide +kernel
theorem dX3_followCoast_97 : decode cX3_followCoast 97 = .ok (.iconst 1, 1) := by decide +kernel
theorem dX3_followCoast_98 : decode cX3_followCoast 98 = .ok (.goto 4, 3) := by decide +kernel
theorem dX3_followCoast_101 : decode cX3_followCoast 101 = .ok (.iconst 0, 1) := by decide +kernel
theorem dX3_followCoast_102 : decode cX3_followCoast 102 = .ok (.putfield 42, 3) := by decide +kernel
theorem dX3_followCoast_105 : decode cX3_followCoast 105 = .ok (.iload 7, 2) := by decide +kernel
theorem dX3_followCoast_107 : decode cX3_followCoast 107 = .ok (.ifCond .ne 27, 3) := by decide +kernel
theorem dX3_followCoast_110 : decode cX3_followCoast 110 = .ok (.aload_n 0, 1) := by decide +kernel
theorem dX3_followCoast_111 : decode cX3_followCoast 111 = .ok (.getfield 42, 3) := by decide +kernel
theorem dX3_followCoast_114 : decode cX3_followCoast 114 = .ok (.ifCond .ne 20, 3) := by decide +kernel
theorem dX3_followCoast_117 : decode cX3_followCoast 117 = .ok (.iload 5, 2) := by decide +kernel
theorem dX3_followCoast_119 : decode cX3_followCoast 119 = .ok (.ifCond .eq 15, 3) := by decide +kernel
theorem dX3_followCoast_122 : decode cX3_followCoast 122 = .ok (.iload 5, 2) := by decide +kernel
theorem dX3_followCoast_124 : decode cX3_followCoast 124 = .ok (.invokestatic 46, 3) := by decide +kernel
theorem dX3_followCoast_127 : decode cX3_followCoast 127 = .ok (.iload_n 3, 1) := by decide +kernel
theorem dX3_followCoast_128 : decode cX3_followCoast 128 = .ok (.invokestatic 46, 3) := by decide +kernel
theorem dX3_followCoast_131 : decode cX3_followCoast 131 = .ok (.if_icmp .eq 4, 3) := by decide +kernel
theorem dX3_followCoast_134 : decode cX3_followCoast 134 = .ok (.return_, 1) := by decide +kernel
theorem dX3_followCoast_135 : decode cX3_followCoast 135 = .ok (.iinc 6 1, 3) := by decide +kernel
theorem dX3_followCoast_138 : decode cX3_followCoast 138 = .ok (.goto (-126), 3) := by decide +kernel
theorem dX3_followCoast_141 : decode cX3_followCoast 141 = .ok (.return_, 1) := by decide +kernel
theorem dX3_gapNow_0 : decode cX3_gapNow 0 = .ok (.iconst (-1), 1) := by decide +kernel
theorem dX3_gapNow_1 : decode cX3_gapNow 1 = .ok (.istore_n 2, 1) := by decide +kernel
theorem dX3_gapNow_2 : decode cX3_gapNow 2 = .ok (.iconst 0, 1) := by decide +kernel
theorem dX3_gapNow_3 : decode cX3_gapNow 3 = .ok (.istore_n 3, 1) := by decide +kernel
theorem dX3_gapNow_4 : decode cX3_gapNow 4 = .ok (.iload_n 3, 1) := by decide +kernel
theorem dX3_gapNow_5 : decode cX3_gapNow 5 = .ok (.aload_n 1, 1) := by decide +kernel
theorem dX3_gapNow_6 : decode cX3_gapNow 6 = .ok (.getfield 115, 3) := by decide +kernel
theorem dX3_gapNow_9 : decode cX3_gapNow 9 = .ok (.if_icmp .ge 110, 3) := by decide +kernel
theorem dX3_gapNow_12 : decode cX3_gapNow 12 = .ok (.iload_n 3, 1) := by decide +kernel
theorem dX3_gapNow_13 : decode cX3_gapNow 13 = .ok (.iconst 1, 1) := by decide +kernel
theorem dX3_gapNow_14 : decode cX3_gapNow 14 = .ok (.iadd, 1) := by decide +kernel
theorem dX3_gapNow_15 : decode cX3_gapNow 15 = .ok (.istore 4, 2) := by decide +kernel
theorem dX3_gapNow_17 : decode cX3_gapNow 17 = .ok (.iload 4, 2) := by decide +kernel
theorem dX3_gapNow_19 : decode cX3_gapNow 19 = .ok (.aload_n 1, 1) := by decide +kernel
theorem dX3_gapNow_20 : decode cX3_gapNow 20 = .ok (.getfield 115, 3) := by decide +kernel
theorem dX3_gapNow_23 : decode cX3_gapNow 23 = .ok (.if_icmp .ge 90, 3) := by decide +kernel
theorem dX3_gapNow_26 : decode cX3_gapNow 26 = .ok (.aload_n 0, 1) := by decide +kernel
theorem dX3_gapNow_27 : decode cX3_gapNow 27 = .ok (.getfield 21, 3) := by decide +kernel
theorem dX3_gapNow_30 : decode cX3_gapNow 30 = .ok (.getfield 101, 3) := by decide +kernel
theorem dX3_gapNow_33 : decode cX3_gapNow 33 = .ok (.iload_n 3, 1) := by decide +kernel
theorem dX3_gapNow_34 : decode cX3_gapNow 34 = .ok (.aaload, 1) := by decide +kernel
theorem dX3_gapNow_35 : decode cX3_gapNow 35 = .ok (.getfield 117, 3) := by decide +kernel
theorem dX3_gapNow_38 : decode cX3_gapNow 38 = .ok (.iconst 3, 1) := by decide +kernel
theorem dX3_gapNow_39 : decode cX3_gapNow 39 = .ok (.if_icmp .eq 68, 3) := by decide +kernel
theorem dX3_gapNow_42 : decode cX3_gapNow 42 = .ok (.aload_n 0, 1) := by decide +kernel
theorem dX3_gapNow_43 : decode cX3_gapNow 43 = .ok (.getfield 21, 3) := by decide +kernel
theorem dX3_gapNow_46 : decode cX3_gapNow 46 = .ok (.getfield 101, 3) := by decide +kernel
theorem dX3_gapNow_49 : decode cX3_gapNow 49 = .ok (.iload 4, 2) := by decide +kernel
theorem dX3_gapNow_51 : decode cX3_gapNow 51 = .ok (.aaload, 1) := by decide +kernel
theorem dX3_gapNow_52 : decode cX3_gapNow 52 = .ok (.getfield 117, 3) := by decide +kernel
theorem dX3_gapNow_55 : decode cX3_gapNow 55 = .ok (.iconst 3, 1) := by decide +kernel
theorem dX3_gapNow_56 : decode cX3_gapNow 56 = .ok (.if_icmp .eq 51, 3) := by decide +kernel
theorem dX3_gapNow_59 : decode cX3_gapNow 59 = .ok (.aload_n 0, 1) := by decide +kernel
theorem dX3_gapNow_60 : decode cX3_gapNow 60 = .ok (.getfield 21, 3) := by decide +kernel
theorem dX3_gapNow_63 : decode cX3_gapNow 63 = .ok (.getfield 101, 3) := by decide +kernel
theorem dX3_gapNow_66 : decode cX3_gapNow 66 = .ok (.iload_n 3, 1) := by decide +kernel
theorem dX3_gapNow_67 : decode cX3_gapNow 67 = .ok (.aaload, 1) := by decide +kernel
theorem dX3_gapNow_68 : decode cX3_gapNow 68 = .ok (.getfield 120, 3) := by decide +kernel
theorem dX3_gapNow_71 : decode cX3_gapNow 71 = .ok (.aload_n 0, 1) := by decide +kernel
theorem dX3_gapNow_72 : decode cX3_gapNow 72 = .ok (.getfield 21, 3) := by decide +kernel
theorem dX3_gapNow_75 : decode cX3_gapNow 75 = .ok (.getfield 101, 3) := by decide +kernel
theorem dX3_gapNow_78 : decode cX3_gapNow 78 = .ok (.iload 4, 2) := by decide +kernel
theorem dX3_gapNow_80 : decode cX3_gapNow 80 = .ok (.aaload, 1) := by decide +kernel
theorem dX3_gapNow_81 : decode cX3_gapNow 81 = .ok (.getfield 120, 3) := by decide +kernel
theorem dX3_gapNow_84 : decode cX3_gapNow 84 = .ok (.isub, 1) := by decide +kernel
theorem dX3_gapNow_85 : decode cX3_gapNow 85 = .ok (.invokestatic 55, 3) := by decide +kernel
theorem dX3_gapNow_88 : decode cX3_gapNow 88 = .ok (.istore 5, 2) := by decide +kernel
theorem dX3_gapNow_90 : decode cX3_gapNow 90 = .ok (.iload_n 2, 1) := by decide +kernel
theorem dX3_gapNow_91 : decode cX3_gapNow 91 = .ok (.iconst (-1), 1) := by decide +kernel
theorem dX3_gapNow_92 : decode cX3_gapNow 92 = .ok (.if_icmp .ne 8, 3) := by decide +kernel
theorem dX3_gapNow_95 : decode cX3_gapNow 95 = .ok (.iload 5, 2) := by decide +kernel
theorem dX3_gapNow_97 : decode cX3_gapNow 97 = .ok (.goto 9, 3) := by decide +kernel
theorem dX3_gapNow_100 : decode cX3_gapNow 100 = .ok (.iload_n 2, 1) := by decide +kernel
theorem dX3_gapNow_101 : decode cX3_gapNow 101 = .ok (.iload 5, 2) := by decide +kernel
theorem dX3_gapNow_103 : decode cX3_gapNow 103 = .ok (.invokestatic 123, 3) := by decide +kernel
theorem dX3_gapNow_106 : decode cX3_gapNow 106 = .ok (.istore_n 2, 1) := by decide +kernel
theorem dX3_gapNow_107 : decode cX3_gapNow 107 = .ok (.iinc 4 1, 3) := by decide +kernel
theorem dX3_gapNow_110 : decode cX3_gapNow 110 = .ok (.goto (-93), 3) := by decide +kernel
theorem dX3_gapNow_113 : decode cX3_gapNow 113 = .ok (.iinc 3 1, 3) := by decide +kernel
theorem dX3_gapNow_116 : decode cX3_gapNow 116 = .ok (.goto (-112), 3) := by decide +kernel
theorem dX3_gapNow_119 : decode cX3_gapNow 119 = .ok (.iload_n 2, 1) := by decide +kernel
theorem dX3_gapNow_120 : decode cX3_gapNow 120 = .ok (.ireturn, 1) := by decide +kernel
theorem dX3_leastGapIfWaits_0 : decode cX3_leastGapIfWaits 0 = .ok (.aload_n 0, 1) := by decide +kernel
theorem dX3_leastGapIfWaits_1 : decode cX3_leastGapIfWaits 1 = .ok (.getfield 21, 3) := by decide +kernel
theorem dX3_leastGapIfWaits_4 : decode cX3_leastGapIfWaits 4 = .ok (.aload_n 2, 1) := by decide +kernel
theorem dX3_leastGapIfWaits_5 : decode cX3_leastGapIfWaits 5 = .ok (.invokevirtual 66, 3) := by decide +kernel
theorem dX3_leastGapIfWaits_8 : decode cX3_leastGapIfWaits 8 = .ok (.iload 4, 2) := by decide +kernel
theorem dX3_leastGapIfWaits_10 : decode cX3_leastGapIfWaits 10 = .ok (.ifCond .le 25, 3) := by decide +kernel
theorem dX3_leastGapIfWaits_13 : decode cX3_leastGapIfWaits 13 = .ok (.aload_n 1, 1) := by decide +kernel
theorem dX3_leastGapIfWaits_14 : decode cX3_leastGapIfWaits 14 = .ok (.iload_n 3, 1) := by decide +kernel
theorem dX3_leastGapIfWaits_15 : decode cX3_leastGapIfWaits 15 = .ok (.invokevirtual 98, 3) := by decide +kernel
theorem dX3_leastGapIfWaits_18 : decode cX3_leastGapIfWaits 18 = .ok (.ifCond .eq 17, 3) := by decide +kernel
theorem dX3_leastGapIfWaits_21 : decode cX3_leastGapIfWaits 21 = .ok (.aload_n 0, 1) := by decide +kernel
theorem dX3_leastGapIfWaits_22 : decode cX3_leastGapIfWaits 22 = .ok (.getfield 21, 3) := by decide +kernel
theorem dX3_leastGapIfWaits_25 : decode cX3_leastGapIfWaits 25 = .ok (.getfield 101, 3) := by decide +kernel
theorem dX3_leastGapIfWaits_28 : decode cX3_leastGapIfWaits 28 = .ok (.iload_n 3, 1) := by decide +kernel
theorem dX3_leastGapIfWaits_29 : decode cX3_leastGapIfWaits 29 = .ok (.aaload, 1) := by decide +kernel
theorem dX3_leastGapIfWaits_30 : decode cX3_leastGapIfWaits 30 = .ok (.iload 4, 2) := by decide +kernel
theorem dX3_leastGapIfWaits_32 : decode cX3_leastGapIfWaits 32 = .ok (.invokevirtual 105, 3) := by decide +kernel
theorem dX3_leastGapIfWaits_35 : decode cX3_leastGapIfWaits 35 = .ok (.iconst (-1), 1) := by decide +kernel
theorem dX3_leastGapIfWaits_36 : decode cX3_leastGapIfWaits 36 = .ok (.istore 6, 2) := by decide +kernel
theorem dX3_leastGapIfWaits_38 : decode cX3_leastGapIfWaits 38 = .ok (.iconst 0, 1) := by decide +kernel
theorem dX3_leastGapIfWaits_39 : decode cX3_leastGapIfWaits 39 = .ok (.istore 7, 2) := by decide +kernel
theorem dX3_leastGapIfWaits_41 : decode cX3_leastGapIfWaits 41 = .ok (.iload 7, 2) := by decide +kernel
theorem dX3_leastGapIfWaits_43 : decode cX3_leastGapIfWaits 43 = .ok (.iload 5, 2) := by decide +kernel
theorem dX3_leastGapIfWaits_45 : decode cX3_leastGapIfWaits 45 = .ok (.if_icmp .ge 56, 3) := by decide +kernel
theorem dX3_leastGapIfWaits_48 : decode cX3_leastGapIfWaits 48 = .ok (.iload 6, 2) := by decide +kernel
theorem dX3_leastGapIfWaits_50 : decode cX3_leastGapIfWaits 50 = .ok (.ifCond .eq 51, 3) := by decide +kernel
theorem dX3_leastGapIfWaits_53 : decode cX3_leastGapIfWaits 53 = .ok (.aload_n 0, 1) := by decide +kernel
theorem dX3_leastGapIfWaits_54 : decode cX3_leastGapIfWaits 54 = .ok (.getfield 12, 3) := by decide +kernel
theorem dX3_leastGapIfWaits_57 : decode cX3_leastGapIfWaits 57 = .ok (.aload_n 1, 1) := by decide +kernel
theorem dX3_leastGapIfWaits_58 : decode cX3_leastGapIfWaits 58 = .ok (.aload_n 0, 1) := by decide +kernel
theorem dX3_leastGapIfWaits_59 : decode cX3_leastGapIfWaits 59 = .ok (.getfield 21, 3) := by decide +kernel
theorem dX3_leastGapIfWaits_62 : decode cX3_leastGapIfWaits 62 = .ok (.invokevirtual 78, 3) := by decide +kernel
theorem dX3_leastGapIfWaits_65 : decode cX3_leastGapIfWaits 65 = .ok (.aload_n 0, 1) := by decide +kernel
theorem dX3_leastGapIfWaits_66 : decode cX3_leastGapIfWaits 66 = .ok (.aload_n 1, 1) := by decide +kernel
theorem dX3_leastGapIfWaits_67 : decode cX3_leastGapIfWaits 67 = .ok (.invokevirtual 111, 3) := by decide +kernel
theorem dX3_leastGapIfWaits_70 : decode cX3_leastGapIfWaits 70 = .ok (.istore 8, 2) := by decide +kernel
theorem dX3_leastGapIfWaits_72 : decode cX3_leastGapIfWaits 72 = .ok (.iload 8, 2) := by decide +kernel
theorem dX3_leastGapIfWaits_74 : decode cX3_leastGapIfWaits 74 = .ok (.iconst (-1), 1) := by decide +kernel
theorem dX3_leastGapIfWaits_75 : decode cX3_leastGapIfWaits 75 = .ok (.if_icmp .eq 20, 3) := by decide +kernel
theorem dX3_leastGapIfWaits_78 : decode cX3_leastGapIfWaits 78 = .ok (.iload 6, 2) := by decide +kernel
theorem dX3_leastGapIfWaits_80 : decode cX3_leastGapIfWaits 80 = .ok (.iconst (-1), 1) := by decide +kernel
theorem dX3_leastGapIfWaits_81 : decode cX3_leastGapIfWaits 81 = .ok (.if_icmp .eq 10, 3) := by decide +kernel
theorem dX3_leastGapIfWaits_84 : decode cX3_leastGapIfWaits 84 = .ok (.iload 8, 2) := by decide +kernel
theorem dX3_leastGapIfWaits_86 : decode cX3_leastGapIfWaits 86 = .ok (.iload 6, 2) := by decide +kernel
theorem dX3_leastGapIfWaits_88 : decode cX3_leastGapIfWaits 88 = .ok (.if_icmp .ge 7, 3) := by decide +kernel
theorem dX3_leastGapIfWaits_91 : decode cX3_leastGapIfWaits 91 = .ok (.iload 8, 2) := by decide +kernel
theorem dX3_leastGapIfWaits_93 : decode cX3_leastGapIfWaits 93 = .ok (.istore 6, 2) := by decide +kernel
theorem dX3_leastGapIfWaits_95 : decode cX3_leastGapIfWaits 95 = .ok (.iinc 7 1, 3) := by decide +kernel
theorem dX3_leastGapIfWaits_98 : decode cX3_leastGapIfWaits 98 = .ok (.goto (-57), 3) := by decide +kernel
theorem dX3_leastGapIfWaits_101 : decode cX3_leastGapIfWaits 101 = .ok (.iload 6, 2) := by decide +kernel
theorem dX3_leastGapIfWaits_103 : decode cX3_leastGapIfWaits 103 = .ok (.ireturn, 1) := by decide +kernel
theorem dX3_leastSpeedToRope_0 : decode cX3_leastSpeedToRope 0 = .ok (.iconst 1, 1) := by decide +kernel
theorem dX3_leastSpeedToRope_1 : decode cX3_leastSpeedToRope 1 = .ok (.istore_n 3, 1) := by decide +kernel
theorem dX3_leastSpeedToRope_2 : decode cX3_leastSpeedToRope 2 = .ok (.iload_n 3, 1) := by decide +kernel
theorem dX3_leastSpeedToRope_3 : decode cX3_leastSpeedToRope 3 = .ok (.bipush 60, 2) := by decide +kernel
theorem dX3_leastSpeedToRope_5 : decode cX3_leastSpeedToRope 5 = .ok (.if_icmp .gt 25, 3) := by decide +kernel
theorem dX3_leastSpeedToRope_8 : decode cX3_leastSpeedToRope 8 = .ok (.aload_n 0, 1) := by decide +kernel
theorem dX3_leastSpeedToRope_9 : decode cX3_leastSpeedToRope 9 = .ok (.aload_n 1, 1) := by decide +kernel
theorem dX3_leastSpeedToRope_10 : decode cX3_leastSpeedToRope 10 = .ok (.iload_n 2, 1) := by decide +kernel
theorem dX3_leastSpeedToRope_11 : decode cX3_leastSpeedToRope 11 = .ok (.iload_n 3, 1) := by decide +kernel
theorem dX3_leastSpeedToRope_12 : decode cX3_leastSpeedToRope 12 = .ok (.invokevirtual 51, 3) := by decide +kernel
theorem dX3_leastSpeedToRope_15 : decode cX3_leastSpeedToRope 15 = .ok (.aload_n 0, 1) := by decide +kernel
theorem dX3_leastSpeedToRope_16 : decode cX3_leastSpeedToRope 16 = .ok (.getfield 42, 3) := by decide +kernel
theorem dX3_leastSpeedToRope_19 : decode cX3_leastSpeedToRope 19 = .ok (.ifCond .eq 5, 3) := by decide +kernel
theorem dX3_leastSpeedToRope_22 : decode cX3_leastSpeedToRope 22 = .ok (.iload_n 3, 1) := by decide +kernel
theorem dX3_leastSpeedToRope_23 : decode cX3_leastSpeedToRope 23 = .ok (.ireturn, 1) := by decide +kernel
theorem dX3_leastSpeedToRope_24 : decode cX3_leastSpeedToRope 24 = .ok (.iinc 3 1, 3) := by decide +kernel
theorem dX3_leastSpeedToRope_27 : decode cX3_leastSpeedToRope 27 = .ok (.goto (-25), 3) := by decide +kernel
theorem dX3_leastSpeedToRope_30 : decode cX3_leastSpeedToRope 30 = .ok (.iconst (-1), 1) := by decide +kernel
theorem dX3_leastSpeedToRope_31 : decode cX3_leastSpeedToRope 31 = .ok (.ireturn, 1) := by decide +kernel
theorem dX3_ticksTillWorn_0 : decode cX3_ticksTillWorn 0 = .ok (.aload_n 1, 1) := by decide +kernel
theorem dX3_ticksTillWorn_1 : decode cX3_ticksTillWorn 1 = .ok (.iload_n 3, 1) := by decide +kernel
theorem dX3_ticksTillWorn_2 : decode cX3_ticksTillWorn 2 = .ok (.invokevirtual 85, 3) := by decide +kernel
theorem dX3_ticksTillWorn_5 : decode cX3_ticksTillWorn 5 = .ok (.ifCond .eq 12, 3) := by decide +kernel
theorem dX3_ticksTillWorn_8 : decode cX3_ticksTillWorn 8 = .ok (.aload_n 1, 1) := by decide +kernel
theorem dX3_ticksTillWorn_9 : decode cX3_ticksTillWorn 9 = .ok (.getfield 88, 3) := by decide +kernel
theorem dX3_ticksTillWorn_12 : decode cX3_ticksTillWorn 12 = .ok (.iload_n 3, 1) := by decide +kernel
theorem dX3_ticksTillWorn_13 : decode cX3_ticksTillWorn 13 = .ok (.iaload, 1) := by decide +kernel
theorem dX3_ticksTillWorn_14 : decode cX3_ticksTillWorn 14 = .ok (.goto 4, 3) := by decide +kernel
theorem dX3_ticksTillWorn_17 : decode cX3_ticksTillWorn 17 = .ok (.iconst (-1), 1) := by decide +kernel
theorem dX3_ticksTillWorn_18 : decode cX3_ticksTillWorn 18 = .ok (.istore 4, 2) := by decide +kernel
theorem dX3_ticksTillWorn_20 : decode cX3_ticksTillWorn 20 = .ok (.aload_n 0, 1) := by decide +kernel
theorem dX3_ticksTillWorn_21 : decode cX3_ticksTillWorn 21 = .ok (.getfield 21, 3) := by decide +kernel
theorem dX3_ticksTillWorn_24 : decode cX3_ticksTillWorn 24 = .ok (.aload_n 2, 1) := by decide +kernel
theorem dX3_ticksTillWorn_25 : decode cX3_ticksTillWorn 25 = .ok (.invokevirtual 66, 3) := by decide +kernel
theorem dX3_ticksTillWorn_28 : decode cX3_ticksTillWorn 28 = .ok (.iconst 1, 1) := by decide +kernel
theorem dX3_ticksTillWorn_29 : decode cX3_ticksTillWorn 29 = .ok (.istore 5, 2) := by decide +kernel
theorem dX3_ticksTillWorn_31 : decode cX3_ticksTillWorn 31 = .ok (.iload 5, 2) := by decide +kernel
theorem dX3_ticksTillWorn_33 : decode cX3_ticksTillWorn 33 = .ok (.sipush 500, 3) := by decide +kernel
theorem dX3_ticksTillWorn_36 : decode cX3_ticksTillWorn 36 = .ok (.if_icmp .gt 64, 3) := by decide +kernel
theorem dX3_ticksTillWorn_39 : decode cX3_ticksTillWorn 39 = .ok (.aload_n 1, 1) := by decide +kernel
theorem dX3_ticksTillWorn_40 : decode cX3_ticksTillWorn 40 = .ok (.iload 4, 2) := by decide +kernel
theorem dX3_ticksTillWorn_42 : decode cX3_ticksTillWorn 42 = .ok (.invokevirtual 70, 3) := by decide +kernel
theorem dX3_ticksTillWorn_45 : decode cX3_ticksTillWorn 45 = .ok (.ifCond .eq 55, 3) := by decide +kernel
theorem dX3_ticksTillWorn_48 : decode cX3_ticksTillWorn 48 = .ok (.aload_n 0, 1) := by decide +kernel
theorem dX3_ticksTillWorn_49 : decode cX3_ticksTillWorn 49 = .ok (.getfield 21, 3) := by decide +kernel
theorem dX3_ticksTillWorn_52 : decode cX3_ticksTillWorn 52 = .ok (.getfield 74, 3) := by decide +kernel
theorem dX3_ticksTillWorn_55 : decode cX3_ticksTillWorn 55 = .ok (.iload 4, 2) := by decide +kernel
theorem dX3_ticksTillWorn_57 : decode cX3_ticksTillWorn 57 = .ok (.baload, 1) := by decide +kernel
theorem dX3_ticksTillWorn_58 : decode cX3_ticksTillWorn 58 = .ok (.ifCond .ne 42, 3) := by decide +kernel
theorem dX3_ticksTillWorn_61 : decode cX3_ticksTillWorn 61 = .ok (.aload_n 0, 1) := by decide +kernel
theorem dX3_ticksTillWorn_62 : decode cX3_ticksTillWorn 62 = .ok (.getfield 12, 3) := by decide +kernel
theorem dX3_ticksTillWorn_65 : decode cX3_ticksTillWorn 65 = .ok (.aload_n 1, 1) := by decide +kernel
theorem dX3_ticksTillWorn_66 : decode cX3_ticksTillWorn 66 = .ok (.aload_n 0, 1) := by decide +kernel
theorem dX3_ticksTillWorn_67 : decode cX3_ticksTillWorn 67 = .ok (.getfield 21, 3) := by decide +kernel
theorem dX3_ticksTillWorn_70 : decode cX3_ticksTillWorn 70 = .ok (.invokevirtual 78, 3) := by decide +kernel
theorem dX3_ticksTillWorn_73 : decode cX3_ticksTillWorn 73 = .ok (.aload_n 0, 1) := by decide +kernel
theorem dX3_ticksTillWorn_74 : decode cX3_ticksTillWorn 74 = .ok (.getfield 21, 3) := by decide +kernel
theorem dX3_ticksTillWorn_77 : decode cX3_ticksTillWorn 77 = .ok (.getfield 92, 3) := by decide +kernel
theorem dX3_ticksTillWorn_80 : decode cX3_ticksTillWorn 80 = .ok (.iload_n 3, 1) := by decide +kernel
theorem dX3_ticksTillWorn_81 : decode cX3_ticksTillWorn 81 = .ok (.iaload, 1) := by decide +kernel
theorem dX3_ticksTillWorn_82 : decode cX3_ticksTillWorn 82 = .ok (.aload_n 1, 1) := by decide +kernel
theorem dX3_ticksTillWorn_83 : decode cX3_ticksTillWorn 83 = .ok (.getfield 95, 3) := by decide +kernel
theorem dX3_ticksTillWorn_86 : decode cX3_ticksTillWorn 86 = .ok (.iload_n 3, 1) := by decide +kernel
theorem dX3_ticksTillWorn_87 : decode cX3_ticksTillWorn 87 = .ok (.iaload, 1) := by decide +kernel
theorem dX3_ticksTillWorn_88 : decode cX3_ticksTillWorn 88 = .ok (.if_icmp .lt 6, 3) := by decide +kernel
theorem dX3_ticksTillWorn_91 : decode cX3_ticksTillWorn 91 = .ok (.iload 5, 2) := by decide +kernel
theorem dX3_ticksTillWorn_93 : decode cX3_ticksTillWorn 93 = .ok (.ireturn, 1) := by decide +kernel
theorem dX3_ticksTillWorn_94 : decode cX3_ticksTillWorn 94 = .ok (.iinc 5 1, 3) := by decide +kernel
theorem dX3_ticksTillWorn_97 : decode cX3_ticksTillWorn 97 = .ok (.goto (-66), 3) := by decide +kernel
theorem dX3_ticksTillWorn_100 : decode cX3_ticksTillWorn 100 = .ok (.iconst (-1), 1) := by decide +kernel
theorem dX3_ticksTillWorn_101 : decode cX3_ticksTillWorn 101 = .ok (.ireturn, 1) := by decide +kernel
theorem dX3_topSpeed_0 : decode cX3_topSpeed 0 = .ok (.bipush 10, 2) := by decide +kernel
theorem dX3_topSpeed_2 : decode cX3_topSpeed 2 = .ok (.iload_n 2, 1) := by decide +kernel
theorem dX3_topSpeed_3 : decode cX3_topSpeed 3 = .ok (.imul, 1) := by decide +kernel
theorem dX3_topSpeed_4 : decode cX3_topSpeed 4 = .ok (.iconst 5, 1) := by decide +kernel
theorem dX3_topSpeed_5 : decode cX3_topSpeed 5 = .ok (.iadd, 1) := by decide +kernel
theorem dX3_topSpeed_6 : decode cX3_topSpeed 6 = .ok (.istore_n 3, 1) := by decide +kernel
theorem dX3_topSpeed_7 : decode cX3_topSpeed 7 = .ok (.iconst 0, 1) := by decide +kernel
theorem dX3_topSpeed_8 : decode cX3_topSpeed 8 = .ok (.istore 4, 2) := by decide +kernel
theorem dX3_topSpeed_10 : decode cX3_topSpeed 10 = .ok (.iconst 0, 1) := by decide +kernel
theorem dX3_topSpeed_11 : decode cX3_topSpeed 11 = .ok (.istore 5, 2) := by decide +kernel
theorem dX3_topSpeed_13 : decode cX3_topSpeed 13 = .ok (.iconst 0, 1) := by decide +kernel
theorem dX3_topSpeed_14 : decode cX3_topSpeed 14 = .ok (.istore 6, 2) := by decide +kernel
theorem dX3_topSpeed_16 : decode cX3_topSpeed 16 = .ok (.iload 6, 2) := by decide +kernel
theorem dX3_topSpeed_18 : decode cX3_topSpeed 18 = .ok (.sipush 500, 3) := by decide +kernel
theorem dX3_topSpeed_21 : decode cX3_topSpeed 21 = .ok (.if_icmp .ge 57, 3) := by decide +kernel
theorem dX3_topSpeed_24 : decode cX3_topSpeed 24 = .ok (.aload_n 1, 1) := by decide +kernel
theorem dX3_topSpeed_25 : decode cX3_topSpeed 25 = .ok (.iload 4, 2) := by decide +kernel
theorem dX3_topSpeed_27 : decode cX3_topSpeed 27 = .ok (.iload_n 3, 1) := by decide +kernel
theorem dX3_topSpeed_28 : decode cX3_topSpeed 28 = .ok (.bipush 10, 2) := by decide +kernel
theorem dX3_topSpeed_30 : decode cX3_topSpeed 30 = .ok (.idiv, 1) := by decide +kernel
theorem dX3_topSpeed_31 : decode cX3_topSpeed 31 = .ok (.invokevirtual 25, 3) := by decide +kernel
theorem dX3_topSpeed_34 : decode cX3_topSpeed 34 = .ok (.istore 4, 2) := by decide +kernel
theorem dX3_topSpeed_36 : decode cX3_topSpeed 36 = .ok (.iload 5, 2) := by decide +kernel
theorem dX3_topSpeed_38 : decode cX3_topSpeed 38 = .ok (.iload 4, 2) := by decide +kernel
theorem dX3_topSpeed_40 : decode cX3_topSpeed 40 = .ok (.invokestatic 55, 3) := by decide +kernel
theorem dX3_topSpeed_43 : decode cX3_topSpeed 43 = .ok (.invokestatic 60, 3) := by decide +kernel
theorem dX3_topSpeed_46 : decode cX3_topSpeed 46 = .ok (.istore 5, 2) := by decide +kernel
theorem dX3_topSpeed_48 : decode cX3_topSpeed 48 = .ok (.iload_n 3, 1) := by decide +kernel
theorem dX3_topSpeed_49 : decode cX3_topSpeed 49 = .ok (.iload 4, 2) := by decide +kernel
theorem dX3_topSpeed_51 : decode cX3_topSpeed 51 = .ok (.iadd, 1) := by decide +kernel
theorem dX3_topSpeed_52 : decode cX3_topSpeed 52 = .ok (.istore_n 3, 1) := by decide +kernel
theorem dX3_topSpeed_53 : decode cX3_topSpeed 53 = .ok (.iload 4, 2) := by decide +kernel
theorem dX3_topSpeed_55 : decode cX3_topSpeed 55 = .ok (.ifCond .eq 14, 3) := by decide +kernel
theorem dX3_topSpeed_58 : decode cX3_topSpeed 58 = .ok (.iload_n 3, 1) := by decide +kernel
theorem dX3_topSpeed_59 : decode cX3_topSpeed 59 = .ok (.ifCond .lt 10, 3) := by decide +kernel
theorem dX3_topSpeed_62 : decode cX3_topSpeed 62 = .ok (.iload_n 3, 1) := by decide +kernel
theorem dX3_topSpeed_63 : decode cX3_topSpeed 63 = .ok (.sipush 600, 3) := by decide +kernel
theorem dX3_topSpeed_66 : decode cX3_topSpeed 66 = .ok (.if_icmp .lt 6, 3) := by decide +kernel
theorem dX3_topSpeed_69 : decode cX3_topSpeed 69 = .ok (.iload 5, 2) := by decide +kernel
theorem dX3_topSpeed_71 : decode cX3_topSpeed 71 = .ok (.ireturn, 1) := by decide +kernel
theorem dX3_topSpeed_72 : decode cX3_topSpeed 72 = .ok (.iinc 6 1, 3) := by decide +kernel
theorem dX3_topSpeed_75 : decode cX3_topSpeed 75 = .ok (.goto (-59), 3) := by decide +kernel
theorem dX3_topSpeed_78 : decode cX3_topSpeed 78 = .ok (.iload 5, 2) := by decide +kernel
theorem dX3_topSpeed_80 : decode cX3_topSpeed 80 = .ok (.ireturn, 1) := by decide +kernel
theorem dX4_init_0 : decode cX4_init 0 = .ok (.aload_n 0, 1) := by decide +kernel
theorem dX4_init_1 : decode cX4_init 1 = .ok (.invokespecial 3, 3) := by decide +kernel
theorem dX4_init_4 : decode cX4_init 4 = .ok (.aload_n 0, 1) := by decide +kernel
theorem dX4_init_5 : decode cX4_init 5 = .ok (.iconst 0, 1) := by decide +kernel
theorem dX4_init_6 : decode cX4_init 6 = .ok (.newarray .byte, 2) := by decide +kernel
theorem dX4_init_8 : decode cX4_init 8 = .ok (.putfield 9, 3) := by decide +kernel
theorem dX4_init_11 : decode cX4_init 11 = .ok (.return_, 1) := by decide +kernel
theorem dX4_advance_0 : decode cX4_advance 0 = .ok (.aload_n 0, 1) := by decide +kernel
theorem dX4_advance_1 : decode cX4_advance 1 = .ok (.getfield 28, 3) := by decide +kernel
theorem dX4_advance_4 : decode cX4_advance 4 = .ok (.aload_n 0, 1) := by decide +kernel
theorem dX4_advance_5 : decode cX4_advance 5 = .ok (.getfield 24, 3) := by decide +kernel
theorem dX4_advance_8 : decode cX4_advance 8 = .ok (.if_icmp .ge 44, 3) := by decide +kernel
theorem dX4_advance_11 : decode cX4_advance 11 = .ok (.aload_n 0, 1) := by decide +kernel
theorem dX4_advance_12 : decode cX4_advance 12 = .ok (.getfield 9, 3) := by decide +kernel
theorem dX4_advance_15 : decode cX4_advance 15 = .ok (.aload_n 0, 1) := by decide +kernel
theorem dX4_advance_16 : decode cX4_advance 16 = .ok (.getfield 28, 3) := by decide +kernel
theorem dX4_advance_19 : decode cX4_advance 19 = .ok (.baload, 1) := by decide +kernel
theorem dX4_advance_20 : decode cX4_advance 20 = .ok (.bipush 32, 2) := by decide +kernel
theorem dX4_advance_22 : decode cX4_advance 22 = .ok (.if_icmp .eq 17, 3) := by decide +kernel
theorem dX4_advance_25 : decode cX4_advance 25 = .ok (.aload_n 0, 1) := by decide +kernel
theorem dX4_advance_26 : decode cX4_advance 26 = .ok (.getfield 9, 3) := by decide +kernel
theorem dX4_advance_29 : decode cX4_advance 29 = .ok (.aload_n 0, 1) := by decide +kernel
theorem dX4_advance_30 : decode cX4_advance 30 = .ok (.getfield 28, 3) := by decide +kernel
theorem dX4_advance_33 : decode cX4_advance 33 = .ok (.baload, 1) := by decide +kernel
theorem dX4_advance_34 : decode cX4_advance 34 = .ok (.bipush 10, 2) := by decide +kernel
theorem dX4_advance_36 : decode cX4_advance 36 = .ok (.if_icmp .ne 16, 3) := by decide +kernel
theorem dX4_advance_39 : decode cX4_advance 39 = .ok (.aload_n 0, 1) := by decide +kernel
theorem dX4_advance_40 : decode cX4_advance 40 = .ok (.dup, 1) := by decide +kernel
theorem dX4_advance_41 : decode cX4_advance 41 = .ok (.getfield 28, 3) := by decide +kernel
theorem dX4_advance_44 : decode cX4_advance 44 = .ok (.iconst 1, 1) := by decide +kernel
theorem dX4_advance_45 : decode cX4_advance 45 = .ok (.iadd, 1) := by decide +kernel
theorem dX4_advance_46 : decode cX4_advance 46 = .ok (.putfield 28, 3) := by decide +kernel
theorem dX4_advance_49 : decode cX4_advance 49 = .ok (.goto (-49), 3) := by decide +kernel
theorem dX4_advance_52 : decode cX4_advance 52 = .ok (.aload_n 0, 1) := by decide +kernel
theorem dX4_advance_53 : decode cX4_advance 53 = .ok (.aload_n 0, 1) := by decide +kernel
theorem dX4_advance_54 : decode cX4_advance 54 = .ok (.getfield 28, 3) := by decide +kernel
theorem dX4_advance_57 : decode cX4_advance 57 = .ok (.putfield 34, 3) := by decide +kernel
theorem dX4_advance_60 : decode cX4_advance 60 = .ok (.aload_n 0, 1) := by decide +kernel
theorem dX4_advance_61 : decode cX4_advance 61 = .ok (.iconst (-1), 1) := by decide +kernel
theorem dX4_advance_62 : decode cX4_advance 62 = .ok (.putfield 37, 3) := by decide +kernel
theorem dX4_advance_65 : decode cX4_advance 65 = .ok (.aload_n 0, 1) := by decide +kernel
theorem dX4_advance_66 : decode cX4_advance 66 = .ok (.getfield 28, 3) := by decide +kernel
theorem dX4_advance_69 : decode cX4_advance 69 = .ok (.aload_n 0, 1) := by decide +kernel
theorem dX4_advance_70 : decode cX4_advance 70 = .ok (.getfield 24, 3) := by decide +kernel
theorem dX4_advance_73 : decode cX4_advance 73 = .ok (.if_icmp .lt 11, 3) := by decide +kernel
theorem dX4_advance_76 : decode cX4_advance 76 = .ok (.aload_n 0, 1) := by decide +kernel
theorem dX4_advance_77 : decode cX4_advance 77 = .ok (.iconst 0, 1) := by decide +kernel
theorem dX4_advance_78 : decode cX4_advance 78 = .ok (.putfield 40, 3) := by decide +kernel
theorem dX4_advance_81 : decode cX4_advance 81 = .ok (.goto 111, 3) := by decide +kernel
theorem dX4_advance_84 : decode cX4_advance 84 = .ok (.aload_n 0, 1) := by decide +kernel
