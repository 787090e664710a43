theorem dX12_count_67 : decode cX12_count 67 = .ok (.ireturn, 1) := by decide +kernel
theorem dX12_count_68 : decode cX12_count 68 = .ok (.aload_n 0, 1) := by decide +kernel
theorem dX12_count_69 : decode cX12_count 69 = .ok (.getfield 525, 3) := by decide +kernel
theorem dX12_count_72 : decode cX12_count 72 = .ok (.ireturn, 1) := by decide +kernel
theorem dX12_count_73 : decode cX12_count 73 = .ok (.aload_n 0, 1) := by decide +kernel
theorem dX12_count_74 : decode cX12_count 74 = .ok (.getfield 531, 3) := by decide +kernel
theorem dX12_count_77 : decode cX12_count 77 = .ok (.ireturn, 1) := by decide +kernel
theorem dX12_count_78 : decode cX12_count 78 = .ok (.aload_n 0, 1) := by decide +kernel
theorem dX12_count_79 : decode cX12_count 79 = .ok (.getfield 534, 3) := by decide +kernel
theorem dX12_count_82 : decode cX12_count 82 = .ok (.ireturn, 1) := by decide +kernel
theorem dX12_count_83 : decode cX12_count 83 = .ok (.aload_n 0, 1) := by decide +kernel
theorem dX12_count_84 : decode cX12_count 84 = .ok (.getfield 537, 3) := by decide +kernel
theorem dX12_count_87 : decode cX12_count 87 = .ok (.ireturn, 1) := by decide +kernel
theorem dX12_count_88 : decode cX12_count 88 = .ok (.iconst (-1), 1) := by decide +kernel
theorem dX12_count_89 : decode cX12_count 89 = .ok (.ireturn, 1) := by decide +kernel
theorem dX12_counts_0 : decode cX12_counts 0 = .ok (.aload_n 0, 1) := by decide +kernel
theorem dX12_counts_1 : decode cX12_counts 1 = .ok (.getfield 200, 3) := by decide +kernel
theorem dX12_counts_4 : decode cX12_counts 4 = .ok (.iload_n 1, 1) := by decide +kernel
theorem dX12_counts_5 : decode cX12_counts 5 = .ok (.iaload, 1) := by decide +kernel
theorem dX12_counts_6 : decode cX12_counts 6 = .ok (.iload_n 2, 1) := by decide +kernel
theorem dX12_counts_7 : decode cX12_counts 7 = .ok (.if_icmp .gt 26, 3) := by decide +kernel
theorem dX12_counts_10 : decode cX12_counts 10 = .ok (.aload_n 0, 1) := by decide +kernel
theorem dX12_counts_11 : decode cX12_counts 11 = .ok (.getfield 203, 3) := by decide +kernel
theorem dX12_counts_14 : decode cX12_counts 14 = .ok (.iload_n 1, 1) := by decide +kernel
theorem dX12_counts_15 : decode cX12_counts 15 = .ok (.iaload, 1) := by decide +kernel
theorem dX12_counts_16 : decode cX12_counts 16 = .ok (.ifCond .lt 13, 3) := by decide +kernel
theorem dX12_counts_19 : decode cX12_counts 19 = .ok (.aload_n 0, 1) := by decide +kernel
theorem dX12_counts_20 : decode cX12_counts 20 = .ok (.getfield 203, 3) := by decide +kernel
theorem dX12_counts_23 : decode cX12_counts 23 = .ok (.iload_n 1, 1) := by decide +kernel
theorem dX12_counts_24 : decode cX12_counts 24 = .ok (.iaload, 1) := by decide +kernel
theorem dX12_counts_25 : decode cX12_counts 25 = .ok (.iload_n 2, 1) := by decide +kernel
theorem dX12_counts_26 : decode cX12_counts 26 = .ok (.if_icmp .le 7, 3) := by decide +kernel
theorem dX12_counts_29 : decode cX12_counts 29 = .ok (.iconst 1, 1) := by decide +kernel
theorem dX12_counts_30 : decode cX12_counts 30 = .ok (.goto 4, 3) := by decide +kernel
theorem dX12_counts_33 : decode cX12_counts 33 = .ok (.iconst 0, 1) := by decide +kernel
theorem dX12_counts_34 : decode cX12_counts 34 = .ok (.ireturn, 1) := by decide +kernel
theorem dX12_crossAt_0 : decode cX12_crossAt 0 = .ok (.iconst 4, 1) := by decide +kernel
theorem dX12_crossAt_1 : decode cX12_crossAt 1 = .ok (.aload_n 0, 1) := by decide +kernel
theorem dX12_crossAt_2 : decode cX12_crossAt 2 = .ok (.getfield 386, 3) := by decide +kernel
theorem dX12_crossAt_5 : decode cX12_crossAt 5 = .ok (.imul, 1) := by decide +kernel
theorem dX12_crossAt_6 : decode cX12_crossAt 6 = .ok (.istore_n 2, 1) := by decide +kernel
theorem dX12_crossAt_7 : decode cX12_crossAt 7 = .ok (.iload_n 2, 1) := by decide +kernel
theorem dX12_crossAt_8 : decode cX12_crossAt 8 = .ok (.iconst 4, 1) := by decide +kernel
theorem dX12_crossAt_9 : decode cX12_crossAt 9 = .ok (.aload_n 0, 1) := by decide +kernel
theorem dX12_crossAt_10 : decode cX12_crossAt 10 = .ok (.getfield 386, 3) := by decide +kernel
theorem dX12_crossAt_13 : decode cX12_crossAt 13 = .ok (.imul, 1) := by decide +kernel
theorem dX12_crossAt_14 : decode cX12_crossAt 14 = .ok (.aload_n 0, 1) := by decide +kernel
theorem dX12_crossAt_15 : decode cX12_crossAt 15 = .ok (.getfield 95, 3) := by decide +kernel
theorem dX12_crossAt_18 : decode cX12_crossAt 18 = .ok (.aload_n 0, 1) := by decide +kernel
theorem dX12_crossAt_19 : decode cX12_crossAt 19 = .ok (.getfield 386, 3) := by decide +kernel
theorem dX12_crossAt_22 : decode cX12_crossAt 22 = .ok (.iaload, 1) := by decide +kernel
theorem dX12_crossAt_23 : decode cX12_crossAt 23 = .ok (.iadd, 1) := by decide +kernel
theorem dX12_crossAt_24 : decode cX12_crossAt 24 = .ok (.if_icmp .ge 21, 3) := by decide +kernel
theorem dX12_crossAt_27 : decode cX12_crossAt 27 = .ok (.aload_n 0, 1) := by decide +kernel
theorem dX12_crossAt_28 : decode cX12_crossAt 28 = .ok (.getfield 110, 3) := by decide +kernel
theorem dX12_crossAt_31 : decode cX12_crossAt 31 = .ok (.iload_n 2, 1) := by decide +kernel
theorem dX12_crossAt_32 : decode cX12_crossAt 32 = .ok (.iaload, 1) := by decide +kernel
theorem dX12_crossAt_33 : decode cX12_crossAt 33 = .ok (.iload_n 1, 1) := by decide +kernel
theorem dX12_crossAt_34 : decode cX12_crossAt 34 = .ok (.if_icmp .ne 5, 3) := by decide +kernel
theorem dX12_crossAt_37 : decode cX12_crossAt 37 = .ok (.iload_n 2, 1) := by decide +kernel
theorem dX12_crossAt_38 : decode cX12_crossAt 38 = .ok (.ireturn, 1) := by decide +kernel
theorem dX12_crossAt_39 : decode cX12_crossAt 39 = .ok (.iinc 2 1, 3) := by decide +kernel
theorem dX12_crossAt_42 : decode cX12_crossAt 42 = .ok (.goto (-35), 3) := by decide +kernel
theorem dX12_crossAt_45 : decode cX12_crossAt 45 = .ok (.iconst (-1), 1) := by decide +kernel
theorem dX12_crossAt_46 : decode cX12_crossAt 46 = .ok (.ireturn, 1) := by decide +kernel
theorem dX12_cutRope_0 : decode cX12_cutRope 0 = .ok (.aload_n 0, 1) := by decide +kernel
theorem dX12_cutRope_1 : decode cX12_cutRope 1 = .ok (.getfield 161, 3) := by decide +kernel
theorem dX12_cutRope_4 : decode cX12_cutRope 4 = .ok (.iload_n 1, 1) := by decide +kernel
theorem dX12_cutRope_5 : decode cX12_cutRope 5 = .ok (.iconst 1, 1) := by decide +kernel
theorem dX12_cutRope_6 : decode cX12_cutRope 6 = .ok (.bastore, 1) := by decide +kernel
theorem dX12_cutRope_7 : decode cX12_cutRope 7 = .ok (.aload_n 0, 1) := by decide +kernel
theorem dX12_cutRope_8 : decode cX12_cutRope 8 = .ok (.dup, 1) := by decide +kernel
theorem dX12_cutRope_9 : decode cX12_cutRope 9 = .ok (.getfield 519, 3) := by decide +kernel
theorem dX12_cutRope_12 : decode cX12_cutRope 12 = .ok (.iconst 1, 1) := by decide +kernel
theorem dX12_cutRope_13 : decode cX12_cutRope 13 = .ok (.iadd, 1) := by decide +kernel
theorem dX12_cutRope_14 : decode cX12_cutRope 14 = .ok (.putfield 519, 3) := by decide +kernel
theorem dX12_cutRope_17 : decode cX12_cutRope 17 = .ok (.aload_n 0, 1) := by decide +kernel
theorem dX12_cutRope_18 : decode cX12_cutRope 18 = .ok (.iconst 2, 1) := by decide +kernel
theorem dX12_cutRope_19 : decode cX12_cutRope 19 = .ok (.iload_n 2, 1) := by decide +kernel
theorem dX12_cutRope_20 : decode cX12_cutRope 20 = .ok (.iload_n 1, 1) := by decide +kernel
theorem dX12_cutRope_21 : decode cX12_cutRope 21 = .ok (.iload_n 3, 1) := by decide +kernel
theorem dX12_cutRope_22 : decode cX12_cutRope 22 = .ok (.invokevirtual 549, 3) := by decide +kernel
theorem dX12_cutRope_25 : decode cX12_cutRope 25 = .ok (.istore 4, 2) := by decide +kernel
theorem dX12_cutRope_27 : decode cX12_cutRope 27 = .ok (.return_, 1) := by decide +kernel
theorem dX12_due_0 : decode cX12_due 0 = .ok (.iload_n 1, 1) := by decide +kernel
theorem dX12_due_1 : decode cX12_due 1 = .ok (.iconst 0, 1) := by decide +kernel
theorem dX12_due_2 : decode cX12_due 2 = .ok (.aload_n 0, 1) := by decide +kernel
theorem dX12_due_3 : decode cX12_due 3 = .ok (.getfield 89, 3) := by decide +kernel
theorem dX12_due_6 : decode cX12_due 6 = .ok (.aload_n 0, 1) := by decide +kernel
theorem dX12_due_7 : decode cX12_due 7 = .ok (.getfield 386, 3) := by decide +kernel
theorem dX12_due_10 : decode cX12_due 10 = .ok (.iaload, 1) := by decide +kernel
theorem dX12_due_11 : decode cX12_due 11 = .ok (.iconst 1, 1) := by decide +kernel
theorem dX12_due_12 : decode cX12_due 12 = .ok (.isub, 1) := by decide +kernel
theorem dX12_due_13 : decode cX12_due 13 = .ok (.invokestatic 503, 3) := by decide +kernel
theorem dX12_due_16 : decode cX12_due 16 = .ok (.ifCond .eq 25, 3) := by decide +kernel
theorem dX12_due_19 : decode cX12_due 19 = .ok (.aload_n 0, 1) := by decide +kernel
theorem dX12_due_20 : decode cX12_due 20 = .ok (.getfield 161, 3) := by decide +kernel
theorem dX12_due_23 : decode cX12_due 23 = .ok (.aload_n 0, 1) := by decide +kernel
theorem dX12_due_24 : decode cX12_due 24 = .ok (.getfield 101, 3) := by decide +kernel
theorem dX12_due_27 : decode cX12_due 27 = .ok (.bipush 6, 2) := by decide +kernel
theorem dX12_due_29 : decode cX12_due 29 = .ok (.aload_n 0, 1) := by decide +kernel
theorem dX12_due_30 : decode cX12_due 30 = .ok (.getfield 386, 3) := by decide +kernel
theorem dX12_due_33 : decode cX12_due 33 = .ok (.imul, 1) := by decide +kernel
theorem dX12_due_34 : decode cX12_due 34 = .ok (.iload_n 1, 1) := by decide +kernel
theorem dX12_due_35 : decode cX12_due 35 = .ok (.iadd, 1) := by decide +kernel
theorem dX12_due_36 : decode cX12_due 36 = .ok (.iaload, 1) := by decide +kernel
theorem dX12_due_37 : decode cX12_due 37 = .ok (.baload, 1) := by decide +kernel
theorem dX12_due_38 : decode cX12_due 38 = .ok (.ifCond .eq 5, 3) := by decide +kernel
theorem dX12_due_41 : decode cX12_due 41 = .ok (.iconst (-1), 1) := by decide +kernel
theorem dX12_due_42 : decode cX12_due 42 = .ok (.ireturn, 1) := by decide +kernel
theorem dX12_due_43 : decode cX12_due 43 = .ok (.aload_n 0, 1) := by decide +kernel
theorem dX12_due_44 : decode cX12_due 44 = .ok (.iconst 3, 1) := by decide +kernel
theorem dX12_due_45 : decode cX12_due 45 = .ok (.invokevirtual 638, 3) := by decide +kernel
theorem dX12_due_48 : decode cX12_due 48 = .ok (.iconst (-1), 1) := by decide +kernel
theorem dX12_due_49 : decode cX12_due 49 = .ok (.istore_n 2, 1) := by decide +kernel
theorem dX12_due_50 : decode cX12_due 50 = .ok (.iconst 1, 1) := by decide +kernel
theorem dX12_due_51 : decode cX12_due 51 = .ok (.istore_n 3, 1) := by decide +kernel
theorem dX12_due_52 : decode cX12_due 52 = .ok (.iload_n 3, 1) := by decide +kernel
theorem dX12_due_53 : decode cX12_due 53 = .ok (.sipush 500, 3) := by decide +kernel
theorem dX12_due_56 : decode cX12_due 56 = .ok (.if_icmp .gt 27, 3) := by decide +kernel
theorem dX12_due_59 : decode cX12_due 59 = .ok (.iload_n 2, 1) := by decide +kernel
theorem dX12_due_60 : decode cX12_due 60 = .ok (.ifCond .ge 23, 3) := by decide +kernel
theorem dX12_due_63 : decode cX12_due 63 = .ok (.aload_n 0, 1) := by decide +kernel
theorem dX12_due_64 : decode cX12_due 64 = .ok (.invokevirtual 622, 3) := by decide +kernel
theorem dX12_due_67 : decode cX12_due 67 = .ok (.aload_n 0, 1) := by decide +kernel
theorem dX12_due_68 : decode cX12_due 68 = .ok (.iload_n 1, 1) := by decide +kernel
theorem dX12_due_69 : decode cX12_due 69 = .ok (.invokevirtual 641, 3) := by decide +kernel
theorem dX12_due_72 : decode cX12_due 72 = .ok (.ifCond .eq 5, 3) := by decide +kernel
theorem dX12_due_75 : decode cX12_due 75 = .ok (.iload_n 3, 1) := by decide +kernel
theorem dX12_due_76 : decode cX12_due 76 = .ok (.istore_n 2, 1) := by decide +kernel
theorem dX12_due_77 : decode cX12_due 77 = .ok (.iinc 3 1, 3) := by decide +kernel
theorem dX12_due_80 : decode cX12_due 80 = .ok (.goto (-28), 3) := by decide +kernel
theorem dX12_due_83 : decode cX12_due 83 = .ok (.aload_n 0, 1) := by decide +kernel
theorem dX12_due_84 : decode cX12_due 84 = .ok (.iconst 3, 1) := by decide +kernel
theorem dX12_due_85 : decode cX12_due 85 = .ok (.invokevirtual 644, 3) := by decide +kernel
theorem dX12_due_88 : decode cX12_due 88 = .ok (.iload_n 2, 1) := by decide +kernel
theorem dX12_due_89 : decode cX12_due 89 = .ok (.ireturn, 1) := by decide +kernel
theorem dX12_e_0 : decode cX12_e 0 = .ok (.aload_n 0, 1) := by decide +kernel
theorem dX12_e_1 : decode cX12_e 1 = .ok (.iconst 0, 1) := by decide +kernel
theorem dX12_e_2 : decode cX12_e 2 = .ok (.putfield 450, 3) := by decide +kernel
theorem dX12_e_5 : decode cX12_e 5 = .ok (.aload_n 0, 1) := by decide +kernel
theorem dX12_e_6 : decode cX12_e 6 = .ok (.iconst 0, 1) := by decide +kernel
theorem dX12_e_7 : decode cX12_e 7 = .ok (.putfield 453, 3) := by decide +kernel
theorem dX12_e_10 : decode cX12_e 10 = .ok (.aload_n 0, 1) := by decide +kernel
theorem dX12_e_11 : decode cX12_e 11 = .ok (.bipush 8, 2) := by decide +kernel
theorem dX12_e_13 : decode cX12_e 13 = .ok (.iconst 0, 1) := by decide +kernel
theorem dX12_e_14 : decode cX12_e 14 = .ok (.invokevirtual 456, 3) := by decide +kernel
theorem dX12_e_17 : decode cX12_e 17 = .ok (.iconst 1, 1) := by decide +kernel
theorem dX12_e_18 : decode cX12_e 18 = .ok (.istore_n 1, 1) := by decide +kernel
theorem dX12_e_19 : decode cX12_e 19 = .ok (.aload_n 0, 1) := by decide +kernel
theorem dX12_e_20 : decode cX12_e 20 = .ok (.invokevirtual 364, 3) := by decide +kernel
theorem dX12_e_23 : decode cX12_e 23 = .ok (.ifCond .eq 29, 3) := by decide +kernel
theorem dX12_e_26 : decode cX12_e 26 = .ok (.aload_n 0, 1) := by decide +kernel
theorem dX12_e_27 : decode cX12_e 27 = .ok (.getfield 450, 3) := by decide +kernel
theorem dX12_e_30 : decode cX12_e 30 = .ok (.ifCond .le 22, 3) := by decide +kernel
theorem dX12_e_33 : decode cX12_e 33 = .ok (.iload_n 1, 1) := by decide +kernel
theorem dX12_e_34 : decode cX12_e 34 = .ok (.ifCond .eq 10, 3) := by decide +kernel
theorem dX12_e_37 : decode cX12_e 37 = .ok (.aload_n 0, 1) := by decide +kernel
theorem dX12_e_38 : decode cX12_e 38 = .ok (.invokevirtual 459, 3) := by decide +kernel
theorem dX12_e_41 : decode cX12_e 41 = .ok (.goto 7, 3) := by decide +kernel
theorem dX12_e_44 : decode cX12_e 44 = .ok (.aload_n 0, 1) := by decide +kernel
theorem dX12_e_45 : decode cX12_e 45 = .ok (.invokevirtual 462, 3) := by decide +kernel
theorem dX12_e_48 : decode cX12_e 48 = .ok (.istore_n 1, 1) := by decide +kernel
theorem dX12_e_49 : decode cX12_e 49 = .ok (.goto (-30), 3) := by decide +kernel
theorem dX12_e_52 : decode cX12_e 52 = .ok (.return_, 1) := by decide +kernel
theorem dX12_emit_0 : decode cX12_emit 0 = .ok (.aload_n 0, 1) := by decide +kernel
theorem dX12_emit_1 : decode cX12_emit 1 = .ok (.getfield 122, 3) := by decide +kernel
theorem dX12_emit_4 : decode cX12_emit 4 = .ok (.aload_n 0, 1) := by decide +kernel
theorem dX12_emit_5 : decode cX12_emit 5 = .ok (.getfield 380, 3) := by decide +kernel
theorem dX12_emit_8 : decode cX12_emit 8 = .ok (.iload_n 1, 1) := by decide +kernel
theorem dX12_emit_9 : decode cX12_emit 9 = .ok (.iastore, 1) := by decide +kernel
theorem dX12_emit_10 : decode cX12_emit 10 = .ok (.aload_n 0, 1) := by decide +kernel
theorem dX12_emit_11 : decode cX12_emit 11 = .ok (.getfield 125, 3) := by decide +kernel
theorem dX12_emit_14 : decode cX12_emit 14 = .ok (.aload_n 0, 1) := by decide +kernel
theorem dX12_emit_15 : decode cX12_emit 15 = .ok (.getfield 380, 3) := by decide +kernel
theorem dX12_emit_18 : decode cX12_emit 18 = .ok (.iload_n 2, 1) := by decide +kernel
theorem dX12_emit_19 : decode cX12_emit 19 = .ok (.iastore, 1) := by decide +kernel
theorem dX12_emit_20 : decode cX12_emit 20 = .ok (.aload_n 0, 1) := by decide +kernel
theorem dX12_emit_21 : decode cX12_emit 21 = .ok (.dup, 1) := by decide +kernel
theorem dX12_emit_22 : decode cX12_emit 22 = .ok (.getfield 380, 3) := by decide +kernel
theorem dX12_emit_25 : decode cX12_emit 25 = .ok (.iconst 1, 1) := by decide +kernel
theorem dX12_emit_26 : decode cX12_emit 26 = .ok (.iadd, 1) := by decide +kernel
theorem dX12_emit_27 : decode cX12_emit 27 = .ok (.putfield 380, 3) := by decide +kernel
theorem dX12_emit_30 : decode cX12_emit 30 = .ok (.return_, 1) := by decide +kernel
theorem dX12_end_0 : decode cX12_end 0 = .ok (.iload_n 1, 1) := by decide +kernel
theorem dX12_end_1 : decode cX12_end 1 = .ok (.ifCond .lt 11, 3) := by decide +kernel
theorem dX12_end_4 : decode cX12_end 4 = .ok (.iload_n 1, 1) := by decide +kernel
theorem dX12_end_5 : decode cX12_end 5 = .ok (.aload_n 0, 1) := by decide +kernel
theorem dX12_end_6 : decode cX12_end 6 = .ok (.getfield 383, 3) := by decide +kernel
theorem dX12_end_9 : decode cX12_end 9 = .ok (.if_icmp .le 5, 3) := by decide +kernel
theorem dX12_end_12 : decode cX12_end 12 = .ok (.iconst (-1), 1) := by decide +kernel
theorem dX12_end_13 : decode cX12_end 13 = .ok (.ireturn, 1) := by decide +kernel
theorem dX12_end_14 : decode cX12_end 14 = .ok (.aload_n 0, 1) := by decide +kernel
theorem dX12_end_15 : decode cX12_end 15 = .ok (.iload_n 1, 1) := by decide +kernel
theorem dX12_end_16 : decode cX12_end 16 = .ok (.putfield 383, 3) := by decide +kernel
theorem dX12_end_19 : decode cX12_end 19 = .ok (.iload_n 1, 1) := by decide +kernel
theorem dX12_end_20 : decode cX12_end 20 = .ok (.ireturn, 1) := by decide +kernel
theorem dX12_event_0 : decode cX12_event 0 = .ok (.iload_n 1, 1) := by decide +kernel
theorem dX12_event_1 : decode cX12_event 1 = .ok (.iconst 0, 1) := by decide +kernel
theorem dX12_event_2 : decode cX12_event 2 = .ok (.aload_n 0, 1) := by decide +kernel
theorem dX12_event_3 : decode cX12_event 3 = .ok (.getfield 546, 3) := by decide +kernel
theorem dX12_event_6 : decode cX12_event 6 = .ok (.iconst 1, 1) := by decide +kernel
theorem dX12_event_7 : decode cX12_event 7 = .ok (.isub, 1) := by decide +kernel
theorem dX12_event_8 : decode cX12_event 8 = .ok (.invokestatic 503, 3) := by decide +kernel
theorem dX12_event_11 : decode cX12_event 11 = .ok (.ifCond .ne 5, 3) := by decide +kernel
theorem dX12_event_14 : decode cX12_event 14 = .ok (.iconst (-1), 1) := by decide +kernel
theorem dX12_event_15 : decode cX12_event 15 = .ok (.ireturn, 1) := by decide +kernel
theorem dX12_event_16 : decode cX12_event 16 = .ok (.iload_n 2, 1) := by decide +kernel
theorem dX12_event_17 : decode cX12_event 17 = .ok (.tableswitch 70 0 4 #[35, 42, 49, 56, 63], 35) := by decide +kernel
theorem dX12_event_52 : decode cX12_event 52 = .ok (.aload_n 0, 1) := by decide +kernel
theorem dX12_event_53 : decode cX12_event 53 = .ok (.getfield 176, 3) := by decide +kernel
theorem dX12_event_56 : decode cX12_event 56 = .ok (.iload_n 1, 1) := by decide +kernel
theorem dX12_event_57 : decode cX12_event 57 = .ok (.iaload, 1) := by decide +kernel
theorem dX12_event_58 : decode cX12_event 58 = .ok (.ireturn, 1) := by decide +kernel
theorem dX12_event_59 : decode cX12_event 59 = .ok (.aload_n 0, 1) := by decide +kernel
theorem dX12_event_60 : decode cX12_event 60 = .ok (.getfield 179, 3) := by decide +kernel
theorem dX12_event_63 : decode cX12_event 63 = .ok (.iload_n 1, 1) := by decide +kernel
theorem dX12_event_64 : decode cX12_event 64 = .ok (.iaload, 1) := by decide +kernel
theorem dX12_event_65 : decode cX12_event 65 = .ok (.ireturn, 1) := by decide +kernel
theorem dX12_event_66 : decode cX12_event 66 = .ok (.aload_n 0, 1) := by decide +kernel
theorem dX12_event_67 : decode cX12_event 67 = .ok (.getfield 182, 3) := by decide +kernel
theorem dX12_event_70 : decode cX12_event 70 = .ok (.iload_n 1, 1) := by decide +kernel
theorem dX12_event_71 : decode cX12_event 71 = .ok (.iaload, 1) := by decide +kernel
theorem dX12_event_72 : decode cX12_event 72 = .ok (.ireturn, 1) := by decide +kernel
theorem dX12_event_73 : decode cX12_event 73 = .ok (.aload_n 0, 1) := by decide +kernel
theorem dX12_event_74 : decode cX12_event 74 = .ok (.getfield 185, 3) := by decide +kernel
theorem dX12_event_77 : decode cX12_event 77 = .ok (.iload_n 1, 1) := by decide +kernel
theorem dX12_event_78 : decode cX12_event 78 = .ok (.iaload, 1) := by decide +kernel
theorem dX12_event_79 : decode cX12_event 79 = .ok (.ireturn, 1) := by decide +kernel
theorem dX12_event_80 : decode cX12_event 80 = .ok (.aload_n 0, 1) := by decide +kernel
theorem dX12_event_81 : decode cX12_event 81 = .ok (.getfield 188, 3) := by decide +kernel
theorem dX12_event_84 : decode cX12_event 84 = .ok (.iload_n 1, 1) := by decide +kernel
theorem dX12_event_85 : decode cX12_event 85 = .ok (.iaload, 1) := by decide +kernel
theorem dX12_event_86 : decode cX12_event 86 = .ok (.ireturn, 1) := by decide +kernel
theorem dX12_event_87 : decode cX12_event 87 = .ok (.iconst (-1), 1) := by decide +kernel
theorem dX12_event_88 : decode cX12_event 88 = .ok (.ireturn, 1) := by decide +kernel
theorem dX12_event0_0 : decode cX12_event0 0 = .ok (.aload_n 0, 1) := by decide +kernel
theorem dX12_event0_1 : decode cX12_event0 1 = .ok (.getfield 546, 3) := by decide +kernel
theorem dX12_event0_4 : decode cX12_event0 4 = .ok (.bipush 60, 2) := by decide +kernel
theorem dX12_event0_6 : decode cX12_event0 6 = .ok (.if_icmp .ne 5, 3) := by decide +kernel
theorem dX12_event0_9 : decode cX12_event0 9 = .ok (.iconst (-1), 1) := by decide +kernel
theorem dX12_event0_10 : decode cX12_event0 10 = .ok (.ireturn, 1) := by decide +kernel
theorem dX12_event0_11 : decode cX12_event0 11 = .ok (.aload_n 0, 1) := by decide +kernel
theorem dX12_event0_12 : decode cX12_event0 12 = .ok (.getfield 176, 3) := by decide +kernel
theorem dX12_event0_15 : decode cX12_event0 15 = .ok (.aload_n 0, 1) := by decide +kernel
theorem dX12_event0_16 : decode cX12_event0 16 = .ok (.getfield 546, 3) := by decide +kernel
theorem dX12_event0_19 : decode cX12_event0 19 = .ok (.aload_n 0, 1) := by decide +kernel
theorem dX12_event0_20 : decode cX12_event0 20 = .ok (.getfield 483, 3) := by decide +kernel
theorem dX12_event0_23 : decode cX12_event0 23 = .ok (.iconst 1, 1) := by decide +kernel
theorem dX12_event0_24 : decode cX12_event0 24 = .ok (.iadd, 1) := by decide +kernel
theorem dX12_event0_25 : decode cX12_event0 25 = .ok (.iastore, 1) := by decide +kernel
theorem dX12_event0_26 : decode cX12_event0 26 = .ok (.aload_n 0, 1) := by decide +kernel
theorem dX12_event0_27 : decode cX12_event0 27 = .ok (.getfield 179, 3) := by decide +kernel
theorem dX12_event0_30 : decode cX12_event0 30 = .ok (.aload_n 0, 1) := by decide +kernel
theorem dX12_event0_31 : decode cX12_event0 31 = .ok (.getfield 546, 3) := by decide +kernel
theorem dX12_event0_34 : decode cX12_event0 34 = .ok (.iload_n 1, 1) := by decide +kernel
theorem dX12_event0_35 : decode cX12_event0 35 = .ok (.iastore, 1) := by decide +kernel
theorem dX12_event0_36 : decode cX12_event0 36 = .ok (.aload_n 0, 1) := by decide +kernel
theorem dX12_event0_37 : decode cX12_event0 37 = .ok (.getfield 182, 3) := by decide +kernel
theorem dX12_event0_40 : decode cX12_event0 40 = .ok (.aload_n 0, 1) := by decide +kernel
theorem dX12_event0_41 : decode cX12_event0 41 = .ok (.getfield 546, 3) := by decide +kernel
theorem dX12_event0_44 : decode cX12_event0 44 = .ok (.iload_n 2, 1) := by decide +kernel
theorem dX12_event0_45 : decode cX12_event0 45 = .ok (.iastore, 1) := by decide +kernel
theorem dX12_event0_46 : decode cX12_event0 46 = .ok (.aload_n 0, 1) := by decide +kernel
theorem dX12_event0_47 : decode cX12_event0 47 = .ok (.getfield 185, 3) := by decide +kernel
theorem dX12_event0_50 : decode cX12_event0 50 = .ok (.aload_n 0, 1) := by decide +kernel
theorem dX12_event0_51 : decode cX12_event0 51 = .ok (.getfield 546, 3) := by decide +kernel
theorem dX12_event0_54 : decode cX12_event0 54 = .ok (.iload_n 3, 1) := by decide +kernel
theorem dX12_event0_55 : decode cX12_event0 55 = .ok (.iastore, 1) := by decide +kernel
theorem dX12_event0_56 : decode cX12_event0 56 = .ok (.aload_n 0, 1) := by decide +kernel
theorem dX12_event0_57 : decode cX12_event0 57 = .ok (.getfield 188, 3) := by decide +kernel
theorem dX12_event0_60 : decode cX12_event0 60 = .ok (.aload_n 0, 1) := by decide +kernel
theorem dX12_event0_61 : decode cX12_event0 61 = .ok (.getfield 546, 3) := by decide +kernel
theorem dX12_event0_64 : decode cX12_event0 64 = .ok (.iload 4, 2) := by decide +kernel
theorem dX12_event0_66 : decode cX12_event0 66 = .ok (.iastore, 1) := by decide +kernel
theorem dX12_event0_67 : decode cX12_event0 67 = .ok (.aload_n 0, 1) := by decide +kernel
theorem dX12_event0_68 : decode cX12_event0 68 = .ok (.dup, 1) := by decide +kernel
theorem dX12_event0_69 : decode cX12_event0 69 = .ok (.getfield 546, 3) := by decide +kernel
theorem dX12_event0_72 : decode cX12_event0 72 = .ok (.iconst 1, 1) := by decide +kernel
theorem dX12_event0_73 : decode cX12_event0 73 = .ok (.iadd, 1) := by decide +kernel
theorem dX12_event0_74 : decode cX12_event0 74 = .ok (.putfield 546, 3) := by decide +kernel
theorem dX12_event0_77 : decode cX12_event0 77 = .ok (.aload_n 0, 1) := by decide +kernel
theorem dX12_event0_78 : decode cX12_event0 78 = .ok (.getfield 546, 3) := by decide +kernel
theorem dX12_event0_81 : decode cX12_event0 81 = .ok (.iconst 1, 1) := by decide +kernel
theorem dX12_event0_82 : decode cX12_event0 82 = .ok (.isub, 1) := by decide +kernel
theorem dX12_event0_83 : decode cX12_event0 83 = .ok (.ireturn, 1) := by decide +kernel
theorem dX12_fails_0 : decode cX12_fails 0 = .ok (.aload_n 0, 1) := by decide +kernel
theorem dX12_fails_1 : decode cX12_fails 1 = .ok (.getfield 263, 3) := by decide +kernel
theorem dX12_fails_4 : decode cX12_fails 4 = .ok (.ifCond .le 4, 3) := by decide +kernel
theorem dX12_fails_7 : decode cX12_fails 7 = .ok (.return_, 1) := by decide +kernel
theorem dX12_fails_8 : decode cX12_fails 8 = .ok (.aload_n 0, 1) := by decide +kernel
theorem dX12_fails_9 : decode cX12_fails 9 = .ok (.iload_n 1, 1) := by decide +kernel
theorem dX12_fails_10 : decode cX12_fails 10 = .ok (.putfield 263, 3) := by decide +kernel
theorem dX12_fails_13 : decode cX12_fails 13 = .ok (.aload_n 0, 1) := by decide +kernel
theorem dX12_fails_14 : decode cX12_fails 14 = .ok (.iload_n 2, 1) := by decide +kernel
theorem dX12_fails_15 : decode cX12_fails 15 = .ok (.putfield 16, 3) := by decide +kernel
theorem dX12_fails_18 : decode cX12_fails 18 = .ok (.return_, 1) := by decide +kernel
theorem dX12_fault_0 : decode cX12_fault 0 = .ok (.iload_n 1, 1) := by decide +kernel
theorem dX12_fault_1 : decode cX12_fault 1 = .ok (.ifCond .ne 10, 3) := by decide +kernel
theorem dX12_fault_4 : decode cX12_fault 4 = .ok (.aload_n 0, 1) := by decide +kernel
theorem dX12_fault_5 : decode cX12_fault 5 = .ok (.getfield 263, 3) := by decide +kernel
theorem dX12_fault_8 : decode cX12_fault 8 = .ok (.goto 16, 3) := by decide +kernel
theorem dX12_fault_11 : decode cX12_fault 11 = .ok (.iload_n 1, 1) := by decide +kernel
theorem dX12_fault_12 : decode cX12_fault 12 = .ok (.iconst 1, 1) := by decide +kernel
theorem dX12_fault_13 : decode cX12_fault 13 = .ok (.if_icmp .ne 10, 3) := by decide +kernel
theorem dX12_fault_16 : decode cX12_fault 16 = .ok (.aload_n 0, 1) := by decide +kernel
theorem dX12_fault_17 : decode cX12_fault 17 = .ok (.getfield 16, 3) := by decide +kernel
theorem dX12_fault_20 : decode cX12_fault 20 = .ok (.goto 4, 3) := by decide +kernel
theorem dX12_fault_23 : decode cX12_fault 23 = .ok (.iconst (-1), 1) := by decide +kernel
theorem dX12_fault_24 : decode cX12_fault 24 = .ok (.ireturn, 1) := by decide +kernel
theorem dX12_feed_0 : decode cX12_feed 0 = .ok (.aload_n 0, 1) := by decide +kernel
theorem dX12_feed_1 : decode cX12_feed 1 = .ok (.getfield 383, 3) := by decide +kernel
theorem dX12_feed_4 : decode cX12_feed 4 = .ok (.bipush 20, 2) := by decide +kernel
theorem dX12_feed_6 : decode cX12_feed 6 = .ok (.iadd, 1) := by decide +kernel
theorem dX12_feed_7 : decode cX12_feed 7 = .ok (.sipush 1600, 3) := by decide +kernel
theorem dX12_feed_10 : decode cX12_feed 10 = .ok (.if_icmp .le 5, 3) := by decide +kernel
theorem dX12_feed_13 : decode cX12_feed 13 = .ok (.iconst (-1), 1) := by decide +kernel
theorem dX12_feed_14 : decode cX12_feed 14 = .ok (.ireturn, 1) := by decide +kernel
theorem dX12_feed_15 : decode cX12_feed 15 = .ok (.iconst 0, 1) := by decide +kernel
theorem dX12_feed_16 : decode cX12_feed 16 = .ok (.istore 6, 2) := by decide +kernel
theorem dX12_feed_18 : decode cX12_feed 18 = .ok (.iload 6, 2) := by decide +kernel
theorem dX12_feed_20 : decode cX12_feed 20 = .ok (.bipush 20, 2) := by decide +kernel
theorem dX12_feed_22 : decode cX12_feed 22 = .ok (.if_icmp .ge 83, 3) := by decide +kernel
theorem dX12_feed_25 : decode cX12_feed 25 = .ok (.iload 6, 2) := by decide +kernel
theorem dX12_feed_27 : decode cX12_feed 27 = .ok (.iconst 4, 1) := by decide +kernel
theorem dX12_feed_28 : decode cX12_feed 28 = .ok (.if_icmp .ge 7, 3) := by decide +kernel
theorem dX12_feed_31 : decode cX12_feed 31 = .ok (.iload_n 1, 1) := by decide +kernel
theorem dX12_feed_32 : decode cX12_feed 32 = .ok (.goto 39, 3) := by decide +kernel
theorem dX12_feed_35 : decode cX12_feed 35 = .ok (.iload 6, 2) := by decide +kernel
theorem dX12_feed_37 : decode cX12_feed 37 = .ok (.bipush 8, 2) := by decide +kernel
theorem dX12_feed_39 : decode cX12_feed 39 = .ok (.if_icmp .ge 7, 3) := by decide +kernel
theorem dX12_feed_42 : decode cX12_feed 42 = .ok (.iload_n 2, 1) := by decide +kernel
theorem dX12_feed_43 : decode cX12_feed 43 = .ok (.goto 28, 3) := by decide +kernel
theorem dX12_feed_46 : decode cX12_feed 46 = .ok (.iload 6, 2) := by decide +kernel
theorem dX12_feed_48 : decode cX12_feed 48 = .ok (.bipush 12, 2) := by decide +kernel
theorem dX12_feed_50 : decode cX12_feed 50 = .ok (.if_icmp .ge 7, 3) := by decide +kernel
theorem dX12_feed_53 : decode cX12_feed 53 = .ok (.iload_n 3, 1) := by decide +kernel
theorem dX12_feed_54 : decode cX12_feed 54 = .ok (.goto 17, 3) := by decide +kernel
theorem dX12_feed_57 : decode cX12_feed 57 = .ok (.iload 6, 2) := by decide +kernel
theorem dX12_feed_59 : decode cX12_feed 59 = .ok (.bipush 16, 2) := by decide +kernel
theorem dX12_feed_61 : decode cX12_feed 61 = .ok (.if_icmp .ge 8, 3) := by decide +kernel
theorem dX12_feed_64 : decode cX12_feed 64 = .ok (.iload 4, 2) := by decide +kernel
theorem dX12_feed_66 : decode cX12_feed 66 = .ok (.goto 5, 3) := by decide +kernel
theorem dX12_feed_69 : decode cX12_feed 69 = .ok (.iload 5, 2) := by decide +kernel
theorem dX12_feed_71 : decode cX12_feed 71 = .ok (.istore 7, 2) := by decide +kernel
theorem dX12_feed_73 : decode cX12_feed 73 = .ok (.aload_n 0, 1) := by decide +kernel
theorem dX12_feed_74 : decode cX12_feed 74 = .ok (.getfield 7, 3) := by decide +kernel
theorem dX12_feed_77 : decode cX12_feed 77 = .ok (.aload_n 0, 1) := by decide +kernel
theorem dX12_feed_78 : decode cX12_feed 78 = .ok (.getfield 383, 3) := by decide +kernel
theorem dX12_feed_81 : decode cX12_feed 81 = .ok (.iload 6, 2) := by decide +kernel
theorem dX12_feed_83 : decode cX12_feed 83 = .ok (.iadd, 1) := by decide +kernel
theorem dX12_feed_84 : decode cX12_feed 84 = .ok (.iload 7, 2) := by decide +kernel
theorem dX12_feed_86 : decode cX12_feed 86 = .ok (.bipush 24, 2) := by decide +kernel
theorem dX12_feed_88 : decode cX12_feed 88 = .ok (.bipush 8, 2) := by decide +kernel
theorem dX12_feed_90 : decode cX12_feed 90 = .ok (.iload 6, 2) := by decide +kernel
theorem dX12_feed_92 : decode cX12_feed 92 = .ok (.iconst 3, 1) := by decide +kernel
theorem dX12_feed_93 : decode cX12_feed 93 = .ok (.iand, 1) := by decide +kernel
theorem dX12_feed_94 : decode cX12_feed 94 = .ok (.imul, 1) := by decide +kernel
theorem dX12_feed_95 : decode cX12_feed 95 = .ok (.isub, 1) := by decide +kernel
theorem dX12_feed_96 : decode cX12_feed 96 = .ok (.ishr, 1) := by decide +kernel
theorem dX12_feed_97 : decode cX12_feed 97 = .ok (.i2b, 1) := by decide +kernel
theorem dX12_feed_98 : decode cX12_feed 98 = .ok (.bastore, 1) := by decide +kernel
theorem dX12_feed_99 : decode cX12_feed 99 = .ok (.iinc 6 1, 3) := by decide +kernel
theorem dX12_feed_102 : decode cX12_feed 102 = .ok (.goto (-84), 3) := by decide +kernel
theorem dX12_feed_105 : decode cX12_feed 105 = .ok (.aload_n 0, 1) := by decide +kernel
theorem dX12_feed_106 : decode cX12_feed 106 = .ok (.dup, 1) := by decide +kernel
theorem dX12_feed_107 : decode cX12_feed 107 = .ok (.getfield 383, 3) := by decide +kernel
theorem dX12_feed_110 : decode cX12_feed 110 = .ok (.bipush 20, 2) := by decide +kernel
theorem dX12_feed_112 : decode cX12_feed 112 = .ok (.iadd, 1) := by decide +kernel
theorem dX12_feed_113 : decode cX12_feed 113 = .ok (.putfield 383, 3) := by decide +kernel
theorem dX12_feed_116 : decode cX12_feed 116 = .ok (.aload_n 0, 1) := by decide +kernel
theorem dX12_feed_117 : decode cX12_feed 117 = .ok (.getfield 383, 3) := by decide +kernel
theorem dX12_feed_120 : decode cX12_feed 120 = .ok (.ireturn, 1) := by decide +kernel
theorem dX12_findFalse_0 : decode cX12_findFalse 0 = .ok (.aload_n 0, 1) := by decide +kernel
theorem dX12_findFalse_1 : decode cX12_findFalse 1 = .ok (.iconst 3, 1) := by decide +kernel
theorem dX12_findFalse_2 : decode cX12_findFalse 2 = .ok (.invokevirtual 638, 3) := by decide +kernel
theorem dX12_findFalse_5 : decode cX12_findFalse 5 = .ok (.aload_n 0, 1) := by decide +kernel
theorem dX12_findFalse_6 : decode cX12_findFalse 6 = .ok (.invokevirtual 257, 3) := by decide +kernel
theorem dX12_findFalse_9 : decode cX12_findFalse 9 = .ok (.iconst 1, 1) := by decide +kernel
theorem dX12_findFalse_10 : decode cX12_findFalse 10 = .ok (.istore_n 1, 1) := by decide +kernel
theorem dX12_findFalse_11 : decode cX12_findFalse 11 = .ok (.iload_n 1, 1) := by decide +kernel
theorem dX12_findFalse_12 : decode cX12_findFalse 12 = .ok (.sipush 200, 3) := by decide +kernel
theorem dX12_findFalse_15 : decode cX12_findFalse 15 = .ok (.if_icmp .gt 69, 3) := by decide +kernel
theorem dX12_findFalse_18 : decode cX12_findFalse 18 = .ok (.aload_n 0, 1) := by decide +kernel
theorem dX12_findFalse_19 : decode cX12_findFalse 19 = .ok (.invokevirtual 622, 3) := by decide +kernel
theorem dX12_findFalse_22 : decode cX12_findFalse 22 = .ok (.iconst 0, 1) := by decide +kernel
theorem dX12_findFalse_23 : decode cX12_findFalse 23 = .ok (.istore_n 2, 1) := by decide +kernel
theorem dX12_findFalse_24 : decode cX12_findFalse 24 = .ok (.iload_n 2, 1) := by decide +kernel
theorem dX12_findFalse_25 : decode cX12_findFalse 25 = .ok (.aload_n 0, 1) := by decide +kernel
theorem dX12_findFalse_26 : decode cX12_findFalse 26 = .ok (.getfield 392, 3) := by decide +kernel
theorem dX12_findFalse_29 : decode cX12_findFalse 29 = .ok (.if_icmp .ge 49, 3) := by decide +kernel
theorem dX12_findFalse_32 : decode cX12_findFalse 32 = .ok (.aload_n 0, 1) := by decide +kernel
theorem dX12_findFalse_33 : decode cX12_findFalse 33 = .ok (.getfield 194, 3) := by decide +kernel
theorem dX12_findFalse_36 : decode cX12_findFalse 36 = .ok (.iload_n 2, 1) := by decide +kernel
theorem dX12_findFalse_37 : decode cX12_findFalse 37 = .ok (.iaload, 1) := by decide +kernel
theorem dX12_findFalse_38 : decode cX12_findFalse 38 = .ok (.iload_n 1, 1) := by decide +kernel
theorem dX12_findFalse_39 : decode cX12_findFalse 39 = .ok (.if_icmp .ne 33, 3) := by decide +kernel
theorem dX12_findFalse_42 : decode cX12_findFalse 42 = .ok (.aload_n 0, 1) := by decide +kernel
theorem dX12_findFalse_43 : decode cX12_findFalse 43 = .ok (.getfield 206, 3) := by decide +kernel
theorem dX12_findFalse_46 : decode cX12_findFalse 46 = .ok (.iload_n 2, 1) := by decide +kernel
theorem dX12_findFalse_47 : decode cX12_findFalse 47 = .ok (.aload_n 0, 1) := by decide +kernel
theorem dX12_findFalse_48 : decode cX12_findFalse 48 = .ok (.aload_n 0, 1) := by decide +kernel
theorem dX12_findFalse_49 : decode cX12_findFalse 49 = .ok (.getfield 191, 3) := by decide +kernel
theorem dX12_findFalse_52 : decode cX12_findFalse 52 = .ok (.iload_n 2, 1) := by decide +kernel
theorem dX12_findFalse_53 : decode cX12_findFalse 53 = .ok (.iaload, 1) := by decide +kernel
theorem dX12_findFalse_54 : decode cX12_findFalse 54 = .ok (.invokevirtual 553, 3) := by decide +kernel
theorem dX12_findFalse_57 : decode cX12_findFalse 57 = .ok (.aload_n 0, 1) := by decide +kernel
theorem dX12_findFalse_58 : decode cX12_findFalse 58 = .ok (.getfield 197, 3) := by decide +kernel
theorem dX12_findFalse_61 : decode cX12_findFalse 61 = .ok (.iload_n 2, 1) := by decide +kernel
theorem dX12_findFalse_62 : decode cX12_findFalse 62 = .ok (.iaload, 1) := by decide +kernel
theorem dX12_findFalse_63 : decode cX12_findFalse 63 = .ok (.if_icmp .eq 7, 3) := by decide +kernel
theorem dX12_findFalse_66 : decode cX12_findFalse 66 = .ok (.iconst 1, 1) := by decide +kernel
theorem dX12_findFalse_67 : decode cX12_findFalse 67 = .ok (.goto 4, 3) := by decide +kernel
theorem dX12_findFalse_70 : decode cX12_findFalse 70 = .ok (.iconst 0, 1) := by decide +kernel
theorem dX12_findFalse_71 : decode cX12_findFalse 71 = .ok (.bastore, 1) := by decide +kernel
theorem dX12_findFalse_72 : decode cX12_findFalse 72 = .ok (.iinc 2 1, 3) := by decide +kernel
theorem dX12_findFalse_75 : decode cX12_findFalse 75 = .ok (.goto (-51), 3) := by decide +kernel
theorem dX12_findFalse_78 : decode cX12_findFalse 78 = .ok (.iinc 1 1, 3) := by decide +kernel
theorem dX12_findFalse_81 : decode cX12_findFalse 81 = .ok (.goto (-70), 3) := by decide +kernel
theorem dX12_findFalse_84 : decode cX12_findFalse 84 = .ok (.aload_n 0, 1) := by decide +kernel
theorem dX12_findFalse_85 : decode cX12_findFalse 85 = .ok (.iconst 3, 1) := by decide +kernel
theorem dX12_findFalse_86 : decode cX12_findFalse 86 = .ok (.invokevirtual 644, 3) := by decide +kernel
theorem dX12_findFalse_89 : decode cX12_findFalse 89 = .ok (.return_, 1) := by decide +kernel
theorem dX12_free_0 : decode cX12_free 0 = .ok (.aload_n 0, 1) := by decide +kernel
theorem dX12_free_1 : decode cX12_free 1 = .ok (.iload_n 1, 1) := by decide +kernel
theorem dX12_free_2 : decode cX12_free 2 = .ok (.invokevirtual 628, 3) := by decide +kernel
theorem dX12_free_5 : decode cX12_free 5 = .ok (.ifCond .eq 12, 3) := by decide +kernel
theorem dX12_free_8 : decode cX12_free 8 = .ok (.aload_n 0, 1) := by decide +kernel
theorem dX12_free_9 : decode cX12_free 9 = .ok (.getfield 155, 3) := by decide +kernel
theorem dX12_free_12 : decode cX12_free 12 = .ok (.iload_n 1, 1) := by decide +kernel
theorem dX12_free_13 : decode cX12_free 13 = .ok (.baload, 1) := by decide +kernel
theorem dX12_free_14 : decode cX12_free 14 = .ok (.ifCond .ne 5, 3) := by decide +kernel
theorem dX12_free_17 : decode cX12_free 17 = .ok (.iconst 0, 1) := by decide +kernel
theorem dX12_free_18 : decode cX12_free 18 = .ok (.ireturn, 1) := by decide +kernel
theorem dX12_free_19 : decode cX12_free 19 = .ok (.aload_n 0, 1) := by decide +kernel
theorem dX12_free_20 : decode cX12_free 20 = .ok (.getfield 155, 3) := by decide +kernel
theorem dX12_free_23 : decode cX12_free 23 = .ok (.iload_n 1, 1) := by decide +kernel
theorem dX12_free_24 : decode cX12_free 24 = .ok (.iconst 0, 1) := by decide +kernel
theorem dX12_free_25 : decode cX12_free 25 = .ok (.bastore, 1) := by decide +kernel
theorem dX12_free_26 : decode cX12_free 26 = .ok (.iconst 1, 1) := by decide +kernel
theorem dX12_free_27 : decode cX12_free 27 = .ok (.ireturn, 1) := by decide +kernel
theorem dX12_fresh_0 : decode cX12_fresh 0 = .ok (.aload_n 0, 1) := by decide +kernel
theorem dX12_fresh_1 : decode cX12_fresh 1 = .ok (.invokevirtual 364, 3) := by decide +kernel
theorem dX12_fresh_4 : decode cX12_fresh 4 = .ok (.ifCond .ne 5, 3) := by decide +kernel
theorem dX12_fresh_7 : decode cX12_fresh 7 = .ok (.lconst 0, 1) := by decide +kernel
theorem dX12_fresh_8 : decode cX12_fresh 8 = .ok (.lreturn, 1) := by decide +kernel
theorem dX12_fresh_9 : decode cX12_fresh 9 = .ok (.aload_n 0, 1) := by decide +kernel
theorem dX12_fresh_10 : decode cX12_fresh 10 = .ok (.getfield 336, 3) := by decide +kernel
theorem dX12_fresh_13 : decode cX12_fresh 13 = .ok (.iconst 2, 1) := by decide +kernel
theorem dX12_fresh_14 : decode cX12_fresh 14 = .ok (.if_icmp .eq 7, 3) := by decide +kernel
theorem dX12_fresh_17 : decode cX12_fresh 17 = .ok (.aload_n 0, 1) := by decide +kernel
theorem dX12_fresh_18 : decode cX12_fresh 18 = .ok (.invokevirtual 371, 3) := by decide +kernel
theorem dX12_fresh_21 : decode cX12_fresh 21 = .ok (.iconst 0, 1) := by decide +kernel
theorem dX12_fresh_22 : decode cX12_fresh 22 = .ok (.istore 4, 2) := by decide +kernel
theorem dX12_fresh_24 : decode cX12_fresh 24 = .ok (.iload 4, 2) := by decide +kernel
theorem dX12_fresh_26 : decode cX12_fresh 26 = .ok (.iload_n 3, 1) := by decide +kernel
theorem dX12_fresh_27 : decode cX12_fresh 27 = .ok (.if_icmp .ge 39, 3) := by decide +kernel
theorem dX12_fresh_30 : decode cX12_fresh 30 = .ok (.aload_n 0, 1) := by decide +kernel
theorem dX12_fresh_31 : decode cX12_fresh 31 = .ok (.invokevirtual 364, 3) := by decide +kernel
theorem dX12_fresh_34 : decode cX12_fresh 34 = .ok (.ifCond .eq 32, 3) := by decide +kernel
theorem dX12_fresh_37 : decode cX12_fresh 37 = .ok (.aload_n 1, 1) := by decide +kernel
theorem dX12_fresh_38 : decode cX12_fresh 38 = .ok (.iload_n 2, 1) := by decide +kernel
theorem dX12_fresh_39 : decode cX12_fresh 39 = .ok (.iload 4, 2) := by decide +kernel
theorem dX12_fresh_41 : decode cX12_fresh 41 = .ok (.iadd, 1) := by decide +kernel
theorem dX12_fresh_42 : decode cX12_fresh 42 = .ok (.laload, 1) := by decide +kernel
theorem dX12_fresh_43 : decode cX12_fresh 43 = .ok (.aload_n 0, 1) := by decide +kernel
theorem dX12_fresh_44 : decode cX12_fresh 44 = .ok (.getfield 343, 3) := by decide +kernel
theorem dX12_fresh_47 : decode cX12_fresh 47 = .ok (.lcmp, 1) := by decide +kernel
theorem dX12_fresh_48 : decode cX12_fresh 48 = .ok (.ifCond .ne 12, 3) := by decide +kernel
theorem dX12_fresh_51 : decode cX12_fresh 51 = .ok (.aload_n 0, 1) := by decide +kernel
theorem dX12_fresh_52 : decode cX12_fresh 52 = .ok (.iconst 3, 1) := by decide +kernel
theorem dX12_fresh_53 : decode cX12_fresh 53 = .ok (.aload_n 0, 1) := by decide +kernel
theorem dX12_fresh_54 : decode cX12_fresh 54 = .ok (.getfield 329, 3) := by decide +kernel
theorem dX12_fresh_57 : decode cX12_fresh 57 = .ok (.invokevirtual 360, 3) := by decide +kernel
theorem dX12_fresh_60 : decode cX12_fresh 60 = .ok (.iinc 4 1, 3) := by decide +kernel
theorem dX12_fresh_63 : decode cX12_fresh 63 = .ok (.goto (-39), 3) := by decide +kernel
theorem dX12_fresh_66 : decode cX12_fresh 66 = .ok (.aload_n 0, 1) := by decide +kernel
theorem dX12_fresh_67 : decode cX12_fresh 67 = .ok (.getfield 343, 3) := by decide +kernel
theorem dX12_fresh_70 : decode cX12_fresh 70 = .ok (.lstore 4, 2) := by decide +kernel
theorem dX12_fresh_72 : decode cX12_fresh 72 = .ok (.aload_n 0, 1) := by decide +kernel
theorem dX12_fresh_73 : decode cX12_fresh 73 = .ok (.invokevirtual 364, 3) := by decide +kernel
theorem dX12_fresh_76 : decode cX12_fresh 76 = .ok (.ifCond .eq 7, 3) := by decide +kernel
theorem dX12_fresh_79 : decode cX12_fresh 79 = .ok (.aload_n 0, 1) := by decide +kernel
theorem dX12_fresh_80 : decode cX12_fresh 80 = .ok (.invokevirtual 368, 3) := by decide +kernel
theorem dX12_fresh_83 : decode cX12_fresh 83 = .ok (.lload 4, 2) := by decide +kernel
theorem dX12_fresh_85 : decode cX12_fresh 85 = .ok (.lreturn, 1) := by decide +kernel
theorem dX12_goOn_0 : decode cX12_goOn 0 = .ok (.aload_n 0, 1) := by decide +kernel
theorem dX12_goOn_1 : decode cX12_goOn 1 = .ok (.aload_n 0, 1) := by decide +kernel
theorem dX12_goOn_2 : decode cX12_goOn 2 = .ok (.getfield 326, 3) := by decide +kernel
theorem dX12_goOn_5 : decode cX12_goOn 5 = .ok (.putfield 329, 3) := by decide +kernel
theorem dX12_goOn_8 : decode cX12_goOn 8 = .ok (.aload_n 0, 1) := by decide +kernel
theorem dX12_goOn_9 : decode cX12_goOn 9 = .ok (.getfield 329, 3) := by decide +kernel
theorem dX12_goOn_12 : decode cX12_goOn 12 = .ok (.aload_n 0, 1) := by decide +kernel
theorem dX12_goOn_13 : decode cX12_goOn 13 = .ok (.getfield 260, 3) := by decide +kernel
theorem dX12_goOn_16 : decode cX12_goOn 16 = .ok (.if_icmp .ge 42, 3) := by decide +kernel
theorem dX12_goOn_19 : decode cX12_goOn 19 = .ok (.aload_n 0, 1) := by decide +kernel
theorem dX12_goOn_20 : decode cX12_goOn 20 = .ok (.aload_n 0, 1) := by decide +kernel
theorem dX12_goOn_21 : decode cX12_goOn 21 = .ok (.getfield 329, 3) := by decide +kernel
theorem dX12_goOn_24 : decode cX12_goOn 24 = .ok (.invokevirtual 332, 3) := by decide +kernel
theorem dX12_goOn_27 : decode cX12_goOn 27 = .ok (.bipush 32, 2) := by decide +kernel
theorem dX12_goOn_29 : decode cX12_goOn 29 = .ok (.if_icmp .eq 16, 3) := by decide +kernel
theorem dX12_goOn_32 : decode cX12_goOn 32 = .ok (.aload_n 0, 1) := by decide +kernel
theorem dX12_goOn_33 : decode cX12_goOn 33 = .ok (.aload_n 0, 1) := by decide +kernel
theorem dX12_goOn_34 : decode cX12_goOn 34 = .ok (.getfield 329, 3) := by decide +kernel
theorem dX12_goOn_37 : decode cX12_goOn 37 = .ok (.invokevirtual 332, 3) := by decide +kernel
theorem dX12_goOn_40 : decode cX12_goOn 40 = .ok (.bipush 10, 2) := by decide +kernel
theorem dX12_goOn_42 : decode cX12_goOn 42 = .ok (.if_icmp .ne 16, 3) := by decide +kernel
theorem dX12_goOn_45 : decode cX12_goOn 45 = .ok (.aload_n 0, 1) := by decide +kernel
theorem dX12_goOn_46 : decode cX12_goOn 46 = .ok (.dup, 1) := by decide +kernel
theorem dX12_goOn_47 : decode cX12_goOn 47 = .ok (.getfield 329, 3) := by decide +kernel
theorem dX12_goOn_50 : decode cX12_goOn 50 = .ok (.iconst 1, 1) := by decide +kernel
theorem dX12_goOn_51 : decode cX12_goOn 51 = .ok (.iadd, 1) := by decide +kernel
theorem dX12_goOn_52 : decode cX12_goOn 52 = .ok (.putfield 329, 3) := by decide +kernel
theorem dX12_goOn_55 : decode cX12_goOn 55 = .ok (.goto (-47), 3) := by decide +kernel
theorem dX12_goOn_58 : decode cX12_goOn 58 = .ok (.aload_n 0, 1) := by decide +kernel
theorem dX12_goOn_59 : decode cX12_goOn 59 = .ok (.aload_n 0, 1) := by decide +kernel
theorem dX12_goOn_60 : decode cX12_goOn 60 = .ok (.getfield 329, 3) := by decide +kernel
theorem dX12_goOn_63 : decode cX12_goOn 63 = .ok (.invokevirtual 332, 3) := by decide +kernel
theorem dX12_goOn_66 : decode cX12_goOn 66 = .ok (.istore_n 1, 1) := by decide +kernel
theorem dX12_goOn_67 : decode cX12_goOn 67 = .ok (.aload_n 0, 1) := by decide +kernel
theorem dX12_goOn_68 : decode cX12_goOn 68 = .ok (.aload_n 0, 1) := by decide +kernel
theorem dX12_goOn_69 : decode cX12_goOn 69 = .ok (.getfield 329, 3) := by decide +kernel
theorem dX12_goOn_72 : decode cX12_goOn 72 = .ok (.iconst 1, 1) := by decide +kernel
theorem dX12_goOn_73 : decode cX12_goOn 73 = .ok (.iadd, 1) := by decide +kernel
theorem dX12_goOn_74 : decode cX12_goOn 74 = .ok (.putfield 326, 3) := by decide +kernel
theorem dX12_goOn_77 : decode cX12_goOn 77 = .ok (.aload_n 0, 1) := by decide +kernel
theorem dX12_goOn_78 : decode cX12_goOn 78 = .ok (.getfield 329, 3) := by decide +kernel
theorem dX12_goOn_81 : decode cX12_goOn 81 = .ok (.aload_n 0, 1) := by decide +kernel
theorem dX12_goOn_82 : decode cX12_goOn 82 = .ok (.getfield 260, 3) := by decide +kernel
theorem dX12_goOn_85 : decode cX12_goOn 85 = .ok (.if_icmp .lt 27, 3) := by decide +kernel
theorem dX12_goOn_88 : decode cX12_goOn 88 = .ok (.aload_n 0, 1) := by decide +kernel
theorem dX12_goOn_89 : decode cX12_goOn 89 = .ok (.iconst 0, 1) := by decide +kernel
theorem dX12_goOn_90 : decode cX12_goOn 90 = .ok (.putfield 336, 3) := by decide +kernel
theorem dX12_goOn_93 : decode cX12_goOn 93 = .ok (.aload_n 0, 1) := by decide +kernel
theorem dX12_goOn_94 : decode cX12_goOn 94 = .ok (.aload_n 0, 1) := by decide +kernel
theorem dX12_goOn_95 : decode cX12_goOn 95 = .ok (.getfield 260, 3) := by decide +kernel
theorem dX12_goOn_98 : decode cX12_goOn 98 = .ok (.putfield 329, 3) := by decide +kernel
theorem dX12_goOn_101 : decode cX12_goOn 101 = .ok (.aload_n 0, 1) := by decide +kernel
theorem dX12_goOn_102 : decode cX12_goOn 102 = .ok (.aload_n 0, 1) := by decide +kernel
theorem dX12_goOn_103 : decode cX12_goOn 103 = .ok (.getfield 260, 3) := by decide +kernel
theorem dX12_goOn_106 : decode cX12_goOn 106 = .ok (.putfield 326, 3) := by decide +kernel
theorem dX12_goOn_109 : decode cX12_goOn 109 = .ok (.goto 268, 3) := by decide +kernel
theorem dX12_goOn_112 : decode cX12_goOn 112 = .ok (.iload_n 1, 1) := by decide +kernel
theorem dX12_goOn_113 : decode cX12_goOn 113 = .ok (.invokestatic 339, 3) := by decide +kernel
theorem dX12_goOn_116 : decode cX12_goOn 116 = .ok (.ifCond .eq 123, 3) := by decide +kernel
theorem dX12_goOn_119 : decode cX12_goOn 119 = .ok (.aload_n 0, 1) := by decide +kernel
theorem dX12_goOn_120 : decode cX12_goOn 120 = .ok (.aload_n 0, 1) := by decide +kernel
theorem dX12_goOn_121 : decode cX12_goOn 121 = .ok (.getfield 326, 3) := by decide +kernel
theorem dX12_goOn_124 : decode cX12_goOn 124 = .ok (.invokevirtual 332, 3) := by decide +kernel
theorem dX12_goOn_127 : decode cX12_goOn 127 = .ok (.invokestatic 339, 3) := by decide +kernel
theorem dX12_goOn_130 : decode cX12_goOn 130 = .ok (.ifCond .eq 16, 3) := by decide +kernel
theorem dX12_goOn_133 : decode cX12_goOn 133 = .ok (.aload_n 0, 1) := by decide +kernel
theorem dX12_goOn_134 : decode cX12_goOn 134 = .ok (.dup, 1) := by decide +kernel
theorem dX12_goOn_135 : decode cX12_goOn 135 = .ok (.getfield 326, 3) := by decide +kernel
theorem dX12_goOn_138 : decode cX12_goOn 138 = .ok (.iconst 1, 1) := by decide +kernel
theorem dX12_goOn_139 : decode cX12_goOn 139 = .ok (.iadd, 1) := by decide +kernel
theorem dX12_goOn_140 : decode cX12_goOn 140 = .ok (.putfield 326, 3) := by decide +kernel
theorem dX12_goOn_143 : decode cX12_goOn 143 = .ok (.goto (-24), 3) := by decide +kernel
theorem dX12_goOn_146 : decode cX12_goOn 146 = .ok (.aload_n 0, 1) := by decide +kernel
theorem dX12_goOn_147 : decode cX12_goOn 147 = .ok (.lconst 0, 1) := by decide +kernel
theorem dX12_goOn_148 : decode cX12_goOn 148 = .ok (.putfield 343, 3) := by decide +kernel
theorem dX12_goOn_151 : decode cX12_goOn 151 = .ok (.aload_n 0, 1) := by decide +kernel
theorem dX12_goOn_152 : decode cX12_goOn 152 = .ok (.getfield 329, 3) := by decide +kernel
theorem dX12_goOn_155 : decode cX12_goOn 155 = .ok (.istore_n 2, 1) := by decide +kernel
theorem dX12_goOn_156 : decode cX12_goOn 156 = .ok (.iload_n 2, 1) := by decide +kernel
theorem dX12_goOn_157 : decode cX12_goOn 157 = .ok (.aload_n 0, 1) := by decide +kernel
theorem dX12_goOn_158 : decode cX12_goOn 158 = .ok (.getfield 326, 3) := by decide +kernel
theorem dX12_goOn_161 : decode cX12_goOn 161 = .ok (.if_icmp .ge 38, 3) := by decide +kernel
theorem dX12_goOn_164 : decode cX12_goOn 164 = .ok (.iload_n 2, 1) := by decide +kernel
theorem dX12_goOn_165 : decode cX12_goOn 165 = .ok (.aload_n 0, 1) := by decide +kernel
theorem dX12_goOn_166 : decode cX12_goOn 166 = .ok (.getfield 329, 3) := by decide +kernel
theorem dX12_goOn_169 : decode cX12_goOn 169 = .ok (.bipush 8, 2) := by decide +kernel
theorem dX12_goOn_171 : decode cX12_goOn 171 = .ok (.iadd, 1) := by decide +kernel
theorem dX12_goOn_172 : decode cX12_goOn 172 = .ok (.if_icmp .ge 27, 3) := by decide +kernel
theorem dX12_goOn_175 : decode cX12_goOn 175 = .ok (.aload_n 0, 1) := by decide +kernel
theorem dX12_goOn_176 : decode cX12_goOn 176 = .ok (.aload_n 0, 1) := by decide +kernel
theorem dX12_goOn_177 : decode cX12_goOn 177 = .ok (.getfield 343, 3) := by decide +kernel
theorem dX12_goOn_180 : decode cX12_goOn 180 = .ok (.bipush 8, 2) := by decide +kernel
theorem dX12_goOn_182 : decode cX12_goOn 182 = .ok (.lshl, 1) := by decide +kernel
theorem dX12_goOn_183 : decode cX12_goOn 183 = .ok (.aload_n 0, 1) := by decide +kernel
theorem dX12_goOn_184 : decode cX12_goOn 184 = .ok (.iload_n 2, 1) := by decide +kernel
theorem dX12_goOn_185 : decode cX12_goOn 185 = .ok (.invokevirtual 332, 3) := by decide +kernel
theorem dX12_goOn_188 : decode cX12_goOn 188 = .ok (.i2l, 1) := by decide +kernel
theorem dX12_goOn_189 : decode cX12_goOn 189 = .ok (.lor, 1) := by decide +kernel
theorem dX12_goOn_190 : decode cX12_goOn 190 = .ok (.putfield 343, 3) := by decide +kernel
theorem dX12_goOn_193 : decode cX12_goOn 193 = .ok (.iinc 2 1, 3) := by decide +kernel
theorem dX12_goOn_196 : decode cX12_goOn 196 = .ok (.goto (-40), 3) := by decide +kernel
theorem dX12_goOn_199 : decode cX12_goOn 199 = .ok (.aload_n 0, 1) := by decide +kernel
theorem dX12_goOn_200 : decode cX12_goOn 200 = .ok (.aload_n 0, 1) := by decide +kernel
theorem dX12_goOn_201 : decode cX12_goOn 201 = .ok (.getfield 326, 3) := by decide +kernel
theorem dX12_goOn_204 : decode cX12_goOn 204 = .ok (.aload_n 0, 1) := by decide +kernel
theorem dX12_goOn_205 : decode cX12_goOn 205 = .ok (.getfield 329, 3) := by decide +kernel
theorem dX12_goOn_208 : decode cX12_goOn 208 = .ok (.isub, 1) := by decide +kernel
theorem dX12_goOn_209 : decode cX12_goOn 209 = .ok (.bipush 8, 2) := by decide +kernel
theorem dX12_goOn_211 : decode cX12_goOn 211 = .ok (.if_icmp .le 7, 3) := by decide +kernel
theorem dX12_goOn_214 : decode cX12_goOn 214 = .ok (.iconst 1, 1) := by decide +kernel
theorem dX12_goOn_215 : decode cX12_goOn 215 = .ok (.goto 18, 3) := by decide +kernel
theorem dX12_goOn_218 : decode cX12_goOn 218 = .ok (.aload_n 0, 1) := by decide +kernel
theorem dX12_goOn_219 : decode cX12_goOn 219 = .ok (.getfield 343, 3) := by decide +kernel
theorem dX12_goOn_222 : decode cX12_goOn 222 = .ok (.invokestatic 347, 3) := by decide +kernel
theorem dX12_goOn_225 : decode cX12_goOn 225 = .ok (.ifCond .eq 7, 3) := by decide +kernel
theorem dX12_goOn_228 : decode cX12_goOn 228 = .ok (.iconst 3, 1) := by decide +kernel
theorem dX12_goOn_229 : decode cX12_goOn 229 = .ok (.goto 4, 3) := by decide +kernel
theorem dX12_goOn_232 : decode cX12_goOn 232 = .ok (.iconst 2, 1) := by decide +kernel
theorem dX12_goOn_233 : decode cX12_goOn 233 = .ok (.putfield 336, 3) := by decide +kernel
theorem dX12_goOn_236 : decode cX12_goOn 236 = .ok (.goto 141, 3) := by decide +kernel
theorem dX12_goOn_239 : decode cX12_goOn 239 = .ok (.iload_n 1, 1) := by decide +kernel
theorem dX12_goOn_240 : decode cX12_goOn 240 = .ok (.invokestatic 351, 3) := by decide +kernel
theorem dX12_goOn_243 : decode cX12_goOn 243 = .ok (.ifCond .eq 118, 3) := by decide +kernel
theorem dX12_goOn_246 : decode cX12_goOn 246 = .ok (.aload_n 0, 1) := by decide +kernel
theorem dX12_goOn_247 : decode cX12_goOn 247 = .ok (.iconst 0, 1) := by decide +kernel
theorem dX12_goOn_248 : decode cX12_goOn 248 = .ok (.putfield 354, 3) := by decide +kernel
theorem dX12_goOn_251 : decode cX12_goOn 251 = .ok (.aload_n 0, 1) := by decide +kernel
theorem dX12_goOn_252 : decode cX12_goOn 252 = .ok (.aload_n 0, 1) := by decide +kernel
theorem dX12_goOn_253 : decode cX12_goOn 253 = .ok (.getfield 329, 3) := by decide +kernel
theorem dX12_goOn_256 : decode cX12_goOn 256 = .ok (.putfield 326, 3) := by decide +kernel
theorem dX12_goOn_259 : decode cX12_goOn 259 = .ok (.aload_n 0, 1) := by decide +kernel
theorem dX12_goOn_260 : decode cX12_goOn 260 = .ok (.aload_n 0, 1) := by decide +kernel
theorem dX12_goOn_261 : decode cX12_goOn 261 = .ok (.getfield 326, 3) := by decide +kernel
theorem dX12_goOn_264 : decode cX12_goOn 264 = .ok (.invokevirtual 332, 3) := by decide +kernel
theorem dX12_goOn_267 : decode cX12_goOn 267 = .ok (.invokestatic 351, 3) := by decide +kernel
theorem dX12_goOn_270 : decode cX12_goOn 270 = .ok (.ifCond .eq 52, 3) := by decide +kernel
theorem dX12_goOn_273 : decode cX12_goOn 273 = .ok (.aload_n 0, 1) := by decide +kernel
theorem dX12_goOn_274 : decode cX12_goOn 274 = .ok (.getfield 326, 3) := by decide +kernel
theorem dX12_goOn_277 : decode cX12_goOn 277 = .ok (.aload_n 0, 1) := by decide +kernel
theorem dX12_goOn_278 : decode cX12_goOn 278 = .ok (.getfield 329, 3) := by decide +kernel
theorem dX12_goOn_281 : decode cX12_goOn 281 = .ok (.isub, 1) := by decide +kernel
theorem dX12_goOn_282 : decode cX12_goOn 282 = .ok (.iconst 4, 1) := by decide +kernel
theorem dX12_goOn_283 : decode cX12_goOn 283 = .ok (.if_icmp .ge 26, 3) := by decide +kernel
theorem dX12_goOn_286 : decode cX12_goOn 286 = .ok (.aload_n 0, 1) := by decide +kernel
theorem dX12_goOn_287 : decode cX12_goOn 287 = .ok (.bipush 10, 2) := by decide +kernel
theorem dX12_goOn_289 : decode cX12_goOn 289 = .ok (.aload_n 0, 1) := by decide +kernel
theorem dX12_goOn_290 : decode cX12_goOn 290 = .ok (.getfield 354, 3) := by decide +kernel
theorem dX12_goOn_293 : decode cX12_goOn 293 = .ok (.imul, 1) := by decide +kernel
theorem dX12_goOn_294 : decode cX12_goOn 294 = .ok (.aload_n 0, 1) := by decide +kernel
theorem dX12_goOn_295 : decode cX12_goOn 295 = .ok (.aload_n 0, 1) := by decide +kernel
theorem dX12_goOn_296 : decode cX12_goOn 296 = .ok (.getfield 326, 3) := by decide +kernel
theorem dX12_goOn_299 : decode cX12_goOn 299 = .ok (.invokevirtual 332, 3) := by decide +kernel
theorem dX12_goOn_302 : decode cX12_goOn 302 = .ok (.iadd, 1) := by decide +kernel
theorem dX12_goOn_303 : decode cX12_goOn 303 = .ok (.bipush 48, 2) := by decide +kernel
theorem dX12_goOn_305 : decode cX12_goOn 305 = .ok (.isub, 1) := by decide +kernel
theorem dX12_goOn_306 : decode cX12_goOn 306 = .ok (.putfield 354, 3) := by decide +kernel
theorem dX12_goOn_309 : decode cX12_goOn 309 = .ok (.aload_n 0, 1) := by decide +kernel
theorem dX12_goOn_310 : decode cX12_goOn 310 = .ok (.dup, 1) := by decide +kernel
theorem dX12_goOn_311 : decode cX12_goOn 311 = .ok (.getfield 326, 3) := by decide +kernel
theorem dX12_goOn_314 : decode cX12_goOn 314 = .ok (.iconst 1, 1) := by decide +kernel
theorem dX12_goOn_315 : decode cX12_goOn 315 = .ok (.iadd, 1) := by decide +kernel
theorem dX12_goOn_316 : decode cX12_goOn 316 = .ok (.putfield 326, 3) := by decide +kernel
theorem dX12_goOn_319 : decode cX12_goOn 319 = .ok (.goto (-60), 3) := by decide +kernel
theorem dX12_goOn_322 : decode cX12_goOn 322 = .ok (.aload_n 0, 1) := by decide +kernel
theorem dX12_goOn_323 : decode cX12_goOn 323 = .ok (.aload_n 0, 1) := by decide +kernel
theorem dX12_goOn_324 : decode cX12_goOn 324 = .ok (.getfield 326, 3) := by decide +kernel
theorem dX12_goOn_327 : decode cX12_goOn 327 = .ok (.aload_n 0, 1) := by decide +kernel
theorem dX12_goOn_328 : decode cX12_goOn 328 = .ok (.getfield 329, 3) := by decide +kernel
theorem dX12_goOn_331 : decode cX12_goOn 331 = .ok (.isub, 1) := by decide +kernel
theorem dX12_goOn_332 : decode cX12_goOn 332 = .ok (.iconst 4, 1) := by decide +kernel
theorem dX12_goOn_333 : decode cX12_goOn 333 = .ok (.if_icmp .gt 17, 3) := by decide +kernel
theorem dX12_goOn_336 : decode cX12_goOn 336 = .ok (.aload_n 0, 1) := by decide +kernel
theorem dX12_goOn_337 : decode cX12_goOn 337 = .ok (.aload_n 0, 1) := by decide +kernel
theorem dX12_goOn_338 : decode cX12_goOn 338 = .ok (.getfield 326, 3) := by decide +kernel
theorem dX12_goOn_341 : decode cX12_goOn 341 = .ok (.invokevirtual 332, 3) := by decide +kernel
theorem dX12_goOn_344 : decode cX12_goOn 344 = .ok (.invokestatic 339, 3) := by decide +kernel
theorem dX12_goOn_347 : decode cX12_goOn 347 = .ok (.ifCond .eq 7, 3) := by decide +kernel
theorem dX12_goOn_350 : decode cX12_goOn 350 = .ok (.iconst 1, 1) := by decide +kernel
theorem dX12_goOn_351 : decode cX12_goOn 351 = .ok (.goto 4, 3) := by decide +kernel
theorem dX12_goOn_354 : decode cX12_goOn 354 = .ok (.iconst 4, 1) := by decide +kernel
theorem dX12_goOn_355 : decode cX12_goOn 355 = .ok (.putfield 336, 3) := by decide +kernel
theorem dX12_goOn_358 : decode cX12_goOn 358 = .ok (.goto 19, 3) := by decide +kernel
theorem dX12_goOn_361 : decode cX12_goOn 361 = .ok (.aload_n 0, 1) := by decide +kernel
theorem dX12_goOn_362 : decode cX12_goOn 362 = .ok (.iload_n 1, 1) := by decide +kernel
theorem dX12_goOn_363 : decode cX12_goOn 363 = .ok (.invokestatic 357, 3) := by decide +kernel
theorem dX12_goOn_366 : decode cX12_goOn 366 = .ok (.ifCond .eq 7, 3) := by decide +kernel
theorem dX12_goOn_369 : decode cX12_goOn 369 = .ok (.iconst 5, 1) := by decide +kernel
theorem dX12_goOn_370 : decode cX12_goOn 370 = .ok (.goto 4, 3) := by decide +kernel
theorem dX12_goOn_373 : decode cX12_goOn 373 = .ok (.iconst 1, 1) := by decide +kernel
theorem dX12_goOn_374 : decode cX12_goOn 374 = .ok (.putfield 336, 3) := by decide +kernel
theorem dX12_goOn_377 : decode cX12_goOn 377 = .ok (.return_, 1) := by decide +kernel
theorem dX12_goes_0 : decode cX12_goes 0 = .ok (.aload_n 0, 1) := by decide +kernel
theorem dX12_goes_1 : decode cX12_goes 1 = .ok (.iload_n 1, 1) := by decide +kernel
theorem dX12_goes_2 : decode cX12_goes 2 = .ok (.invokevirtual 553, 3) := by decide +kernel
theorem dX12_goes_5 : decode cX12_goes 5 = .ok (.istore_n 2, 1) := by decide +kernel
theorem dX12_goes_6 : decode cX12_goes 6 = .ok (.aload_n 0, 1) := by decide +kernel
theorem dX12_goes_7 : decode cX12_goes 7 = .ok (.getfield 158, 3) := by decide +kernel
theorem dX12_goes_10 : decode cX12_goes 10 = .ok (.iload_n 1, 1) := by decide +kernel
theorem dX12_goes_11 : decode cX12_goes 11 = .ok (.baload, 1) := by decide +kernel
theorem dX12_goes_12 : decode cX12_goes 12 = .ok (.ifCond .eq 9, 3) := by decide +kernel
theorem dX12_goes_15 : decode cX12_goes 15 = .ok (.aload_n 0, 1) := by decide +kernel
theorem dX12_goes_16 : decode cX12_goes 16 = .ok (.iload_n 1, 1) := by decide +kernel
theorem dX12_goes_17 : decode cX12_goes 17 = .ok (.iload_n 2, 1) := by decide +kernel
theorem dX12_goes_18 : decode cX12_goes 18 = .ok (.invokevirtual 575, 3) := by decide +kernel
theorem dX12_goes_21 : decode cX12_goes 21 = .ok (.aload_n 0, 1) := by decide +kernel
theorem dX12_goes_22 : decode cX12_goes 22 = .ok (.getfield 143, 3) := by decide +kernel
theorem dX12_goes_25 : decode cX12_goes 25 = .ok (.iload_n 1, 1) := by decide +kernel
theorem dX12_goes_26 : decode cX12_goes 26 = .ok (.iaload, 1) := by decide +kernel
theorem dX12_goes_27 : decode cX12_goes 27 = .ok (.iconst 2, 1) := by decide +kernel
theorem dX12_goes_28 : decode cX12_goes 28 = .ok (.if_icmp .ne 12, 3) := by decide +kernel
theorem dX12_goes_31 : decode cX12_goes 31 = .ok (.aload_n 0, 1) := by decide +kernel
theorem dX12_goes_32 : decode cX12_goes 32 = .ok (.iload_n 1, 1) := by decide +kernel
theorem dX12_goes_33 : decode cX12_goes 33 = .ok (.iload_n 2, 1) := by decide +kernel
theorem dX12_goes_34 : decode cX12_goes 34 = .ok (.invokevirtual 578, 3) := by decide +kernel
theorem dX12_goes_37 : decode cX12_goes 37 = .ok (.goto 18, 3) := by decide +kernel
theorem dX12_goes_40 : decode cX12_goes 40 = .ok (.aload_n 0, 1) := by decide +kernel
theorem dX12_goes_41 : decode cX12_goes 41 = .ok (.getfield 143, 3) := by decide +kernel
theorem dX12_goes_44 : decode cX12_goes 44 = .ok (.iload_n 1, 1) := by decide +kernel
theorem dX12_goes_45 : decode cX12_goes 45 = .ok (.iaload, 1) := by decide +kernel
theorem dX12_goes_46 : decode cX12_goes 46 = .ok (.ifCond .ne 9, 3) := by decide +kernel
theorem dX12_goes_49 : decode cX12_goes 49 = .ok (.aload_n 0, 1) := by decide +kernel
theorem dX12_goes_50 : decode cX12_goes 50 = .ok (.iload_n 1, 1) := by decide +kernel
theorem dX12_goes_51 : decode cX12_goes 51 = .ok (.iload_n 2, 1) := by decide +kernel
theorem dX12_goes_52 : decode cX12_goes 52 = .ok (.invokevirtual 581, 3) := by decide +kernel
theorem dX12_goes_55 : decode cX12_goes 55 = .ok (.aload_n 0, 1) := by decide +kernel
theorem dX12_goes_56 : decode cX12_goes 56 = .ok (.getfield 143, 3) := by decide +kernel
theorem dX12_goes_59 : decode cX12_goes 59 = .ok (.iload_n 1, 1) := by decide +kernel
theorem dX12_goes_60 : decode cX12_goes 60 = .ok (.iaload, 1) := by decide +kernel
theorem dX12_goes_61 : decode cX12_goes 61 = .ok (.iconst 1, 1) := by decide +kernel
theorem dX12_goes_62 : decode cX12_goes 62 = .ok (.if_icmp .ne 20, 3) := by decide +kernel
theorem dX12_goes_65 : decode cX12_goes 65 = .ok (.aload_n 0, 1) := by decide +kernel
theorem dX12_goes_66 : decode cX12_goes 66 = .ok (.getfield 140, 3) := by decide +kernel
theorem dX12_goes_69 : decode cX12_goes 69 = .ok (.iload_n 1, 1) := by decide +kernel
theorem dX12_goes_70 : decode cX12_goes 70 = .ok (.aload_n 0, 1) := by decide +kernel
theorem dX12_goes_71 : decode cX12_goes 71 = .ok (.aload_n 0, 1) := by decide +kernel
theorem dX12_goes_72 : decode cX12_goes 72 = .ok (.getfield 140, 3) := by decide +kernel
theorem dX12_goes_75 : decode cX12_goes 75 = .ok (.iload_n 1, 1) := by decide +kernel
theorem dX12_goes_76 : decode cX12_goes 76 = .ok (.iaload, 1) := by decide +kernel
theorem dX12_goes_77 : decode cX12_goes 77 = .ok (.iload_n 2, 1) := by decide +kernel
theorem dX12_goes_78 : decode cX12_goes 78 = .ok (.invokevirtual 584, 3) := by decide +kernel
theorem dX12_goes_81 : decode cX12_goes 81 = .ok (.iastore, 1) := by decide +kernel
theorem dX12_goes_82 : decode cX12_goes 82 = .ok (.aload_n 0, 1) := by decide +kernel
theorem dX12_goes_83 : decode cX12_goes 83 = .ok (.iload_n 1, 1) := by decide +kernel
theorem dX12_goes_84 : decode cX12_goes 84 = .ok (.iload_n 2, 1) := by decide +kernel
theorem dX12_goes_85 : decode cX12_goes 85 = .ok (.invokevirtual 587, 3) := by decide +kernel
theorem dX12_goes_88 : decode cX12_goes 88 = .ok (.aload_n 0, 1) := by decide +kernel
theorem dX12_goes_89 : decode cX12_goes 89 = .ok (.getfield 137, 3) := by decide +kernel
theorem dX12_goes_92 : decode cX12_goes 92 = .ok (.iload_n 1, 1) := by decide +kernel
theorem dX12_goes_93 : decode cX12_goes 93 = .ok (.dup2, 1) := by decide +kernel
theorem dX12_goes_94 : decode cX12_goes 94 = .ok (.iaload, 1) := by decide +kernel
theorem dX12_goes_95 : decode cX12_goes 95 = .ok (.aload_n 0, 1) := by decide +kernel
theorem dX12_goes_96 : decode cX12_goes 96 = .ok (.getfield 140, 3) := by decide +kernel
theorem dX12_goes_99 : decode cX12_goes 99 = .ok (.iload_n 1, 1) := by decide +kernel
theorem dX12_goes_100 : decode cX12_goes 100 = .ok (.iaload, 1) := by decide +kernel
theorem dX12_goes_101 : decode cX12_goes 101 = .ok (.iadd, 1) := by decide +kernel
theorem dX12_goes_102 : decode cX12_goes 102 = .ok (.iastore, 1) := by decide +kernel
theorem dX12_goes_103 : decode cX12_goes 103 = .ok (.aload_n 0, 1) := by decide +kernel
theorem dX12_goes_104 : decode cX12_goes 104 = .ok (.getfield 137, 3) := by decide +kernel
theorem dX12_goes_107 : decode cX12_goes 107 = .ok (.iload_n 1, 1) := by decide +kernel
theorem dX12_goes_108 : decode cX12_goes 108 = .ok (.iaload, 1) := by decide +kernel
theorem dX12_goes_109 : decode cX12_goes 109 = .ok (.ifCond .ge 17, 3) := by decide +kernel
theorem dX12_goes_112 : decode cX12_goes 112 = .ok (.aload_n 0, 1) := by decide +kernel
theorem dX12_goes_113 : decode cX12_goes 113 = .ok (.getfield 137, 3) := by decide +kernel
theorem dX12_goes_116 : decode cX12_goes 116 = .ok (.iload_n 1, 1) := by decide +kernel
theorem dX12_goes_117 : decode cX12_goes 117 = .ok (.iconst 0, 1) := by decide +kernel
theorem dX12_goes_118 : decode cX12_goes 118 = .ok (.iastore, 1) := by decide +kernel
theorem dX12_goes_119 : decode cX12_goes 119 = .ok (.aload_n 0, 1) := by decide +kernel
theorem dX12_goes_120 : decode cX12_goes 120 = .ok (.getfield 140, 3) := by decide +kernel
theorem dX12_goes_123 : decode cX12_goes 123 = .ok (.iload_n 1, 1) := by decide +kernel
theorem dX12_goes_124 : decode cX12_goes 124 = .ok (.iconst 0, 1) := by decide +kernel
theorem dX12_goes_125 : decode cX12_goes 125 = .ok (.iastore, 1) := by decide +kernel
theorem dX12_goes_126 : decode cX12_goes 126 = .ok (.aload_n 0, 1) := by decide +kernel
theorem dX12_goes_127 : decode cX12_goes 127 = .ok (.getfield 137, 3) := by decide +kernel
theorem dX12_goes_130 : decode cX12_goes 130 = .ok (.iload_n 1, 1) := by decide +kernel
theorem dX12_goes_131 : decode cX12_goes 131 = .ok (.iaload, 1) := by decide +kernel
theorem dX12_goes_132 : decode cX12_goes 132 = .ok (.sipush 600, 3) := by decide +kernel
theorem dX12_goes_135 : decode cX12_goes 135 = .ok (.if_icmp .lt 38, 3) := by decide +kernel
theorem dX12_goes_138 : decode cX12_goes 138 = .ok (.aload_n 0, 1) := by decide +kernel
theorem dX12_goes_139 : decode cX12_goes 139 = .ok (.getfield 137, 3) := by decide +kernel
theorem dX12_goes_142 : decode cX12_goes 142 = .ok (.iload_n 1, 1) := by decide +kernel
theorem dX12_goes_143 : decode cX12_goes 143 = .ok (.sipush 599, 3) := by decide +kernel
theorem dX12_goes_146 : decode cX12_goes 146 = .ok (.iastore, 1) := by decide +kernel
theorem dX12_goes_147 : decode cX12_goes 147 = .ok (.aload_n 0, 1) := by decide +kernel
theorem dX12_goes_148 : decode cX12_goes 148 = .ok (.getfield 140, 3) := by decide +kernel
theorem dX12_goes_151 : decode cX12_goes 151 = .ok (.iload_n 1, 1) := by decide +kernel
theorem dX12_goes_152 : decode cX12_goes 152 = .ok (.iconst 0, 1) := by decide +kernel
theorem dX12_goes_153 : decode cX12_goes 153 = .ok (.iastore, 1) := by decide +kernel
theorem dX12_goes_154 : decode cX12_goes 154 = .ok (.aload_n 0, 1) := by decide +kernel
theorem dX12_goes_155 : decode cX12_goes 155 = .ok (.getfield 143, 3) := by decide +kernel
theorem dX12_goes_158 : decode cX12_goes 158 = .ok (.iload_n 1, 1) := by decide +kernel
theorem dX12_goes_159 : decode cX12_goes 159 = .ok (.iconst 3, 1) := by decide +kernel
theorem dX12_goes_160 : decode cX12_goes 160 = .ok (.iastore, 1) := by decide +kernel
theorem dX12_goes_161 : decode cX12_goes 161 = .ok (.aload_n 0, 1) := by decide +kernel
theorem dX12_goes_162 : decode cX12_goes 162 = .ok (.getfield 164, 3) := by decide +kernel
theorem dX12_goes_165 : decode cX12_goes 165 = .ok (.iload_n 1, 1) := by decide +kernel
theorem dX12_goes_166 : decode cX12_goes 166 = .ok (.aload_n 0, 1) := by decide +kernel
theorem dX12_goes_167 : decode cX12_goes 167 = .ok (.getfield 483, 3) := by decide +kernel
theorem dX12_goes_170 : decode cX12_goes 170 = .ok (.iconst 1, 1) := by decide +kernel
theorem dX12_goes_171 : decode cX12_goes 171 = .ok (.iadd, 1) := by decide +kernel
theorem dX12_goes_172 : decode cX12_goes 172 = .ok (.iastore, 1) := by decide +kernel
theorem dX12_goes_173 : decode cX12_goes 173 = .ok (.aload_n 0, 1) := by decide +kernel
theorem dX12_goes_174 : decode cX12_goes 174 = .ok (.getfield 158, 3) := by decide +kernel
theorem dX12_goes_177 : decode cX12_goes 177 = .ok (.iload_n 1, 1) := by decide +kernel
theorem dX12_goes_178 : decode cX12_goes 178 = .ok (.aload_n 0, 1) := by decide +kernel
theorem dX12_goes_179 : decode cX12_goes 179 = .ok (.iload_n 1, 1) := by decide +kernel
theorem dX12_goes_180 : decode cX12_goes 180 = .ok (.invokevirtual 553, 3) := by decide +kernel
theorem dX12_goes_183 : decode cX12_goes 183 = .ok (.iload_n 2, 1) := by decide +kernel
theorem dX12_goes_184 : decode cX12_goes 184 = .ok (.if_icmp .eq 7, 3) := by decide +kernel
theorem dX12_goes_187 : decode cX12_goes 187 = .ok (.iconst 1, 1) := by decide +kernel
theorem dX12_goes_188 : decode cX12_goes 188 = .ok (.goto 4, 3) := by decide +kernel
theorem dX12_goes_191 : decode cX12_goes 191 = .ok (.iconst 0, 1) := by decide +kernel
theorem dX12_goes_192 : decode cX12_goes 192 = .ok (.bastore, 1) := by decide +kernel
theorem dX12_goes_193 : decode cX12_goes 193 = .ok (.return_, 1) := by decide +kernel
theorem dX12_going_0 : decode cX12_going 0 = .ok (.iconst 0, 1) := by decide +kernel
theorem dX12_going_1 : decode cX12_going 1 = .ok (.istore_n 1, 1) := by decide +kernel
theorem dX12_going_2 : decode cX12_going 2 = .ok (.iconst 0, 1) := by decide +kernel
theorem dX12_going_3 : decode cX12_going 3 = .ok (.istore_n 2, 1) := by decide +kernel
theorem dX12_going_4 : decode cX12_going 4 = .ok (.iload_n 2, 1) := by decide +kernel
theorem dX12_going_5 : decode cX12_going 5 = .ok (.aload_n 0, 1) := by decide +kernel
theorem dX12_going_6 : decode cX12_going 6 = .ok (.invokevirtual 477, 3) := by decide +kernel
theorem dX12_going_9 : decode cX12_going 9 = .ok (.if_icmp .ge 27, 3) := by decide +kernel
theorem dX12_going_12 : decode cX12_going 12 = .ok (.iload_n 1, 1) := by decide +kernel
theorem dX12_going_13 : decode cX12_going 13 = .ok (.aload_n 0, 1) := by decide +kernel
theorem dX12_going_14 : decode cX12_going 14 = .ok (.getfield 143, 3) := by decide +kernel
theorem dX12_going_17 : decode cX12_going 17 = .ok (.iload_n 2, 1) := by decide +kernel
theorem dX12_going_18 : decode cX12_going 18 = .ok (.iaload, 1) := by decide +kernel
theorem dX12_going_19 : decode cX12_going 19 = .ok (.iconst 3, 1) := by decide +kernel
theorem dX12_going_20 : decode cX12_going 20 = .ok (.if_icmp .eq 7, 3) := by decide +kernel
theorem dX12_going_23 : decode cX12_going 23 = .ok (.iconst 1, 1) := by decide +kernel
theorem dX12_going_24 : decode cX12_going 24 = .ok (.goto 4, 3) := by decide +kernel
theorem dX12_going_27 : decode cX12_going 27 = .ok (.iconst 0, 1) := by decide +kernel
theorem dX12_going_28 : decode cX12_going 28 = .ok (.iadd, 1) := by decide +kernel
theorem dX12_going_29 : decode cX12_going 29 = .ok (.istore_n 1, 1) := by decide +kernel
theorem dX12_going_30 : decode cX12_going 30 = .ok (.iinc 2 1, 3) := by decide +kernel
theorem dX12_going_33 : decode cX12_going 33 = .ok (.goto (-29), 3) := by decide +kernel
theorem dX12_going_36 : decode cX12_going 36 = .ok (.iload_n 1, 1) := by decide +kernel
theorem dX12_going_37 : decode cX12_going 37 = .ok (.ireturn, 1) := by decide +kernel
theorem dX12_gradeAt_0 : decode cX12_gradeAt 0 = .ok (.aload_n 0, 1) := by decide +kernel
theorem dX12_gradeAt_1 : decode cX12_gradeAt 1 = .ok (.getfield 74, 3) := by decide +kernel
theorem dX12_gradeAt_4 : decode cX12_gradeAt 4 = .ok (.bipush 60, 2) := by decide +kernel
theorem dX12_gradeAt_6 : decode cX12_gradeAt 6 = .ok (.aload_n 0, 1) := by decide +kernel
theorem dX12_gradeAt_7 : decode cX12_gradeAt 7 = .ok (.getfield 386, 3) := by decide +kernel
theorem dX12_gradeAt_10 : decode cX12_gradeAt 10 = .ok (.imul, 1) := by decide +kernel
theorem dX12_gradeAt_11 : decode cX12_gradeAt 11 = .ok (.iload_n 1, 1) := by decide +kernel
theorem dX12_gradeAt_12 : decode cX12_gradeAt 12 = .ok (.iadd, 1) := by decide +kernel
theorem dX12_gradeAt_13 : decode cX12_gradeAt 13 = .ok (.iaload, 1) := by decide +kernel
theorem dX12_gradeAt_14 : decode cX12_gradeAt 14 = .ok (.ireturn, 1) := by decide +kernel
theorem dX12_grippers_0 : decode cX12_grippers 0 = .ok (.iconst 0, 1) := by decide +kernel
theorem dX12_grippers_1 : decode cX12_grippers 1 = .ok (.istore_n 2, 1) := by decide +kernel
theorem dX12_grippers_2 : decode cX12_grippers 2 = .ok (.iconst 0, 1) := by decide +kernel
theorem dX12_grippers_3 : decode cX12_grippers 3 = .ok (.istore_n 3, 1) := by decide +kernel
theorem dX12_grippers_4 : decode cX12_grippers 4 = .ok (.iload_n 3, 1) := by decide +kernel
theorem dX12_grippers_5 : decode cX12_grippers 5 = .ok (.aload_n 0, 1) := by decide +kernel
theorem dX12_grippers_6 : decode cX12_grippers 6 = .ok (.invokevirtual 477, 3) := by decide +kernel
theorem dX12_grippers_9 : decode cX12_grippers 9 = .ok (.if_icmp .ge 39, 3) := by decide +kernel
theorem dX12_grippers_12 : decode cX12_grippers 12 = .ok (.iload_n 1, 1) := by decide +kernel
theorem dX12_grippers_13 : decode cX12_grippers 13 = .ok (.ifCond .lt 35, 3) := by decide +kernel
theorem dX12_grippers_16 : decode cX12_grippers 16 = .ok (.iload_n 2, 1) := by decide +kernel
theorem dX12_grippers_17 : decode cX12_grippers 17 = .ok (.aload_n 0, 1) := by decide +kernel
theorem dX12_grippers_18 : decode cX12_grippers 18 = .ok (.getfield 143, 3) := by decide +kernel
theorem dX12_grippers_21 : decode cX12_grippers 21 = .ok (.iload_n 3, 1) := by decide +kernel
theorem dX12_grippers_22 : decode cX12_grippers 22 = .ok (.iaload, 1) := by decide +kernel
theorem dX12_grippers_23 : decode cX12_grippers 23 = .ok (.ifCond .ne 16, 3) := by decide +kernel
theorem dX12_grippers_26 : decode cX12_grippers 26 = .ok (.aload_n 0, 1) := by decide +kernel
theorem dX12_grippers_27 : decode cX12_grippers 27 = .ok (.iload_n 3, 1) := by decide +kernel
theorem dX12_grippers_28 : decode cX12_grippers 28 = .ok (.invokevirtual 553, 3) := by decide +kernel
theorem dX12_grippers_31 : decode cX12_grippers 31 = .ok (.iload_n 1, 1) := by decide +kernel
theorem dX12_grippers_32 : decode cX12_grippers 32 = .ok (.if_icmp .ne 7, 3) := by decide +kernel
theorem dX12_grippers_35 : decode cX12_grippers 35 = .ok (.iconst 1, 1) := by decide +kernel
theorem dX12_grippers_36 : decode cX12_grippers 36 = .ok (.goto 4, 3) := by decide +kernel
theorem dX12_grippers_39 : decode cX12_grippers 39 = .ok (.iconst 0, 1) := by decide +kernel
theorem dX12_grippers_40 : decode cX12_grippers 40 = .ok (.iadd, 1) := by decide +kernel
theorem dX12_grippers_41 : decode cX12_grippers 41 = .ok (.istore_n 2, 1) := by decide +kernel
theorem dX12_grippers_42 : decode cX12_grippers 42 = .ok (.iinc 3 1, 3) := by decide +kernel
theorem dX12_grippers_45 : decode cX12_grippers 45 = .ok (.goto (-41), 3) := by decide +kernel
theorem dX12_grippers_48 : decode cX12_grippers 48 = .ok (.iload_n 2, 1) := by decide +kernel
theorem dX12_grippers_49 : decode cX12_grippers 49 = .ok (.ireturn, 1) := by decide +kernel
theorem dX12_gripsOn_0 : decode cX12_gripsOn 0 = .ok (.aload_n 0, 1) := by decide +kernel
theorem dX12_gripsOn_1 : decode cX12_gripsOn 1 = .ok (.iload_n 2, 1) := by decide +kernel
theorem dX12_gripsOn_2 : decode cX12_gripsOn 2 = .ok (.invokevirtual 556, 3) := by decide +kernel
theorem dX12_gripsOn_5 : decode cX12_gripsOn 5 = .ok (.istore_n 3, 1) := by decide +kernel
theorem dX12_gripsOn_6 : decode cX12_gripsOn 6 = .ok (.iload_n 3, 1) := by decide +kernel
theorem dX12_gripsOn_7 : decode cX12_gripsOn 7 = .ok (.ifCond .lt 84, 3) := by decide +kernel
theorem dX12_gripsOn_10 : decode cX12_gripsOn 10 = .ok (.aload_n 0, 1) := by decide +kernel
theorem dX12_gripsOn_11 : decode cX12_gripsOn 11 = .ok (.getfield 161, 3) := by decide +kernel
theorem dX12_gripsOn_14 : decode cX12_gripsOn 14 = .ok (.iload_n 3, 1) := by decide +kernel
theorem dX12_gripsOn_15 : decode cX12_gripsOn 15 = .ok (.baload, 1) := by decide +kernel
theorem dX12_gripsOn_16 : decode cX12_gripsOn 16 = .ok (.ifCond .ne 75, 3) := by decide +kernel
theorem dX12_gripsOn_19 : decode cX12_gripsOn 19 = .ok (.aload_n 0, 1) := by decide +kernel
theorem dX12_gripsOn_20 : decode cX12_gripsOn 20 = .ok (.getfield 149, 3) := by decide +kernel
theorem dX12_gripsOn_23 : decode cX12_gripsOn 23 = .ok (.iload_n 1, 1) := by decide +kernel
theorem dX12_gripsOn_24 : decode cX12_gripsOn 24 = .ok (.iload_n 3, 1) := by decide +kernel
theorem dX12_gripsOn_25 : decode cX12_gripsOn 25 = .ok (.iastore, 1) := by decide +kernel
theorem dX12_gripsOn_26 : decode cX12_gripsOn 26 = .ok (.aload_n 0, 1) := by decide +kernel
theorem dX12_gripsOn_27 : decode cX12_gripsOn 27 = .ok (.getfield 140, 3) := by decide +kernel
theorem dX12_gripsOn_30 : decode cX12_gripsOn 30 = .ok (.iload_n 1, 1) := by decide +kernel
theorem dX12_gripsOn_31 : decode cX12_gripsOn 31 = .ok (.aload_n 0, 1) := by decide +kernel
theorem dX12_gripsOn_32 : decode cX12_gripsOn 32 = .ok (.getfield 140, 3) := by decide +kernel
theorem dX12_gripsOn_35 : decode cX12_gripsOn 35 = .ok (.iload_n 1, 1) := by decide +kernel
theorem dX12_gripsOn_36 : decode cX12_gripsOn 36 = .ok (.iaload, 1) := by decide +kernel
theorem dX12_gripsOn_37 : decode cX12_gripsOn 37 = .ok (.aload_n 0, 1) := by decide +kernel
theorem dX12_gripsOn_38 : decode cX12_gripsOn 38 = .ok (.getfield 152, 3) := by decide +kernel
theorem dX12_gripsOn_41 : decode cX12_gripsOn 41 = .ok (.iload_n 3, 1) := by decide +kernel
theorem dX12_gripsOn_42 : decode cX12_gripsOn 42 = .ok (.iaload, 1) := by decide +kernel
theorem dX12_gripsOn_43 : decode cX12_gripsOn 43 = .ok (.if_icmp .ge 40, 3) := by decide +kernel
theorem dX12_gripsOn_46 : decode cX12_gripsOn 46 = .ok (.aload_n 0, 1) := by decide +kernel
theorem dX12_gripsOn_47 : decode cX12_gripsOn 47 = .ok (.getfield 140, 3) := by decide +kernel
theorem dX12_gripsOn_50 : decode cX12_gripsOn 50 = .ok (.iload_n 1, 1) := by decide +kernel
theorem dX12_gripsOn_51 : decode cX12_gripsOn 51 = .ok (.iaload, 1) := by decide +kernel
theorem dX12_gripsOn_52 : decode cX12_gripsOn 52 = .ok (.iconst 2, 1) := by decide +kernel
theorem dX12_gripsOn_53 : decode cX12_gripsOn 53 = .ok (.iadd, 1) := by decide +kernel
theorem dX12_gripsOn_54 : decode cX12_gripsOn 54 = .ok (.aload_n 0, 1) := by decide +kernel
theorem dX12_gripsOn_55 : decode cX12_gripsOn 55 = .ok (.getfield 152, 3) := by decide +kernel
theorem dX12_gripsOn_58 : decode cX12_gripsOn 58 = .ok (.iload_n 3, 1) := by decide +kernel
