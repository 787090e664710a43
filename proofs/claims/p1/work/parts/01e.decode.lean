theorem dX12_need_8 : decode cX12_need 8 = .ok (.ireturn, 1) := by decide +kernel
theorem dX12_need_9 : decode cX12_need 9 = .ok (.iconst 1, 1) := by decide +kernel
theorem dX12_need_10 : decode cX12_need 10 = .ok (.istore_n 2, 1) := by decide +kernel
theorem dX12_need_11 : decode cX12_need 11 = .ok (.iload_n 2, 1) := by decide +kernel
theorem dX12_need_12 : decode cX12_need 12 = .ok (.bipush 60, 2) := by decide +kernel
theorem dX12_need_14 : decode cX12_need 14 = .ok (.if_icmp .gt 24, 3) := by decide +kernel
theorem dX12_need_17 : decode cX12_need 17 = .ok (.aload_n 0, 1) := by decide +kernel
theorem dX12_need_18 : decode cX12_need 18 = .ok (.iload_n 1, 1) := by decide +kernel
theorem dX12_need_19 : decode cX12_need 19 = .ok (.iload_n 2, 1) := by decide +kernel
theorem dX12_need_20 : decode cX12_need 20 = .ok (.invokevirtual 666, 3) := by decide +kernel
theorem dX12_need_23 : decode cX12_need 23 = .ok (.aload_n 0, 1) := by decide +kernel
theorem dX12_need_24 : decode cX12_need 24 = .ok (.getfield 656, 3) := by decide +kernel
theorem dX12_need_27 : decode cX12_need 27 = .ok (.ifCond .eq 5, 3) := by decide +kernel
theorem dX12_need_32 : decode cX12_need 32 = .ok (.iinc 2 1, 3) := by decide +kernel
theorem dX12_need_35 : decode cX12_need 35 = .ok (.goto (-24), 3) := by decide +kernel
theorem dX12_need_38 : decode cX12_need 38 = .ok (.iconst (-1), 1) := by decide +kernel
theorem dX12_need_39 : decode cX12_need 39 = .ok (.ireturn, 1) := by decide +kernel
theorem dX12_order_0 : decode cX12_order 0 = .ok (.iconst 0, 1) := by decide +kernel
theorem dX12_order_1 : decode cX12_order 1 = .ok (.istore_n 2, 1) := by decide +kernel
theorem dX12_order_2 : decode cX12_order 2 = .ok (.iload_n 2, 1) := by decide +kernel
theorem dX12_order_3 : decode cX12_order 3 = .ok (.aload_n 0, 1) := by decide +kernel
theorem dX12_order_4 : decode cX12_order 4 = .ok (.invokevirtual 477, 3) := by decide +kernel
theorem dX12_order_7 : decode cX12_order 7 = .ok (.if_icmp .ge 131, 3) := by decide +kernel
theorem dX12_order_138 : decode cX12_order 138 = .ok (.iconst (-1), 1) := by decide +kernel
theorem dX12_order_139 : decode cX12_order 139 = .ok (.ireturn, 1) := by decide +kernel
theorem dX12_power_0 : decode cX12_power 0 = .ok (.iload_n 1, 1) := by decide +kernel
theorem dX12_power_1 : decode cX12_power 1 = .ok (.iconst 1, 1) := by decide +kernel
theorem dX12_power_2 : decode cX12_power 2 = .ok (.sipush 300, 3) := by decide +kernel
theorem dX12_power_5 : decode cX12_power 5 = .ok (.invokestatic 503, 3) := by decide +kernel
theorem dX12_power_8 : decode cX12_power 8 = .ok (.ifCond .eq 12, 3) := by decide +kernel
theorem dX12_power_11 : decode cX12_power 11 = .ok (.iload_n 2, 1) := by decide +kernel
theorem dX12_power_12 : decode cX12_power 12 = .ok (.iconst 0, 1) := by decide +kernel
theorem dX12_power_13 : decode cX12_power 13 = .ok (.iconst 1, 1) := by decide +kernel
theorem dX12_power_14 : decode cX12_power 14 = .ok (.invokestatic 503, 3) := by decide +kernel
theorem dX12_power_17 : decode cX12_power 17 = .ok (.ifCond .ne 5, 3) := by decide +kernel
theorem dX12_power_20 : decode cX12_power 20 = .ok (.iconst (-1), 1) := by decide +kernel
theorem dX12_power_21 : decode cX12_power 21 = .ok (.ireturn, 1) := by decide +kernel
theorem dX12_power_22 : decode cX12_power 22 = .ok (.aload_n 0, 1) := by decide +kernel
theorem dX12_power_23 : decode cX12_power 23 = .ok (.iconst 3, 1) := by decide +kernel
theorem dX12_power_24 : decode cX12_power 24 = .ok (.invokevirtual 638, 3) := by decide +kernel
theorem dX12_power_27 : decode cX12_power 27 = .ok (.iconst 0, 1) := by decide +kernel
theorem dX12_power_28 : decode cX12_power 28 = .ok (.istore_n 3, 1) := by decide +kernel
theorem dX12_power_29 : decode cX12_power 29 = .ok (.iconst 0, 1) := by decide +kernel
theorem dX12_power_30 : decode cX12_power 30 = .ok (.istore 4, 2) := by decide +kernel
theorem dX12_power_32 : decode cX12_power 32 = .ok (.iconst 0, 1) := by decide +kernel
theorem dX12_power_33 : decode cX12_power 33 = .ok (.istore 5, 2) := by decide +kernel
theorem dX12_power_35 : decode cX12_power 35 = .ok (.iload 5, 2) := by decide +kernel
theorem dX12_power_37 : decode cX12_power 37 = .ok (.iload_n 1, 1) := by decide +kernel
theorem dX12_power_38 : decode cX12_power 38 = .ok (.if_icmp .ge 85, 3) := by decide +kernel
theorem dX12_power_41 : decode cX12_power 41 = .ok (.iconst 0, 1) := by decide +kernel
theorem dX12_power_42 : decode cX12_power 42 = .ok (.istore 6, 2) := by decide +kernel
theorem dX12_power_44 : decode cX12_power 44 = .ok (.iconst 0, 1) := by decide +kernel
theorem dX12_power_45 : decode cX12_power 45 = .ok (.istore 7, 2) := by decide +kernel
theorem dX12_power_47 : decode cX12_power 47 = .ok (.iload 7, 2) := by decide +kernel
theorem dX12_power_49 : decode cX12_power 49 = .ok (.aload_n 0, 1) := by decide +kernel
theorem dX12_power_50 : decode cX12_power 50 = .ok (.getfield 20, 3) := by decide +kernel
theorem dX12_power_53 : decode cX12_power 53 = .ok (.aload_n 0, 1) := by decide +kernel
theorem dX12_power_54 : decode cX12_power 54 = .ok (.getfield 386, 3) := by decide +kernel
theorem dX12_power_57 : decode cX12_power 57 = .ok (.iaload, 1) := by decide +kernel
theorem dX12_power_58 : decode cX12_power 58 = .ok (.if_icmp .ge 34, 3) := by decide +kernel
theorem dX12_power_92 : decode cX12_power 92 = .ok (.iload_n 3, 1) := by decide +kernel
theorem dX12_power_93 : decode cX12_power 93 = .ok (.iload 6, 2) := by decide +kernel
theorem dX12_power_95 : decode cX12_power 95 = .ok (.iadd, 1) := by decide +kernel
theorem dX12_power_96 : decode cX12_power 96 = .ok (.istore_n 3, 1) := by decide +kernel
theorem dX12_power_97 : decode cX12_power 97 = .ok (.iload 6, 2) := by decide +kernel
theorem dX12_power_99 : decode cX12_power 99 = .ok (.iload 4, 2) := by decide +kernel
theorem dX12_power_101 : decode cX12_power 101 = .ok (.if_icmp .le 8, 3) := by decide +kernel
theorem dX12_power_109 : decode cX12_power 109 = .ok (.iload 4, 2) := by decide +kernel
theorem dX12_power_111 : decode cX12_power 111 = .ok (.istore 4, 2) := by decide +kernel
theorem dX12_power_113 : decode cX12_power 113 = .ok (.aload_n 0, 1) := by decide +kernel
theorem dX12_power_114 : decode cX12_power 114 = .ok (.invokevirtual 622, 3) := by decide +kernel
theorem dX12_power_117 : decode cX12_power 117 = .ok (.iinc 5 1, 3) := by decide +kernel
theorem dX12_power_120 : decode cX12_power 120 = .ok (.goto (-85), 3) := by decide +kernel
theorem dX12_power_123 : decode cX12_power 123 = .ok (.aload_n 0, 1) := by decide +kernel
theorem dX12_power_124 : decode cX12_power 124 = .ok (.iconst 3, 1) := by decide +kernel
theorem dX12_power_125 : decode cX12_power 125 = .ok (.invokevirtual 644, 3) := by decide +kernel
theorem dX12_power_128 : decode cX12_power 128 = .ok (.iload_n 2, 1) := by decide +kernel
theorem dX12_power_129 : decode cX12_power 129 = .ok (.ifCond .ne 7, 3) := by decide +kernel
theorem dX12_power_132 : decode cX12_power 132 = .ok (.iload_n 3, 1) := by decide +kernel
theorem dX12_power_133 : decode cX12_power 133 = .ok (.goto 5, 3) := by decide +kernel
theorem dX12_power_136 : decode cX12_power 136 = .ok (.iload 4, 2) := by decide +kernel
theorem dX12_power_138 : decode cX12_power 138 = .ok (.ireturn, 1) := by decide +kernel
theorem dX12_rolls_0 : decode cX12_rolls 0 = .ok (.iconst 0, 1) := by decide +kernel
theorem dX12_rolls_1 : decode cX12_rolls 1 = .ok (.istore_n 1, 1) := by decide +kernel
theorem dX12_rolls_2 : decode cX12_rolls 2 = .ok (.iconst 0, 1) := by decide +kernel
theorem dX12_rolls_3 : decode cX12_rolls 3 = .ok (.istore_n 2, 1) := by decide +kernel
theorem dX12_rolls_4 : decode cX12_rolls 4 = .ok (.iload_n 2, 1) := by decide +kernel
theorem dX12_rolls_5 : decode cX12_rolls 5 = .ok (.aload_n 0, 1) := by decide +kernel
theorem dX12_rolls_6 : decode cX12_rolls 6 = .ok (.invokevirtual 477, 3) := by decide +kernel
theorem dX12_rolls_9 : decode cX12_rolls 9 = .ok (.if_icmp .ge 59, 3) := by decide +kernel
theorem dX12_rolls_68 : decode cX12_rolls 68 = .ok (.iload_n 1, 1) := by decide +kernel
theorem dX12_rolls_69 : decode cX12_rolls 69 = .ok (.ireturn, 1) := by decide +kernel
theorem dX12_rope_0 : decode cX12_rope 0 = .ok (.aload_n 0, 1) := by decide +kernel
theorem dX12_rope_1 : decode cX12_rope 1 = .ok (.iload_n 1, 1) := by decide +kernel
theorem dX12_rope_2 : decode cX12_rope 2 = .ok (.invokevirtual 631, 3) := by decide +kernel
theorem dX12_rope_5 : decode cX12_rope 5 = .ok (.ifCond .ne 5, 3) := by decide +kernel
theorem dX12_rope_8 : decode cX12_rope 8 = .ok (.iconst (-1), 1) := by decide +kernel
theorem dX12_rope_9 : decode cX12_rope 9 = .ok (.ireturn, 1) := by decide +kernel
theorem dX12_ropeAt_0 : decode cX12_ropeAt 0 = .ok (.aload_n 0, 1) := by decide +kernel
theorem dX12_ropeAt_1 : decode cX12_ropeAt 1 = .ok (.getfield 77, 3) := by decide +kernel
theorem dX12_ropeAt_4 : decode cX12_ropeAt 4 = .ok (.bipush 60, 2) := by decide +kernel
theorem dX12_ropeAt_6 : decode cX12_ropeAt 6 = .ok (.aload_n 0, 1) := by decide +kernel
theorem dX12_ropeAt_7 : decode cX12_ropeAt 7 = .ok (.getfield 386, 3) := by decide +kernel
theorem dX12_ropeAt_10 : decode cX12_ropeAt 10 = .ok (.imul, 1) := by decide +kernel
theorem dX12_ropeAt_11 : decode cX12_ropeAt 11 = .ok (.iload_n 1, 1) := by decide +kernel
theorem dX12_ropeAt_12 : decode cX12_ropeAt 12 = .ok (.iadd, 1) := by decide +kernel
theorem dX12_ropeAt_13 : decode cX12_ropeAt 13 = .ok (.iaload, 1) := by decide +kernel
theorem dX12_ropeAt_14 : decode cX12_ropeAt 14 = .ok (.ireturn, 1) := by decide +kernel
theorem dX12_run_0 : decode cX12_run 0 = .ok (.iload_n 1, 1) := by decide +kernel
theorem dX12_run_1 : decode cX12_run 1 = .ok (.iconst 0, 1) := by decide +kernel
theorem dX12_run_2 : decode cX12_run 2 = .ok (.sipush 500, 3) := by decide +kernel
theorem dX12_run_5 : decode cX12_run 5 = .ok (.invokestatic 503, 3) := by decide +kernel
theorem dX12_run_8 : decode cX12_run 8 = .ok (.ifCond .eq 15, 3) := by decide +kernel
theorem dX12_run_11 : decode cX12_run 11 = .ok (.aload_n 0, 1) := by decide +kernel
theorem dX12_run_12 : decode cX12_run 12 = .ok (.getfield 483, 3) := by decide +kernel
theorem dX12_run_15 : decode cX12_run 15 = .ok (.iload_n 1, 1) := by decide +kernel
theorem dX12_run_16 : decode cX12_run 16 = .ok (.iadd, 1) := by decide +kernel
theorem dX12_run_17 : decode cX12_run 17 = .ok (.ldc_w 621, 3) := by decide +kernel
theorem dX12_run_20 : decode cX12_run 20 = .ok (.if_icmp .le 5, 3) := by decide +kernel
theorem dX12_run_23 : decode cX12_run 23 = .ok (.iconst (-1), 1) := by decide +kernel
theorem dX12_run_24 : decode cX12_run 24 = .ok (.ireturn, 1) := by decide +kernel
theorem dX12_run_25 : decode cX12_run 25 = .ok (.iconst 0, 1) := by decide +kernel
theorem dX12_run_26 : decode cX12_run 26 = .ok (.istore_n 2, 1) := by decide +kernel
theorem dX12_run_27 : decode cX12_run 27 = .ok (.iload_n 2, 1) := by decide +kernel
theorem dX12_run_28 : decode cX12_run 28 = .ok (.iload_n 1, 1) := by decide +kernel
theorem dX12_run_29 : decode cX12_run 29 = .ok (.if_icmp .ge 13, 3) := by decide +kernel
theorem dX12_run_32 : decode cX12_run 32 = .ok (.aload_n 0, 1) := by decide +kernel
theorem dX12_run_33 : decode cX12_run 33 = .ok (.invokevirtual 622, 3) := by decide +kernel
theorem dX12_run_36 : decode cX12_run 36 = .ok (.iinc 2 1, 3) := by decide +kernel
theorem dX12_run_39 : decode cX12_run 39 = .ok (.goto (-12), 3) := by decide +kernel
theorem dX12_run_42 : decode cX12_run 42 = .ok (.aload_n 0, 1) := by decide +kernel
theorem dX12_run_43 : decode cX12_run 43 = .ok (.invokevirtual 625, 3) := by decide +kernel
theorem dX12_run_46 : decode cX12_run 46 = .ok (.ireturn, 1) := by decide +kernel
theorem dX12_runaway_0 : decode cX12_runaway 0 = .ok (.aload_n 0, 1) := by decide +kernel
theorem dX12_runaway_1 : decode cX12_runaway 1 = .ok (.iload_n 1, 1) := by decide +kernel
theorem dX12_runaway_2 : decode cX12_runaway 2 = .ok (.invokevirtual 628, 3) := by decide +kernel
theorem dX12_runaway_5 : decode cX12_runaway 5 = .ok (.ifCond .eq 36, 3) := by decide +kernel
theorem dX12_runaway_41 : decode cX12_runaway 41 = .ok (.iconst (-1), 1) := by decide +kernel
theorem dX12_runaway_42 : decode cX12_runaway 42 = .ok (.ireturn, 1) := by decide +kernel
theorem dX12_sign_0 : decode cX12_sign 0 = .ok (.iload_n 1, 1) := by decide +kernel
theorem dX12_sign_1 : decode cX12_sign 1 = .ok (.aload_n 0, 1) := by decide +kernel
theorem dX12_sign_2 : decode cX12_sign 2 = .ok (.getfield 260, 3) := by decide +kernel
theorem dX12_sign_5 : decode cX12_sign 5 = .ok (.if_icmp .ge 16, 3) := by decide +kernel
theorem dX12_sign_21 : decode cX12_sign 21 = .ok (.iconst 0, 1) := by decide +kernel
theorem dX12_sign_22 : decode cX12_sign 22 = .ok (.ireturn, 1) := by decide +kernel
theorem dX12_signOf_0 : decode cX12_signOf 0 = .ok (.iload_n 0, 1) := by decide +kernel
theorem dX12_signOf_1 : decode cX12_signOf 1 = .ok (.ifCond .le 7, 3) := by decide +kernel
theorem dX12_signOf_4 : decode cX12_signOf 4 = .ok (.iconst 1, 1) := by decide +kernel
theorem dX12_signOf_5 : decode cX12_signOf 5 = .ok (.goto 12, 3) := by decide +kernel
theorem dX12_signOf_8 : decode cX12_signOf 8 = .ok (.iload_n 0, 1) := by decide +kernel
theorem dX12_signOf_9 : decode cX12_signOf 9 = .ok (.ifCond .ge 7, 3) := by decide +kernel
theorem dX12_signOf_12 : decode cX12_signOf 12 = .ok (.iconst (-1), 1) := by decide +kernel
theorem dX12_signOf_13 : decode cX12_signOf 13 = .ok (.goto 4, 3) := by decide +kernel
theorem dX12_signOf_17 : decode cX12_signOf 17 = .ok (.ireturn, 1) := by decide +kernel
theorem dX12_speed_0 : decode cX12_speed 0 = .ok (.aload_n 0, 1) := by decide +kernel
theorem dX12_speed_1 : decode cX12_speed 1 = .ok (.iload_n 1, 1) := by decide +kernel
theorem dX12_speed_2 : decode cX12_speed 2 = .ok (.invokevirtual 628, 3) := by decide +kernel
theorem dX12_speed_5 : decode cX12_speed 5 = .ok (.ifCond .eq 12, 3) := by decide +kernel
theorem dX12_speed_17 : decode cX12_speed 17 = .ok (.sipush (-1000), 3) := by decide +kernel
theorem dX12_speed_20 : decode cX12_speed 20 = .ok (.ireturn, 1) := by decide +kernel
theorem dX12_splice_0 : decode cX12_splice 0 = .ok (.iload_n 1, 1) := by decide +kernel
theorem dX12_splice_1 : decode cX12_splice 1 = .ok (.iconst 0, 1) := by decide +kernel
theorem dX12_splice_2 : decode cX12_splice 2 = .ok (.aload_n 0, 1) := by decide +kernel
theorem dX12_splice_3 : decode cX12_splice 3 = .ok (.getfield 89, 3) := by decide +kernel
theorem dX12_splice_6 : decode cX12_splice 6 = .ok (.aload_n 0, 1) := by decide +kernel
theorem dX12_splice_7 : decode cX12_splice 7 = .ok (.getfield 386, 3) := by decide +kernel
theorem dX12_splice_10 : decode cX12_splice 10 = .ok (.iaload, 1) := by decide +kernel
theorem dX12_splice_11 : decode cX12_splice 11 = .ok (.iconst 1, 1) := by decide +kernel
theorem dX12_splice_12 : decode cX12_splice 12 = .ok (.isub, 1) := by decide +kernel
theorem dX12_splice_13 : decode cX12_splice 13 = .ok (.invokestatic 503, 3) := by decide +kernel
theorem dX12_splice_16 : decode cX12_splice 16 = .ok (.ifCond .ne 5, 3) := by decide +kernel
theorem dX12_splice_19 : decode cX12_splice 19 = .ok (.iconst (-1), 1) := by decide +kernel
theorem dX12_splice_20 : decode cX12_splice 20 = .ok (.ireturn, 1) := by decide +kernel
theorem dX12_spread_0 : decode cX12_spread 0 = .ok (.aload_n 0, 1) := by decide +kernel
theorem dX12_spread_1 : decode cX12_spread 1 = .ok (.iload_n 1, 1) := by decide +kernel
theorem dX12_spread_2 : decode cX12_spread 2 = .ok (.invokevirtual 628, 3) := by decide +kernel
theorem dX12_spread_5 : decode cX12_spread 5 = .ok (.ifCond .eq 22, 3) := by decide +kernel
theorem dX12_spread_27 : decode cX12_spread 27 = .ok (.iconst (-1), 1) := by decide +kernel
theorem dX12_spread_28 : decode cX12_spread 28 = .ok (.ireturn, 1) := by decide +kernel
theorem dX12_strand_0 : decode cX12_strand 0 = .ok (.aload_n 0, 1) := by decide +kernel
theorem dX12_strand_1 : decode cX12_strand 1 = .ok (.iload_n 1, 1) := by decide +kernel
theorem dX12_strand_2 : decode cX12_strand 2 = .ok (.iload_n 2, 1) := by decide +kernel
theorem dX12_strand_3 : decode cX12_strand 3 = .ok (.invokevirtual 634, 3) := by decide +kernel
theorem dX12_strand_6 : decode cX12_strand 6 = .ok (.ifCond .eq 12, 3) := by decide +kernel
theorem dX12_strand_18 : decode cX12_strand 18 = .ok (.iconst 0, 1) := by decide +kernel
theorem dX12_strand_19 : decode cX12_strand 19 = .ok (.ireturn, 1) := by decide +kernel
theorem dX12_strandNow_0 : decode cX12_strandNow 0 = .ok (.aload_n 0, 1) := by decide +kernel
theorem dX12_strandNow_1 : decode cX12_strandNow 1 = .ok (.getfield 507, 3) := by decide +kernel
theorem dX12_strandNow_4 : decode cX12_strandNow 4 = .ok (.ifCond .lt 12, 3) := by decide +kernel
theorem dX12_strandNow_16 : decode cX12_strandNow 16 = .ok (.iconst (-1), 1) := by decide +kernel
theorem dX12_strandNow_17 : decode cX12_strandNow 17 = .ok (.ireturn, 1) := by decide +kernel
theorem dX12_street_0 : decode cX12_street 0 = .ok (.aload_n 0, 1) := by decide +kernel
theorem dX12_street_1 : decode cX12_street 1 = .ok (.iconst 0, 1) := by decide +kernel
theorem dX12_street_2 : decode cX12_street 2 = .ok (.putfield 263, 3) := by decide +kernel
theorem dX12_street_5 : decode cX12_street 5 = .ok (.aload_n 0, 1) := by decide +kernel
theorem dX12_street_6 : decode cX12_street 6 = .ok (.iconst (-1), 1) := by decide +kernel
theorem dX12_street_7 : decode cX12_street 7 = .ok (.putfield 16, 3) := by decide +kernel
theorem dX12_street_10 : decode cX12_street 10 = .ok (.aload_n 0, 1) := by decide +kernel
theorem dX12_street_11 : decode cX12_street 11 = .ok (.aload_n 0, 1) := by decide +kernel
theorem dX12_street_12 : decode cX12_street 12 = .ok (.getfield 383, 3) := by decide +kernel
theorem dX12_street_15 : decode cX12_street 15 = .ok (.putfield 260, 3) := by decide +kernel
theorem dX12_street_18 : decode cX12_street 18 = .ok (.iconst 0, 1) := by decide +kernel
theorem dX12_street_19 : decode cX12_street 19 = .ok (.istore_n 1, 1) := by decide +kernel
theorem dX12_street_20 : decode cX12_street 20 = .ok (.iload_n 1, 1) := by decide +kernel
theorem dX12_street_21 : decode cX12_street 21 = .ok (.aload_n 0, 1) := by decide +kernel
theorem dX12_street_22 : decode cX12_street 22 = .ok (.getfield 260, 3) := by decide +kernel
theorem dX12_street_25 : decode cX12_street 25 = .ok (.if_icmp .ge 21, 3) := by decide +kernel
theorem dX12_street_46 : decode cX12_street 46 = .ok (.aload_n 0, 1) := by decide +kernel
theorem dX12_street_47 : decode cX12_street 47 = .ok (.iconst 0, 1) := by decide +kernel
theorem dX12_street_48 : decode cX12_street 48 = .ok (.putfield 383, 3) := by decide +kernel
theorem dX12_street_51 : decode cX12_street 51 = .ok (.aload_n 0, 1) := by decide +kernel
theorem dX12_street_52 : decode cX12_street 52 = .ok (.iconst 0, 1) := by decide +kernel
theorem dX12_street_53 : decode cX12_street 53 = .ok (.putfield 326, 3) := by decide +kernel
theorem dX12_street_56 : decode cX12_street 56 = .ok (.aload_n 0, 1) := by decide +kernel
theorem dX12_street_57 : decode cX12_street 57 = .ok (.iconst 1, 1) := by decide +kernel
theorem dX12_street_58 : decode cX12_street 58 = .ok (.aload_n 0, 1) := by decide +kernel
theorem dX12_street_59 : decode cX12_street 59 = .ok (.getfield 386, 3) := by decide +kernel
theorem dX12_street_62 : decode cX12_street 62 = .ok (.isub, 1) := by decide +kernel
theorem dX12_street_63 : decode cX12_street 63 = .ok (.putfield 377, 3) := by decide +kernel
theorem dX12_street_66 : decode cX12_street 66 = .ok (.aload_n 0, 1) := by decide +kernel
theorem dX12_street_67 : decode cX12_street 67 = .ok (.invokevirtual 254, 3) := by decide +kernel
theorem dX12_street_70 : decode cX12_street 70 = .ok (.aload_n 0, 1) := by decide +kernel
theorem dX12_street_71 : decode cX12_street 71 = .ok (.invokevirtual 368, 3) := by decide +kernel
theorem dX12_street_74 : decode cX12_street 74 = .ok (.aload_n 0, 1) := by decide +kernel
theorem dX12_street_75 : decode cX12_street 75 = .ok (.invokevirtual 364, 3) := by decide +kernel
theorem dX12_street_78 : decode cX12_street 78 = .ok (.ifCond .eq 17, 3) := by decide +kernel
theorem dX12_street_81 : decode cX12_street 81 = .ok (.aload_n 0, 1) := by decide +kernel
theorem dX12_street_82 : decode cX12_street 82 = .ok (.getfield 336, 3) := by decide +kernel
theorem dX12_street_85 : decode cX12_street 85 = .ok (.ifCond .eq 10, 3) := by decide +kernel
theorem dX12_street_95 : decode cX12_street 95 = .ok (.aload_n 0, 1) := by decide +kernel
theorem dX12_street_96 : decode cX12_street 96 = .ok (.invokevirtual 364, 3) := by decide +kernel
theorem dX12_street_99 : decode cX12_street 99 = .ok (.ifCond .ne 5, 3) := by decide +kernel
theorem dX12_street_104 : decode cX12_street 104 = .ok (.aload_n 0, 1) := by decide +kernel
theorem dX12_street_105 : decode cX12_street 105 = .ok (.aload_n 0, 1) := by decide +kernel
theorem dX12_street_106 : decode cX12_street 106 = .ok (.getfield 377, 3) := by decide +kernel
theorem dX12_street_109 : decode cX12_street 109 = .ok (.putfield 386, 3) := by decide +kernel
theorem dX12_street_112 : decode cX12_street 112 = .ok (.aload_n 0, 1) := by decide +kernel
theorem dX12_street_113 : decode cX12_street 113 = .ok (.iconst 0, 1) := by decide +kernel
theorem dX12_street_114 : decode cX12_street 114 = .ok (.putfield 392, 3) := by decide +kernel
theorem dX12_street_117 : decode cX12_street 117 = .ok (.iconst 0, 1) := by decide +kernel
theorem dX12_street_118 : decode cX12_street 118 = .ok (.istore_n 1, 1) := by decide +kernel
theorem dX12_street_119 : decode cX12_street 119 = .ok (.iload_n 1, 1) := by decide +kernel
theorem dX12_street_120 : decode cX12_street 120 = .ok (.iconst 3, 1) := by decide +kernel
theorem dX12_street_121 : decode cX12_street 121 = .ok (.if_icmp .ge 16, 3) := by decide +kernel
theorem dX12_street_124 : decode cX12_street 124 = .ok (.aload_n 0, 1) := by decide +kernel
theorem dX12_street_125 : decode cX12_street 125 = .ok (.getfield 209, 3) := by decide +kernel
theorem dX12_street_128 : decode cX12_street 128 = .ok (.iload_n 1, 1) := by decide +kernel
theorem dX12_street_129 : decode cX12_street 129 = .ok (.iconst (-1), 1) := by decide +kernel
theorem dX12_street_130 : decode cX12_street 130 = .ok (.iastore, 1) := by decide +kernel
theorem dX12_street_131 : decode cX12_street 131 = .ok (.iinc 1 1, 3) := by decide +kernel
theorem dX12_street_134 : decode cX12_street 134 = .ok (.goto (-15), 3) := by decide +kernel
theorem dX12_street_137 : decode cX12_street 137 = .ok (.aload_n 0, 1) := by decide +kernel
theorem dX12_street_138 : decode cX12_street 138 = .ok (.invokevirtual 257, 3) := by decide +kernel
theorem dX12_street_141 : decode cX12_street 141 = .ok (.aload_n 0, 1) := by decide +kernel
theorem dX12_street_142 : decode cX12_street 142 = .ok (.getfield 33, 3) := by decide +kernel
theorem dX12_street_145 : decode cX12_street 145 = .ok (.aload_n 0, 1) := by decide +kernel
theorem dX12_street_146 : decode cX12_street 146 = .ok (.getfield 386, 3) := by decide +kernel
theorem dX12_street_149 : decode cX12_street 149 = .ok (.iaload, 1) := by decide +kernel
theorem dX12_street_150 : decode cX12_street 150 = .ok (.ireturn, 1) := by decide +kernel
theorem dX12_takes_0 : decode cX12_takes 0 = .ok (.aload_n 0, 1) := by decide +kernel
theorem dX12_takes_1 : decode cX12_takes 1 = .ok (.getfield 507, 3) := by decide +kernel
theorem dX12_takes_4 : decode cX12_takes 4 = .ok (.ifCond .ge 5, 3) := by decide +kernel
theorem dX12_takes_7 : decode cX12_takes 7 = .ok (.iconst (-1), 1) := by decide +kernel
theorem dX12_takes_8 : decode cX12_takes 8 = .ok (.ireturn, 1) := by decide +kernel
theorem dX12_tick_0 : decode cX12_tick 0 = .ok (.iconst 0, 1) := by decide +kernel
theorem dX12_tick_1 : decode cX12_tick 1 = .ok (.istore_n 1, 1) := by decide +kernel
theorem dX12_tick_2 : decode cX12_tick 2 = .ok (.iload_n 1, 1) := by decide +kernel
theorem dX12_tick_3 : decode cX12_tick 3 = .ok (.aload_n 0, 1) := by decide +kernel
theorem dX12_tick_4 : decode cX12_tick 4 = .ok (.getfield 20, 3) := by decide +kernel
theorem dX12_tick_7 : decode cX12_tick 7 = .ok (.aload_n 0, 1) := by decide +kernel
theorem dX12_tick_8 : decode cX12_tick 8 = .ok (.getfield 386, 3) := by decide +kernel
theorem dX12_tick_11 : decode cX12_tick 11 = .ok (.iaload, 1) := by decide +kernel
theorem dX12_tick_12 : decode cX12_tick 12 = .ok (.if_icmp .ge 109, 3) := by decide +kernel
theorem dX12_tick_121 : decode cX12_tick 121 = .ok (.aload_n 0, 1) := by decide +kernel
theorem dX12_tick_122 : decode cX12_tick 122 = .ok (.iconst (-1), 1) := by decide +kernel
theorem dX12_tick_123 : decode cX12_tick 123 = .ok (.putfield 528, 3) := by decide +kernel
theorem dX12_tick_126 : decode cX12_tick 126 = .ok (.aload_n 0, 1) := by decide +kernel
theorem dX12_tick_127 : decode cX12_tick 127 = .ok (.invokevirtual 606, 3) := by decide +kernel
theorem dX12_tick_130 : decode cX12_tick 130 = .ok (.iconst 0, 1) := by decide +kernel
theorem dX12_tick_131 : decode cX12_tick 131 = .ok (.istore_n 1, 1) := by decide +kernel
theorem dX12_tick_132 : decode cX12_tick 132 = .ok (.iload_n 1, 1) := by decide +kernel
theorem dX12_tick_133 : decode cX12_tick 133 = .ok (.aload_n 0, 1) := by decide +kernel
theorem dX12_tick_134 : decode cX12_tick 134 = .ok (.getfield 89, 3) := by decide +kernel
theorem dX12_tick_137 : decode cX12_tick 137 = .ok (.aload_n 0, 1) := by decide +kernel
theorem dX12_tick_138 : decode cX12_tick 138 = .ok (.getfield 386, 3) := by decide +kernel
theorem dX12_tick_141 : decode cX12_tick 141 = .ok (.iaload, 1) := by decide +kernel
theorem dX12_tick_142 : decode cX12_tick 142 = .ok (.if_icmp .ge 14, 3) := by decide +kernel
theorem dX12_tick_156 : decode cX12_tick 156 = .ok (.iconst 0, 1) := by decide +kernel
theorem dX12_tick_157 : decode cX12_tick 157 = .ok (.istore_n 1, 1) := by decide +kernel
theorem dX12_tick_158 : decode cX12_tick 158 = .ok (.iload_n 1, 1) := by decide +kernel
theorem dX12_tick_159 : decode cX12_tick 159 = .ok (.aload_n 0, 1) := by decide +kernel
theorem dX12_tick_160 : decode cX12_tick 160 = .ok (.invokevirtual 477, 3) := by decide +kernel
theorem dX12_tick_163 : decode cX12_tick 163 = .ok (.if_icmp .ge 24, 3) := by decide +kernel
theorem dX12_tick_187 : decode cX12_tick 187 = .ok (.iconst 0, 1) := by decide +kernel
theorem dX12_tick_188 : decode cX12_tick 188 = .ok (.istore_n 1, 1) := by decide +kernel
theorem dX12_tick_189 : decode cX12_tick 189 = .ok (.iload_n 1, 1) := by decide +kernel
theorem dX12_tick_190 : decode cX12_tick 190 = .ok (.aload_n 0, 1) := by decide +kernel
theorem dX12_tick_191 : decode cX12_tick 191 = .ok (.invokevirtual 477, 3) := by decide +kernel
theorem dX12_tick_194 : decode cX12_tick 194 = .ok (.if_icmp .ge 72, 3) := by decide +kernel
theorem dX12_tick_266 : decode cX12_tick 266 = .ok (.aload_n 0, 1) := by decide +kernel
theorem dX12_tick_267 : decode cX12_tick 267 = .ok (.getfield 92, 3) := by decide +kernel
theorem dX12_tick_270 : decode cX12_tick 270 = .ok (.aload_n 0, 1) := by decide +kernel
theorem dX12_tick_271 : decode cX12_tick 271 = .ok (.getfield 386, 3) := by decide +kernel
theorem dX12_tick_274 : decode cX12_tick 274 = .ok (.iaload, 1) := by decide +kernel
theorem dX12_tick_275 : decode cX12_tick 275 = .ok (.ifCond .le 7, 3) := by decide +kernel
theorem dX12_tick_282 : decode cX12_tick 282 = .ok (.aload_n 0, 1) := by decide +kernel
theorem dX12_tick_283 : decode cX12_tick 283 = .ok (.dup, 1) := by decide +kernel
theorem dX12_tick_284 : decode cX12_tick 284 = .ok (.getfield 483, 3) := by decide +kernel
theorem dX12_tick_287 : decode cX12_tick 287 = .ok (.iconst 1, 1) := by decide +kernel
theorem dX12_tick_288 : decode cX12_tick 288 = .ok (.iadd, 1) := by decide +kernel
theorem dX12_tick_289 : decode cX12_tick 289 = .ok (.putfield 483, 3) := by decide +kernel
theorem dX12_tick_292 : decode cX12_tick 292 = .ok (.return_, 1) := by decide +kernel
theorem dX12_trips_0 : decode cX12_trips 0 = .ok (.aload_n 0, 1) := by decide +kernel
theorem dX12_trips_1 : decode cX12_trips 1 = .ok (.iload_n 1, 1) := by decide +kernel
theorem dX12_trips_2 : decode cX12_trips 2 = .ok (.invokevirtual 628, 3) := by decide +kernel
theorem dX12_trips_5 : decode cX12_trips 5 = .ok (.ifCond .eq 12, 3) := by decide +kernel
theorem dX12_trips_17 : decode cX12_trips 17 = .ok (.iconst (-1), 1) := by decide +kernel
theorem dX12_trips_18 : decode cX12_trips 18 = .ok (.ireturn, 1) := by decide +kernel
theorem dX12_untell_0 : decode cX12_untell 0 = .ok (.iload_n 1, 1) := by decide +kernel
theorem dX12_untell_1 : decode cX12_untell 1 = .ok (.iconst 0, 1) := by decide +kernel
theorem dX12_untell_2 : decode cX12_untell 2 = .ok (.aload_n 0, 1) := by decide +kernel
theorem dX12_untell_3 : decode cX12_untell 3 = .ok (.getfield 392, 3) := by decide +kernel
theorem dX12_untell_6 : decode cX12_untell 6 = .ok (.iconst 1, 1) := by decide +kernel
theorem dX12_untell_7 : decode cX12_untell 7 = .ok (.isub, 1) := by decide +kernel
theorem dX12_untell_8 : decode cX12_untell 8 = .ok (.invokestatic 503, 3) := by decide +kernel
theorem dX12_untell_11 : decode cX12_untell 11 = .ok (.ifCond .eq 12, 3) := by decide +kernel
theorem dX12_untell_23 : decode cX12_untell 23 = .ok (.iconst 0, 1) := by decide +kernel
theorem dX12_untell_24 : decode cX12_untell 24 = .ok (.ireturn, 1) := by decide +kernel
theorem dX12_where_0 : decode cX12_where 0 = .ok (.aload_n 0, 1) := by decide +kernel
theorem dX12_where_1 : decode cX12_where 1 = .ok (.iload_n 1, 1) := by decide +kernel
theorem dX12_where_2 : decode cX12_where 2 = .ok (.iload_n 2, 1) := by decide +kernel
theorem dX12_where_3 : decode cX12_where 3 = .ok (.invokevirtual 634, 3) := by decide +kernel
theorem dX12_where_6 : decode cX12_where 6 = .ok (.ifCond .eq 14, 3) := by decide +kernel
theorem dX12_where_20 : decode cX12_where 20 = .ok (.bipush (-2), 2) := by decide +kernel
theorem dX12_where_22 : decode cX12_where 22 = .ok (.ireturn, 1) := by decide +kernel
theorem dJ6_signum_0f7a4_0 : decode cJ6_signum_0f7a4 0 = .ok (.iload_n 0, 1) := by decide +kernel
theorem dJ6_signum_0f7a4_1 : decode cJ6_signum_0f7a4 1 = .ok (.bipush 31, 2) := by decide +kernel
theorem dJ6_signum_0f7a4_3 : decode cJ6_signum_0f7a4 3 = .ok (.ishr, 1) := by decide +kernel
theorem dJ6_signum_0f7a4_4 : decode cJ6_signum_0f7a4 4 = .ok (.iload_n 0, 1) := by decide +kernel
theorem dJ6_signum_0f7a4_5 : decode cJ6_signum_0f7a4 5 = .ok (.ineg, 1) := by decide +kernel
theorem dJ6_signum_0f7a4_6 : decode cJ6_signum_0f7a4 6 = .ok (.bipush 31, 2) := by decide +kernel
theorem dJ6_signum_0f7a4_8 : decode cJ6_signum_0f7a4 8 = .ok (.iushr, 1) := by decide +kernel
theorem dJ6_signum_0f7a4_9 : decode cJ6_signum_0f7a4 9 = .ok (.ior, 1) := by decide +kernel
theorem dJ6_signum_0f7a4_10 : decode cJ6_signum_0f7a4 10 = .ok (.ireturn, 1) := by decide +kernel
theorem dJ9_max_7cf53_0 : decode cJ9_max_7cf53 0 = .ok (.iload_n 0, 1) := by decide +kernel
theorem dJ9_max_7cf53_1 : decode cJ9_max_7cf53 1 = .ok (.iload_n 1, 1) := by decide +kernel
theorem dJ9_max_7cf53_2 : decode cJ9_max_7cf53 2 = .ok (.if_icmp .lt 7, 3) := by decide +kernel
theorem dJ9_max_7cf53_5 : decode cJ9_max_7cf53 5 = .ok (.iload_n 0, 1) := by decide +kernel
theorem dJ9_max_7cf53_6 : decode cJ9_max_7cf53 6 = .ok (.goto 4, 3) := by decide +kernel
theorem dJ9_max_7cf53_10 : decode cJ9_max_7cf53 10 = .ok (.ireturn, 1) := by decide +kernel
theorem dJ9_min_7cf53_0 : decode cJ9_min_7cf53 0 = .ok (.iload_n 0, 1) := by decide +kernel
theorem dJ9_min_7cf53_1 : decode cJ9_min_7cf53 1 = .ok (.iload_n 1, 1) := by decide +kernel
theorem dJ9_min_7cf53_2 : decode cJ9_min_7cf53 2 = .ok (.if_icmp .gt 7, 3) := by decide +kernel
theorem dJ9_min_7cf53_5 : decode cJ9_min_7cf53 5 = .ok (.iload_n 0, 1) := by decide +kernel
theorem dJ9_min_7cf53_6 : decode cJ9_min_7cf53 6 = .ok (.goto 4, 3) := by decide +kernel
theorem dJ9_min_7cf53_9 : decode cJ9_min_7cf53 9 = .ok (.iload_n 1, 1) := by decide +kernel
theorem dJ9_min_7cf53_10 : decode cJ9_min_7cf53 10 = .ok (.ireturn, 1) := by decide +kernel
theorem dJ7_fill_53178_0 : decode cJ7_fill_53178 0 = .ok (.iconst 0, 1) := by decide +kernel
theorem dJ7_fill_53178_1 : decode cJ7_fill_53178 1 = .ok (.istore_n 2, 1) := by decide +kernel
theorem dJ7_fill_53178_2 : decode cJ7_fill_53178 2 = .ok (.aload_n 0, 1) := by decide +kernel
theorem dJ7_fill_53178_3 : decode cJ7_fill_53178 3 = .ok (.arraylength, 1) := by decide +kernel
theorem dJ7_fill_53178_4 : decode cJ7_fill_53178 4 = .ok (.istore_n 3, 1) := by decide +kernel
theorem dJ7_fill_53178_5 : decode cJ7_fill_53178 5 = .ok (.iload_n 2, 1) := by decide +kernel
theorem dJ7_fill_53178_6 : decode cJ7_fill_53178 6 = .ok (.iload_n 3, 1) := by decide +kernel
theorem dJ7_fill_53178_7 : decode cJ7_fill_53178 7 = .ok (.if_icmp .ge 13, 3) := by decide +kernel
theorem dJ7_fill_53178_10 : decode cJ7_fill_53178 10 = .ok (.aload_n 0, 1) := by decide +kernel
theorem dJ7_fill_53178_11 : decode cJ7_fill_53178 11 = .ok (.iload_n 2, 1) := by decide +kernel
theorem dJ7_fill_53178_12 : decode cJ7_fill_53178 12 = .ok (.iload_n 1, 1) := by decide +kernel
theorem dJ7_fill_53178_13 : decode cJ7_fill_53178 13 = .ok (.iastore, 1) := by decide +kernel
theorem dJ7_fill_53178_14 : decode cJ7_fill_53178 14 = .ok (.iinc 2 1, 3) := by decide +kernel
theorem dJ7_fill_53178_17 : decode cJ7_fill_53178 17 = .ok (.goto (-12), 3) := by decide +kernel
theorem dJ7_fill_53178_20 : decode cJ7_fill_53178 20 = .ok (.return_, 1) := by decide +kernel
theorem dL_law_0 : decode cL_law 0 = .ok (.new 7, 3) := by decide +kernel
theorem dL_law_3 : decode cL_law 3 = .ok (.dup, 1) := by decide +kernel
theorem dL_law_4 : decode cL_law 4 = .ok (.invokespecial 9, 3) := by decide +kernel
theorem dL_law_7 : decode cL_law 7 = .ok (.astore_n 1, 1) := by decide +kernel
theorem dL_law_8 : decode cL_law 8 = .ok (.new 10, 3) := by decide +kernel
theorem dL_law_11 : decode cL_law 11 = .ok (.dup, 1) := by decide +kernel
theorem dL_law_12 : decode cL_law 12 = .ok (.invokespecial 12, 3) := by decide +kernel
theorem dL_law_15 : decode cL_law 15 = .ok (.astore_n 2, 1) := by decide +kernel
theorem dL_law_16 : decode cL_law 16 = .ok (.iconst 0, 1) := by decide +kernel
theorem dL_law_17 : decode cL_law 17 = .ok (.istore_n 3, 1) := by decide +kernel
theorem dL_law_18 : decode cL_law 18 = .ok (.iload_n 3, 1) := by decide +kernel
theorem dL_law_19 : decode cL_law 19 = .ok (.aload_n 0, 1) := by decide +kernel
theorem dL_law_20 : decode cL_law 20 = .ok (.arraylength, 1) := by decide +kernel
theorem dL_law_21 : decode cL_law 21 = .ok (.bipush 6, 2) := by decide +kernel
theorem dL_law_23 : decode cL_law 23 = .ok (.isub, 1) := by decide +kernel
theorem dL_law_24 : decode cL_law 24 = .ok (.if_icmp .gt 1219, 3) := by decide +kernel
theorem dL_law_27 : decode cL_law 27 = .ok (.aload_n 0, 1) := by decide +kernel
theorem dL_law_28 : decode cL_law 28 = .ok (.iload_n 3, 1) := by decide +kernel
theorem dL_law_29 : decode cL_law 29 = .ok (.iaload, 1) := by decide +kernel
theorem dL_law_30 : decode cL_law 30 = .ok (.bipush 63, 2) := by decide +kernel
theorem dL_law_32 : decode cL_law 32 = .ok (.iand, 1) := by decide +kernel
theorem dL_law_33 : decode cL_law 33 = .ok (.tableswitch 1204 0 36 #[163, 226, 249, 262, 285, 308, 341, 364, 397, 420, 453, 476, 499, 532, 555, 588, 611, 624, 647, 680, 713, 756, 779, 792, 815, 848, 881, 914, 937, 980, 1023, 1046, 1069, 1102, 1135, 1158, 1181], 163) := by decide +kernel
theorem dL_law_196 : decode cL_law 196 = .ok (.aload_n 1, 1) := by decide +kernel
theorem dL_law_197 : decode cL_law 197 = .ok (.aload_n 0, 1) := by decide +kernel
theorem dL_law_198 : decode cL_law 198 = .ok (.iload_n 3, 1) := by decide +kernel
theorem dL_law_199 : decode cL_law 199 = .ok (.iconst 1, 1) := by decide +kernel
theorem dL_law_200 : decode cL_law 200 = .ok (.iadd, 1) := by decide +kernel
theorem dL_law_201 : decode cL_law 201 = .ok (.iaload, 1) := by decide +kernel
theorem dL_law_202 : decode cL_law 202 = .ok (.aload_n 0, 1) := by decide +kernel
theorem dL_law_203 : decode cL_law 203 = .ok (.iload_n 3, 1) := by decide +kernel
theorem dL_law_204 : decode cL_law 204 = .ok (.iconst 2, 1) := by decide +kernel
theorem dL_law_205 : decode cL_law 205 = .ok (.iadd, 1) := by decide +kernel
theorem dL_law_206 : decode cL_law 206 = .ok (.iaload, 1) := by decide +kernel
theorem dL_law_207 : decode cL_law 207 = .ok (.aload_n 0, 1) := by decide +kernel
theorem dL_law_208 : decode cL_law 208 = .ok (.iload_n 3, 1) := by decide +kernel
theorem dL_law_209 : decode cL_law 209 = .ok (.iconst 3, 1) := by decide +kernel
theorem dL_law_210 : decode cL_law 210 = .ok (.iadd, 1) := by decide +kernel
theorem dL_law_211 : decode cL_law 211 = .ok (.iaload, 1) := by decide +kernel
theorem dL_law_212 : decode cL_law 212 = .ok (.aload_n 0, 1) := by decide +kernel
theorem dL_law_213 : decode cL_law 213 = .ok (.iload_n 3, 1) := by decide +kernel
theorem dL_law_214 : decode cL_law 214 = .ok (.iconst 4, 1) := by decide +kernel
theorem dL_law_215 : decode cL_law 215 = .ok (.iadd, 1) := by decide +kernel
theorem dL_law_216 : decode cL_law 216 = .ok (.iaload, 1) := by decide +kernel
theorem dL_law_217 : decode cL_law 217 = .ok (.aload_n 0, 1) := by decide +kernel
theorem dL_law_218 : decode cL_law 218 = .ok (.iload_n 3, 1) := by decide +kernel
theorem dL_law_219 : decode cL_law 219 = .ok (.iconst 5, 1) := by decide +kernel
theorem dL_law_220 : decode cL_law 220 = .ok (.iadd, 1) := by decide +kernel
theorem dL_law_221 : decode cL_law 221 = .ok (.iaload, 1) := by decide +kernel
theorem dL_law_222 : decode cL_law 222 = .ok (.invokevirtual 13, 3) := by decide +kernel
theorem dL_law_225 : decode cL_law 225 = .ok (.aload_n 2, 1) := by decide +kernel
theorem dL_law_226 : decode cL_law 226 = .ok (.aload_n 0, 1) := by decide +kernel
theorem dL_law_227 : decode cL_law 227 = .ok (.iload_n 3, 1) := by decide +kernel
theorem dL_law_228 : decode cL_law 228 = .ok (.iconst 1, 1) := by decide +kernel
theorem dL_law_229 : decode cL_law 229 = .ok (.iadd, 1) := by decide +kernel
theorem dL_law_230 : decode cL_law 230 = .ok (.iaload, 1) := by decide +kernel
theorem dL_law_231 : decode cL_law 231 = .ok (.aload_n 0, 1) := by decide +kernel
theorem dL_law_232 : decode cL_law 232 = .ok (.iload_n 3, 1) := by decide +kernel
theorem dL_law_233 : decode cL_law 233 = .ok (.iconst 2, 1) := by decide +kernel
theorem dL_law_234 : decode cL_law 234 = .ok (.iadd, 1) := by decide +kernel
theorem dL_law_235 : decode cL_law 235 = .ok (.iaload, 1) := by decide +kernel
theorem dL_law_236 : decode cL_law 236 = .ok (.aload_n 0, 1) := by decide +kernel
theorem dL_law_237 : decode cL_law 237 = .ok (.iload_n 3, 1) := by decide +kernel
theorem dL_law_238 : decode cL_law 238 = .ok (.iconst 3, 1) := by decide +kernel
theorem dL_law_239 : decode cL_law 239 = .ok (.iadd, 1) := by decide +kernel
theorem dL_law_240 : decode cL_law 240 = .ok (.iaload, 1) := by decide +kernel
theorem dL_law_241 : decode cL_law 241 = .ok (.aload_n 0, 1) := by decide +kernel
theorem dL_law_242 : decode cL_law 242 = .ok (.iload_n 3, 1) := by decide +kernel
theorem dL_law_243 : decode cL_law 243 = .ok (.iconst 4, 1) := by decide +kernel
theorem dL_law_244 : decode cL_law 244 = .ok (.iadd, 1) := by decide +kernel
theorem dL_law_245 : decode cL_law 245 = .ok (.iaload, 1) := by decide +kernel
theorem dL_law_246 : decode cL_law 246 = .ok (.aload_n 0, 1) := by decide +kernel
theorem dL_law_247 : decode cL_law 247 = .ok (.iload_n 3, 1) := by decide +kernel
theorem dL_law_248 : decode cL_law 248 = .ok (.iconst 5, 1) := by decide +kernel
theorem dL_law_249 : decode cL_law 249 = .ok (.iadd, 1) := by decide +kernel
theorem dL_law_250 : decode cL_law 250 = .ok (.iaload, 1) := by decide +kernel
theorem dL_law_251 : decode cL_law 251 = .ok (.invokevirtual 17, 3) := by decide +kernel
theorem dL_law_254 : decode cL_law 254 = .ok (.if_icmp .eq 983, 3) := by decide +kernel
theorem dL_law_257 : decode cL_law 257 = .ok (.iconst 0, 1) := by decide +kernel
theorem dL_law_258 : decode cL_law 258 = .ok (.ireturn, 1) := by decide +kernel
theorem dL_law_259 : decode cL_law 259 = .ok (.aload_n 1, 1) := by decide +kernel
theorem dL_law_260 : decode cL_law 260 = .ok (.aload_n 0, 1) := by decide +kernel
theorem dL_law_261 : decode cL_law 261 = .ok (.iload_n 3, 1) := by decide +kernel
theorem dL_law_262 : decode cL_law 262 = .ok (.iconst 1, 1) := by decide +kernel
theorem dL_law_263 : decode cL_law 263 = .ok (.iadd, 1) := by decide +kernel
theorem dL_law_264 : decode cL_law 264 = .ok (.iaload, 1) := by decide +kernel
theorem dL_law_265 : decode cL_law 265 = .ok (.invokevirtual 18, 3) := by decide +kernel
theorem dL_law_268 : decode cL_law 268 = .ok (.aload_n 2, 1) := by decide +kernel
theorem dL_law_269 : decode cL_law 269 = .ok (.aload_n 0, 1) := by decide +kernel
theorem dL_law_270 : decode cL_law 270 = .ok (.iload_n 3, 1) := by decide +kernel
theorem dL_law_271 : decode cL_law 271 = .ok (.iconst 1, 1) := by decide +kernel
theorem dL_law_272 : decode cL_law 272 = .ok (.iadd, 1) := by decide +kernel
theorem dL_law_273 : decode cL_law 273 = .ok (.iaload, 1) := by decide +kernel
theorem dL_law_274 : decode cL_law 274 = .ok (.invokevirtual 22, 3) := by decide +kernel
theorem dL_law_277 : decode cL_law 277 = .ok (.if_icmp .eq 960, 3) := by decide +kernel
theorem dL_law_280 : decode cL_law 280 = .ok (.iconst 0, 1) := by decide +kernel
theorem dL_law_281 : decode cL_law 281 = .ok (.ireturn, 1) := by decide +kernel
theorem dL_law_282 : decode cL_law 282 = .ok (.aload_n 1, 1) := by decide +kernel
theorem dL_law_283 : decode cL_law 283 = .ok (.invokevirtual 23, 3) := by decide +kernel
theorem dL_law_286 : decode cL_law 286 = .ok (.aload_n 2, 1) := by decide +kernel
theorem dL_law_287 : decode cL_law 287 = .ok (.invokevirtual 27, 3) := by decide +kernel
theorem dL_law_290 : decode cL_law 290 = .ok (.if_icmp .eq 947, 3) := by decide +kernel
theorem dL_law_293 : decode cL_law 293 = .ok (.iconst 0, 1) := by decide +kernel
theorem dL_law_294 : decode cL_law 294 = .ok (.ireturn, 1) := by decide +kernel
theorem dL_law_295 : decode cL_law 295 = .ok (.aload_n 1, 1) := by decide +kernel
theorem dL_law_296 : decode cL_law 296 = .ok (.aload_n 0, 1) := by decide +kernel
theorem dL_law_297 : decode cL_law 297 = .ok (.iload_n 3, 1) := by decide +kernel
theorem dL_law_298 : decode cL_law 298 = .ok (.iconst 1, 1) := by decide +kernel
theorem dL_law_299 : decode cL_law 299 = .ok (.iadd, 1) := by decide +kernel
theorem dL_law_300 : decode cL_law 300 = .ok (.iaload, 1) := by decide +kernel
theorem dL_law_301 : decode cL_law 301 = .ok (.invokevirtual 28, 3) := by decide +kernel
theorem dL_law_304 : decode cL_law 304 = .ok (.aload_n 2, 1) := by decide +kernel
theorem dL_law_305 : decode cL_law 305 = .ok (.aload_n 0, 1) := by decide +kernel
theorem dL_law_306 : decode cL_law 306 = .ok (.iload_n 3, 1) := by decide +kernel
theorem dL_law_307 : decode cL_law 307 = .ok (.iconst 1, 1) := by decide +kernel
theorem dL_law_308 : decode cL_law 308 = .ok (.iadd, 1) := by decide +kernel
theorem dL_law_309 : decode cL_law 309 = .ok (.iaload, 1) := by decide +kernel
theorem dL_law_310 : decode cL_law 310 = .ok (.invokevirtual 31, 3) := by decide +kernel
theorem dL_law_313 : decode cL_law 313 = .ok (.if_icmp .eq 924, 3) := by decide +kernel
theorem dL_law_316 : decode cL_law 316 = .ok (.iconst 0, 1) := by decide +kernel
theorem dL_law_317 : decode cL_law 317 = .ok (.ireturn, 1) := by decide +kernel
theorem dL_law_318 : decode cL_law 318 = .ok (.aload_n 1, 1) := by decide +kernel
theorem dL_law_319 : decode cL_law 319 = .ok (.aload_n 0, 1) := by decide +kernel
theorem dL_law_320 : decode cL_law 320 = .ok (.iload_n 3, 1) := by decide +kernel
theorem dL_law_321 : decode cL_law 321 = .ok (.iconst 1, 1) := by decide +kernel
theorem dL_law_322 : decode cL_law 322 = .ok (.iadd, 1) := by decide +kernel
theorem dL_law_323 : decode cL_law 323 = .ok (.iaload, 1) := by decide +kernel
theorem dL_law_324 : decode cL_law 324 = .ok (.invokevirtual 32, 3) := by decide +kernel
theorem dL_law_327 : decode cL_law 327 = .ok (.aload_n 2, 1) := by decide +kernel
theorem dL_law_328 : decode cL_law 328 = .ok (.aload_n 0, 1) := by decide +kernel
theorem dL_law_329 : decode cL_law 329 = .ok (.iload_n 3, 1) := by decide +kernel
theorem dL_law_330 : decode cL_law 330 = .ok (.iconst 1, 1) := by decide +kernel
theorem dL_law_331 : decode cL_law 331 = .ok (.iadd, 1) := by decide +kernel
theorem dL_law_332 : decode cL_law 332 = .ok (.iaload, 1) := by decide +kernel
theorem dL_law_333 : decode cL_law 333 = .ok (.invokevirtual 35, 3) := by decide +kernel
theorem dL_law_336 : decode cL_law 336 = .ok (.if_icmp .eq 901, 3) := by decide +kernel
theorem dL_law_339 : decode cL_law 339 = .ok (.iconst 0, 1) := by decide +kernel
theorem dL_law_340 : decode cL_law 340 = .ok (.ireturn, 1) := by decide +kernel
theorem dL_law_341 : decode cL_law 341 = .ok (.aload_n 1, 1) := by decide +kernel
theorem dL_law_342 : decode cL_law 342 = .ok (.aload_n 0, 1) := by decide +kernel
theorem dL_law_343 : decode cL_law 343 = .ok (.iload_n 3, 1) := by decide +kernel
theorem dL_law_344 : decode cL_law 344 = .ok (.iconst 1, 1) := by decide +kernel
theorem dL_law_345 : decode cL_law 345 = .ok (.iadd, 1) := by decide +kernel
theorem dL_law_346 : decode cL_law 346 = .ok (.iaload, 1) := by decide +kernel
theorem dL_law_347 : decode cL_law 347 = .ok (.aload_n 0, 1) := by decide +kernel
theorem dL_law_348 : decode cL_law 348 = .ok (.iload_n 3, 1) := by decide +kernel
theorem dL_law_349 : decode cL_law 349 = .ok (.iconst 2, 1) := by decide +kernel
theorem dL_law_350 : decode cL_law 350 = .ok (.iadd, 1) := by decide +kernel
theorem dL_law_351 : decode cL_law 351 = .ok (.iaload, 1) := by decide +kernel
theorem dL_law_352 : decode cL_law 352 = .ok (.invokevirtual 36, 3) := by decide +kernel
theorem dL_law_355 : decode cL_law 355 = .ok (.aload_n 2, 1) := by decide +kernel
theorem dL_law_356 : decode cL_law 356 = .ok (.aload_n 0, 1) := by decide +kernel
theorem dL_law_357 : decode cL_law 357 = .ok (.iload_n 3, 1) := by decide +kernel
theorem dL_law_358 : decode cL_law 358 = .ok (.iconst 1, 1) := by decide +kernel
theorem dL_law_359 : decode cL_law 359 = .ok (.iadd, 1) := by decide +kernel
theorem dL_law_360 : decode cL_law 360 = .ok (.iaload, 1) := by decide +kernel
theorem dL_law_361 : decode cL_law 361 = .ok (.aload_n 0, 1) := by decide +kernel
theorem dL_law_362 : decode cL_law 362 = .ok (.iload_n 3, 1) := by decide +kernel
theorem dL_law_363 : decode cL_law 363 = .ok (.iconst 2, 1) := by decide +kernel
theorem dL_law_364 : decode cL_law 364 = .ok (.iadd, 1) := by decide +kernel
theorem dL_law_365 : decode cL_law 365 = .ok (.iaload, 1) := by decide +kernel
theorem dL_law_366 : decode cL_law 366 = .ok (.invokevirtual 40, 3) := by decide +kernel
theorem dL_law_369 : decode cL_law 369 = .ok (.if_icmp .eq 868, 3) := by decide +kernel
theorem dL_law_372 : decode cL_law 372 = .ok (.iconst 0, 1) := by decide +kernel
theorem dL_law_373 : decode cL_law 373 = .ok (.ireturn, 1) := by decide +kernel
theorem dL_law_374 : decode cL_law 374 = .ok (.aload_n 1, 1) := by decide +kernel
theorem dL_law_375 : decode cL_law 375 = .ok (.aload_n 0, 1) := by decide +kernel
theorem dL_law_376 : decode cL_law 376 = .ok (.iload_n 3, 1) := by decide +kernel
theorem dL_law_377 : decode cL_law 377 = .ok (.iconst 1, 1) := by decide +kernel
theorem dL_law_378 : decode cL_law 378 = .ok (.iadd, 1) := by decide +kernel
theorem dL_law_379 : decode cL_law 379 = .ok (.iaload, 1) := by decide +kernel
theorem dL_law_380 : decode cL_law 380 = .ok (.invokevirtual 41, 3) := by decide +kernel
theorem dL_law_383 : decode cL_law 383 = .ok (.aload_n 2, 1) := by decide +kernel
theorem dL_law_384 : decode cL_law 384 = .ok (.aload_n 0, 1) := by decide +kernel
theorem dL_law_385 : decode cL_law 385 = .ok (.iload_n 3, 1) := by decide +kernel
theorem dL_law_386 : decode cL_law 386 = .ok (.iconst 1, 1) := by decide +kernel
theorem dL_law_387 : decode cL_law 387 = .ok (.iadd, 1) := by decide +kernel
theorem dL_law_388 : decode cL_law 388 = .ok (.iaload, 1) := by decide +kernel
theorem dL_law_389 : decode cL_law 389 = .ok (.invokevirtual 44, 3) := by decide +kernel
theorem dL_law_392 : decode cL_law 392 = .ok (.if_icmp .eq 845, 3) := by decide +kernel
theorem dL_law_395 : decode cL_law 395 = .ok (.iconst 0, 1) := by decide +kernel
theorem dL_law_396 : decode cL_law 396 = .ok (.ireturn, 1) := by decide +kernel
theorem dL_law_397 : decode cL_law 397 = .ok (.aload_n 1, 1) := by decide +kernel
theorem dL_law_398 : decode cL_law 398 = .ok (.aload_n 0, 1) := by decide +kernel
theorem dL_law_399 : decode cL_law 399 = .ok (.iload_n 3, 1) := by decide +kernel
theorem dL_law_400 : decode cL_law 400 = .ok (.iconst 1, 1) := by decide +kernel
theorem dL_law_401 : decode cL_law 401 = .ok (.iadd, 1) := by decide +kernel
theorem dL_law_402 : decode cL_law 402 = .ok (.iaload, 1) := by decide +kernel
theorem dL_law_403 : decode cL_law 403 = .ok (.aload_n 0, 1) := by decide +kernel
theorem dL_law_404 : decode cL_law 404 = .ok (.iload_n 3, 1) := by decide +kernel
theorem dL_law_405 : decode cL_law 405 = .ok (.iconst 2, 1) := by decide +kernel
theorem dL_law_406 : decode cL_law 406 = .ok (.iadd, 1) := by decide +kernel
theorem dL_law_407 : decode cL_law 407 = .ok (.iaload, 1) := by decide +kernel
theorem dL_law_408 : decode cL_law 408 = .ok (.invokevirtual 45, 3) := by decide +kernel
theorem dL_law_411 : decode cL_law 411 = .ok (.aload_n 2, 1) := by decide +kernel
theorem dL_law_412 : decode cL_law 412 = .ok (.aload_n 0, 1) := by decide +kernel
theorem dL_law_413 : decode cL_law 413 = .ok (.iload_n 3, 1) := by decide +kernel
theorem dL_law_414 : decode cL_law 414 = .ok (.iconst 1, 1) := by decide +kernel
theorem dL_law_415 : decode cL_law 415 = .ok (.iadd, 1) := by decide +kernel
theorem dL_law_416 : decode cL_law 416 = .ok (.iaload, 1) := by decide +kernel
theorem dL_law_417 : decode cL_law 417 = .ok (.aload_n 0, 1) := by decide +kernel
theorem dL_law_418 : decode cL_law 418 = .ok (.iload_n 3, 1) := by decide +kernel
theorem dL_law_419 : decode cL_law 419 = .ok (.iconst 2, 1) := by decide +kernel
theorem dL_law_420 : decode cL_law 420 = .ok (.iadd, 1) := by decide +kernel
theorem dL_law_421 : decode cL_law 421 = .ok (.iaload, 1) := by decide +kernel
theorem dL_law_422 : decode cL_law 422 = .ok (.invokevirtual 48, 3) := by decide +kernel
theorem dL_law_425 : decode cL_law 425 = .ok (.if_icmp .eq 812, 3) := by decide +kernel
theorem dL_law_428 : decode cL_law 428 = .ok (.iconst 0, 1) := by decide +kernel
theorem dL_law_429 : decode cL_law 429 = .ok (.ireturn, 1) := by decide +kernel
theorem dL_law_430 : decode cL_law 430 = .ok (.aload_n 1, 1) := by decide +kernel
theorem dL_law_431 : decode cL_law 431 = .ok (.aload_n 0, 1) := by decide +kernel
theorem dL_law_432 : decode cL_law 432 = .ok (.iload_n 3, 1) := by decide +kernel
theorem dL_law_433 : decode cL_law 433 = .ok (.iconst 1, 1) := by decide +kernel
theorem dL_law_434 : decode cL_law 434 = .ok (.iadd, 1) := by decide +kernel
theorem dL_law_435 : decode cL_law 435 = .ok (.iaload, 1) := by decide +kernel
theorem dL_law_436 : decode cL_law 436 = .ok (.invokevirtual 49, 3) := by decide +kernel
theorem dL_law_439 : decode cL_law 439 = .ok (.aload_n 2, 1) := by decide +kernel
theorem dL_law_440 : decode cL_law 440 = .ok (.aload_n 0, 1) := by decide +kernel
theorem dL_law_441 : decode cL_law 441 = .ok (.iload_n 3, 1) := by decide +kernel
theorem dL_law_442 : decode cL_law 442 = .ok (.iconst 1, 1) := by decide +kernel
theorem dL_law_443 : decode cL_law 443 = .ok (.iadd, 1) := by decide +kernel
theorem dL_law_444 : decode cL_law 444 = .ok (.iaload, 1) := by decide +kernel
theorem dL_law_445 : decode cL_law 445 = .ok (.invokevirtual 52, 3) := by decide +kernel
theorem dL_law_448 : decode cL_law 448 = .ok (.if_icmp .eq 789, 3) := by decide +kernel
theorem dL_law_451 : decode cL_law 451 = .ok (.iconst 0, 1) := by decide +kernel
theorem dL_law_452 : decode cL_law 452 = .ok (.ireturn, 1) := by decide +kernel
theorem dL_law_453 : decode cL_law 453 = .ok (.aload_n 1, 1) := by decide +kernel
theorem dL_law_454 : decode cL_law 454 = .ok (.aload_n 0, 1) := by decide +kernel
theorem dL_law_455 : decode cL_law 455 = .ok (.iload_n 3, 1) := by decide +kernel
theorem dL_law_456 : decode cL_law 456 = .ok (.iconst 1, 1) := by decide +kernel
theorem dL_law_457 : decode cL_law 457 = .ok (.iadd, 1) := by decide +kernel
theorem dL_law_458 : decode cL_law 458 = .ok (.iaload, 1) := by decide +kernel
theorem dL_law_459 : decode cL_law 459 = .ok (.aload_n 0, 1) := by decide +kernel
theorem dL_law_460 : decode cL_law 460 = .ok (.iload_n 3, 1) := by decide +kernel
theorem dL_law_461 : decode cL_law 461 = .ok (.iconst 2, 1) := by decide +kernel
theorem dL_law_462 : decode cL_law 462 = .ok (.iadd, 1) := by decide +kernel
theorem dL_law_463 : decode cL_law 463 = .ok (.iaload, 1) := by decide +kernel
theorem dL_law_464 : decode cL_law 464 = .ok (.invokevirtual 53, 3) := by decide +kernel
theorem dL_law_467 : decode cL_law 467 = .ok (.aload_n 2, 1) := by decide +kernel
theorem dL_law_468 : decode cL_law 468 = .ok (.aload_n 0, 1) := by decide +kernel
theorem dL_law_469 : decode cL_law 469 = .ok (.iload_n 3, 1) := by decide +kernel
theorem dL_law_470 : decode cL_law 470 = .ok (.iconst 1, 1) := by decide +kernel
theorem dL_law_471 : decode cL_law 471 = .ok (.iadd, 1) := by decide +kernel
theorem dL_law_472 : decode cL_law 472 = .ok (.iaload, 1) := by decide +kernel
theorem dL_law_473 : decode cL_law 473 = .ok (.aload_n 0, 1) := by decide +kernel
theorem dL_law_474 : decode cL_law 474 = .ok (.iload_n 3, 1) := by decide +kernel
theorem dL_law_475 : decode cL_law 475 = .ok (.iconst 2, 1) := by decide +kernel
theorem dL_law_476 : decode cL_law 476 = .ok (.iadd, 1) := by decide +kernel
theorem dL_law_477 : decode cL_law 477 = .ok (.iaload, 1) := by decide +kernel
theorem dL_law_478 : decode cL_law 478 = .ok (.invokevirtual 57, 3) := by decide +kernel
theorem dL_law_481 : decode cL_law 481 = .ok (.if_icmp .eq 756, 3) := by decide +kernel
theorem dL_law_484 : decode cL_law 484 = .ok (.iconst 0, 1) := by decide +kernel
theorem dL_law_485 : decode cL_law 485 = .ok (.ireturn, 1) := by decide +kernel
theorem dL_law_486 : decode cL_law 486 = .ok (.aload_n 1, 1) := by decide +kernel
theorem dL_law_487 : decode cL_law 487 = .ok (.aload_n 0, 1) := by decide +kernel
theorem dL_law_488 : decode cL_law 488 = .ok (.iload_n 3, 1) := by decide +kernel
theorem dL_law_489 : decode cL_law 489 = .ok (.iconst 1, 1) := by decide +kernel
theorem dL_law_490 : decode cL_law 490 = .ok (.iadd, 1) := by decide +kernel
theorem dL_law_491 : decode cL_law 491 = .ok (.iaload, 1) := by decide +kernel
theorem dL_law_492 : decode cL_law 492 = .ok (.invokevirtual 58, 3) := by decide +kernel
theorem dL_law_495 : decode cL_law 495 = .ok (.aload_n 2, 1) := by decide +kernel
theorem dL_law_496 : decode cL_law 496 = .ok (.aload_n 0, 1) := by decide +kernel
theorem dL_law_497 : decode cL_law 497 = .ok (.iload_n 3, 1) := by decide +kernel
theorem dL_law_498 : decode cL_law 498 = .ok (.iconst 1, 1) := by decide +kernel
theorem dL_law_499 : decode cL_law 499 = .ok (.iadd, 1) := by decide +kernel
theorem dL_law_500 : decode cL_law 500 = .ok (.iaload, 1) := by decide +kernel
theorem dL_law_501 : decode cL_law 501 = .ok (.invokevirtual 61, 3) := by decide +kernel
theorem dL_law_504 : decode cL_law 504 = .ok (.if_icmp .eq 733, 3) := by decide +kernel
theorem dL_law_507 : decode cL_law 507 = .ok (.iconst 0, 1) := by decide +kernel
theorem dL_law_508 : decode cL_law 508 = .ok (.ireturn, 1) := by decide +kernel
theorem dL_law_509 : decode cL_law 509 = .ok (.aload_n 1, 1) := by decide +kernel
theorem dL_law_510 : decode cL_law 510 = .ok (.aload_n 0, 1) := by decide +kernel
theorem dL_law_511 : decode cL_law 511 = .ok (.iload_n 3, 1) := by decide +kernel
theorem dL_law_512 : decode cL_law 512 = .ok (.iconst 1, 1) := by decide +kernel
theorem dL_law_513 : decode cL_law 513 = .ok (.iadd, 1) := by decide +kernel
theorem dL_law_514 : decode cL_law 514 = .ok (.iaload, 1) := by decide +kernel
theorem dL_law_515 : decode cL_law 515 = .ok (.invokevirtual 62, 3) := by decide +kernel
theorem dL_law_518 : decode cL_law 518 = .ok (.aload_n 2, 1) := by decide +kernel
theorem dL_law_519 : decode cL_law 519 = .ok (.aload_n 0, 1) := by decide +kernel
theorem dL_law_520 : decode cL_law 520 = .ok (.iload_n 3, 1) := by decide +kernel
theorem dL_law_521 : decode cL_law 521 = .ok (.iconst 1, 1) := by decide +kernel
theorem dL_law_522 : decode cL_law 522 = .ok (.iadd, 1) := by decide +kernel
theorem dL_law_523 : decode cL_law 523 = .ok (.iaload, 1) := by decide +kernel
theorem dL_law_524 : decode cL_law 524 = .ok (.invokevirtual 66, 3) := by decide +kernel
theorem dL_law_527 : decode cL_law 527 = .ok (.if_icmp .eq 710, 3) := by decide +kernel
theorem dL_law_530 : decode cL_law 530 = .ok (.iconst 0, 1) := by decide +kernel
theorem dL_law_531 : decode cL_law 531 = .ok (.ireturn, 1) := by decide +kernel
theorem dL_law_532 : decode cL_law 532 = .ok (.aload_n 1, 1) := by decide +kernel
theorem dL_law_533 : decode cL_law 533 = .ok (.aload_n 0, 1) := by decide +kernel
theorem dL_law_534 : decode cL_law 534 = .ok (.iload_n 3, 1) := by decide +kernel
theorem dL_law_535 : decode cL_law 535 = .ok (.iconst 1, 1) := by decide +kernel
theorem dL_law_536 : decode cL_law 536 = .ok (.iadd, 1) := by decide +kernel
theorem dL_law_537 : decode cL_law 537 = .ok (.iaload, 1) := by decide +kernel
theorem dL_law_538 : decode cL_law 538 = .ok (.aload_n 0, 1) := by decide +kernel
theorem dL_law_539 : decode cL_law 539 = .ok (.iload_n 3, 1) := by decide +kernel
theorem dL_law_540 : decode cL_law 540 = .ok (.iconst 2, 1) := by decide +kernel
theorem dL_law_541 : decode cL_law 541 = .ok (.iadd, 1) := by decide +kernel
theorem dL_law_542 : decode cL_law 542 = .ok (.iaload, 1) := by decide +kernel
theorem dL_law_543 : decode cL_law 543 = .ok (.invokevirtual 67, 3) := by decide +kernel
theorem dL_law_546 : decode cL_law 546 = .ok (.aload_n 2, 1) := by decide +kernel
theorem dL_law_547 : decode cL_law 547 = .ok (.aload_n 0, 1) := by decide +kernel
theorem dL_law_548 : decode cL_law 548 = .ok (.iload_n 3, 1) := by decide +kernel
theorem dL_law_549 : decode cL_law 549 = .ok (.iconst 1, 1) := by decide +kernel
theorem dL_law_550 : decode cL_law 550 = .ok (.iadd, 1) := by decide +kernel
theorem dL_law_551 : decode cL_law 551 = .ok (.iaload, 1) := by decide +kernel
theorem dL_law_552 : decode cL_law 552 = .ok (.aload_n 0, 1) := by decide +kernel
theorem dL_law_553 : decode cL_law 553 = .ok (.iload_n 3, 1) := by decide +kernel
theorem dL_law_554 : decode cL_law 554 = .ok (.iconst 2, 1) := by decide +kernel
theorem dL_law_555 : decode cL_law 555 = .ok (.iadd, 1) := by decide +kernel
theorem dL_law_556 : decode cL_law 556 = .ok (.iaload, 1) := by decide +kernel
theorem dL_law_557 : decode cL_law 557 = .ok (.invokevirtual 70, 3) := by decide +kernel
theorem dL_law_560 : decode cL_law 560 = .ok (.if_icmp .eq 677, 3) := by decide +kernel
theorem dL_law_563 : decode cL_law 563 = .ok (.iconst 0, 1) := by decide +kernel
theorem dL_law_564 : decode cL_law 564 = .ok (.ireturn, 1) := by decide +kernel
theorem dL_law_565 : decode cL_law 565 = .ok (.aload_n 1, 1) := by decide +kernel
theorem dL_law_566 : decode cL_law 566 = .ok (.aload_n 0, 1) := by decide +kernel
theorem dL_law_567 : decode cL_law 567 = .ok (.iload_n 3, 1) := by decide +kernel
theorem dL_law_568 : decode cL_law 568 = .ok (.iconst 1, 1) := by decide +kernel
theorem dL_law_569 : decode cL_law 569 = .ok (.iadd, 1) := by decide +kernel
theorem dL_law_570 : decode cL_law 570 = .ok (.iaload, 1) := by decide +kernel
theorem dL_law_571 : decode cL_law 571 = .ok (.invokevirtual 71, 3) := by decide +kernel
theorem dL_law_574 : decode cL_law 574 = .ok (.aload_n 2, 1) := by decide +kernel
theorem dL_law_575 : decode cL_law 575 = .ok (.aload_n 0, 1) := by decide +kernel
theorem dL_law_576 : decode cL_law 576 = .ok (.iload_n 3, 1) := by decide +kernel
theorem dL_law_577 : decode cL_law 577 = .ok (.iconst 1, 1) := by decide +kernel
theorem dL_law_578 : decode cL_law 578 = .ok (.iadd, 1) := by decide +kernel
theorem dL_law_579 : decode cL_law 579 = .ok (.iaload, 1) := by decide +kernel
theorem dL_law_580 : decode cL_law 580 = .ok (.invokevirtual 74, 3) := by decide +kernel
theorem dL_law_583 : decode cL_law 583 = .ok (.if_icmp .eq 654, 3) := by decide +kernel
theorem dL_law_586 : decode cL_law 586 = .ok (.iconst 0, 1) := by decide +kernel
theorem dL_law_587 : decode cL_law 587 = .ok (.ireturn, 1) := by decide +kernel
theorem dL_law_588 : decode cL_law 588 = .ok (.aload_n 1, 1) := by decide +kernel
theorem dL_law_589 : decode cL_law 589 = .ok (.aload_n 0, 1) := by decide +kernel
theorem dL_law_590 : decode cL_law 590 = .ok (.iload_n 3, 1) := by decide +kernel
theorem dL_law_591 : decode cL_law 591 = .ok (.iconst 1, 1) := by decide +kernel
theorem dL_law_592 : decode cL_law 592 = .ok (.iadd, 1) := by decide +kernel
theorem dL_law_593 : decode cL_law 593 = .ok (.iaload, 1) := by decide +kernel
theorem dL_law_594 : decode cL_law 594 = .ok (.aload_n 0, 1) := by decide +kernel
theorem dL_law_595 : decode cL_law 595 = .ok (.iload_n 3, 1) := by decide +kernel
theorem dL_law_596 : decode cL_law 596 = .ok (.iconst 2, 1) := by decide +kernel
theorem dL_law_597 : decode cL_law 597 = .ok (.iadd, 1) := by decide +kernel
theorem dL_law_598 : decode cL_law 598 = .ok (.iaload, 1) := by decide +kernel
theorem dL_law_599 : decode cL_law 599 = .ok (.invokevirtual 75, 3) := by decide +kernel
theorem dL_law_602 : decode cL_law 602 = .ok (.aload_n 2, 1) := by decide +kernel
theorem dL_law_603 : decode cL_law 603 = .ok (.aload_n 0, 1) := by decide +kernel
theorem dL_law_604 : decode cL_law 604 = .ok (.iload_n 3, 1) := by decide +kernel
theorem dL_law_605 : decode cL_law 605 = .ok (.iconst 1, 1) := by decide +kernel
theorem dL_law_606 : decode cL_law 606 = .ok (.iadd, 1) := by decide +kernel
theorem dL_law_607 : decode cL_law 607 = .ok (.iaload, 1) := by decide +kernel
theorem dL_law_608 : decode cL_law 608 = .ok (.aload_n 0, 1) := by decide +kernel
theorem dL_law_609 : decode cL_law 609 = .ok (.iload_n 3, 1) := by decide +kernel
theorem dL_law_610 : decode cL_law 610 = .ok (.iconst 2, 1) := by decide +kernel
theorem dL_law_611 : decode cL_law 611 = .ok (.iadd, 1) := by decide +kernel
theorem dL_law_612 : decode cL_law 612 = .ok (.iaload, 1) := by decide +kernel
theorem dL_law_613 : decode cL_law 613 = .ok (.invokevirtual 78, 3) := by decide +kernel
theorem dL_law_616 : decode cL_law 616 = .ok (.if_icmp .eq 621, 3) := by decide +kernel
theorem dL_law_619 : decode cL_law 619 = .ok (.iconst 0, 1) := by decide +kernel
theorem dL_law_620 : decode cL_law 620 = .ok (.ireturn, 1) := by decide +kernel
theorem dL_law_621 : decode cL_law 621 = .ok (.aload_n 1, 1) := by decide +kernel
theorem dL_law_622 : decode cL_law 622 = .ok (.aload_n 0, 1) := by decide +kernel
theorem dL_law_623 : decode cL_law 623 = .ok (.iload_n 3, 1) := by decide +kernel
theorem dL_law_624 : decode cL_law 624 = .ok (.iconst 1, 1) := by decide +kernel
theorem dL_law_625 : decode cL_law 625 = .ok (.iadd, 1) := by decide +kernel
theorem dL_law_626 : decode cL_law 626 = .ok (.iaload, 1) := by decide +kernel
theorem dL_law_627 : decode cL_law 627 = .ok (.invokevirtual 79, 3) := by decide +kernel
theorem dL_law_630 : decode cL_law 630 = .ok (.aload_n 2, 1) := by decide +kernel
theorem dL_law_631 : decode cL_law 631 = .ok (.aload_n 0, 1) := by decide +kernel
theorem dL_law_632 : decode cL_law 632 = .ok (.iload_n 3, 1) := by decide +kernel
theorem dL_law_633 : decode cL_law 633 = .ok (.iconst 1, 1) := by decide +kernel
theorem dL_law_634 : decode cL_law 634 = .ok (.iadd, 1) := by decide +kernel
theorem dL_law_635 : decode cL_law 635 = .ok (.iaload, 1) := by decide +kernel
theorem dL_law_636 : decode cL_law 636 = .ok (.invokevirtual 82, 3) := by decide +kernel
theorem dL_law_639 : decode cL_law 639 = .ok (.if_icmp .eq 598, 3) := by decide +kernel
theorem dL_law_642 : decode cL_law 642 = .ok (.iconst 0, 1) := by decide +kernel
theorem dL_law_643 : decode cL_law 643 = .ok (.ireturn, 1) := by decide +kernel
theorem dL_law_644 : decode cL_law 644 = .ok (.aload_n 1, 1) := by decide +kernel
theorem dL_law_645 : decode cL_law 645 = .ok (.invokevirtual 83, 3) := by decide +kernel
theorem dL_law_648 : decode cL_law 648 = .ok (.aload_n 2, 1) := by decide +kernel
theorem dL_law_649 : decode cL_law 649 = .ok (.invokevirtual 86, 3) := by decide +kernel
theorem dL_law_652 : decode cL_law 652 = .ok (.if_icmp .eq 585, 3) := by decide +kernel
theorem dL_law_655 : decode cL_law 655 = .ok (.iconst 0, 1) := by decide +kernel
theorem dL_law_656 : decode cL_law 656 = .ok (.ireturn, 1) := by decide +kernel
theorem dL_law_657 : decode cL_law 657 = .ok (.aload_n 1, 1) := by decide +kernel
theorem dL_law_658 : decode cL_law 658 = .ok (.aload_n 0, 1) := by decide +kernel
theorem dL_law_659 : decode cL_law 659 = .ok (.iload_n 3, 1) := by decide +kernel
theorem dL_law_660 : decode cL_law 660 = .ok (.iconst 1, 1) := by decide +kernel
theorem dL_law_661 : decode cL_law 661 = .ok (.iadd, 1) := by decide +kernel
theorem dL_law_662 : decode cL_law 662 = .ok (.iaload, 1) := by decide +kernel
theorem dL_law_663 : decode cL_law 663 = .ok (.invokevirtual 87, 3) := by decide +kernel
theorem dL_law_666 : decode cL_law 666 = .ok (.aload_n 2, 1) := by decide +kernel
theorem dL_law_667 : decode cL_law 667 = .ok (.aload_n 0, 1) := by decide +kernel
theorem dL_law_668 : decode cL_law 668 = .ok (.iload_n 3, 1) := by decide +kernel
theorem dL_law_669 : decode cL_law 669 = .ok (.iconst 1, 1) := by decide +kernel
theorem dL_law_670 : decode cL_law 670 = .ok (.iadd, 1) := by decide +kernel
theorem dL_law_671 : decode cL_law 671 = .ok (.iaload, 1) := by decide +kernel
theorem dL_law_672 : decode cL_law 672 = .ok (.invokevirtual 90, 3) := by decide +kernel
theorem dL_law_675 : decode cL_law 675 = .ok (.if_icmp .eq 562, 3) := by decide +kernel
theorem dL_law_678 : decode cL_law 678 = .ok (.iconst 0, 1) := by decide +kernel
theorem dL_law_679 : decode cL_law 679 = .ok (.ireturn, 1) := by decide +kernel
theorem dL_law_680 : decode cL_law 680 = .ok (.aload_n 1, 1) := by decide +kernel
theorem dL_law_681 : decode cL_law 681 = .ok (.aload_n 0, 1) := by decide +kernel
theorem dL_law_682 : decode cL_law 682 = .ok (.iload_n 3, 1) := by decide +kernel
theorem dL_law_683 : decode cL_law 683 = .ok (.iconst 1, 1) := by decide +kernel
theorem dL_law_684 : decode cL_law 684 = .ok (.iadd, 1) := by decide +kernel
theorem dL_law_685 : decode cL_law 685 = .ok (.iaload, 1) := by decide +kernel
theorem dL_law_686 : decode cL_law 686 = .ok (.aload_n 0, 1) := by decide +kernel
theorem dL_law_687 : decode cL_law 687 = .ok (.iload_n 3, 1) := by decide +kernel
theorem dL_law_688 : decode cL_law 688 = .ok (.iconst 2, 1) := by decide +kernel
theorem dL_law_689 : decode cL_law 689 = .ok (.iadd, 1) := by decide +kernel
theorem dL_law_690 : decode cL_law 690 = .ok (.iaload, 1) := by decide +kernel
theorem dL_law_691 : decode cL_law 691 = .ok (.invokevirtual 91, 3) := by decide +kernel
theorem dL_law_694 : decode cL_law 694 = .ok (.aload_n 2, 1) := by decide +kernel
theorem dL_law_695 : decode cL_law 695 = .ok (.aload_n 0, 1) := by decide +kernel
theorem dL_law_696 : decode cL_law 696 = .ok (.iload_n 3, 1) := by decide +kernel
theorem dL_law_697 : decode cL_law 697 = .ok (.iconst 1, 1) := by decide +kernel
theorem dL_law_698 : decode cL_law 698 = .ok (.iadd, 1) := by decide +kernel
theorem dL_law_699 : decode cL_law 699 = .ok (.iaload, 1) := by decide +kernel
theorem dL_law_700 : decode cL_law 700 = .ok (.aload_n 0, 1) := by decide +kernel
theorem dL_law_701 : decode cL_law 701 = .ok (.iload_n 3, 1) := by decide +kernel
theorem dL_law_702 : decode cL_law 702 = .ok (.iconst 2, 1) := by decide +kernel
theorem dL_law_703 : decode cL_law 703 = .ok (.iadd, 1) := by decide +kernel
theorem dL_law_704 : decode cL_law 704 = .ok (.iaload, 1) := by decide +kernel
theorem dL_law_705 : decode cL_law 705 = .ok (.invokevirtual 94, 3) := by decide +kernel
theorem dL_law_708 : decode cL_law 708 = .ok (.if_icmp .eq 529, 3) := by decide +kernel
theorem dL_law_711 : decode cL_law 711 = .ok (.iconst 0, 1) := by decide +kernel
theorem dL_law_712 : decode cL_law 712 = .ok (.ireturn, 1) := by decide +kernel
theorem dL_law_713 : decode cL_law 713 = .ok (.aload_n 1, 1) := by decide +kernel
theorem dL_law_714 : decode cL_law 714 = .ok (.aload_n 0, 1) := by decide +kernel
theorem dL_law_715 : decode cL_law 715 = .ok (.iload_n 3, 1) := by decide +kernel
theorem dL_law_716 : decode cL_law 716 = .ok (.iconst 1, 1) := by decide +kernel
theorem dL_law_717 : decode cL_law 717 = .ok (.iadd, 1) := by decide +kernel
theorem dL_law_718 : decode cL_law 718 = .ok (.iaload, 1) := by decide +kernel
theorem dL_law_719 : decode cL_law 719 = .ok (.aload_n 0, 1) := by decide +kernel
theorem dL_law_720 : decode cL_law 720 = .ok (.iload_n 3, 1) := by decide +kernel
theorem dL_law_721 : decode cL_law 721 = .ok (.iconst 2, 1) := by decide +kernel
theorem dL_law_722 : decode cL_law 722 = .ok (.iadd, 1) := by decide +kernel
theorem dL_law_723 : decode cL_law 723 = .ok (.iaload, 1) := by decide +kernel
theorem dL_law_724 : decode cL_law 724 = .ok (.invokevirtual 95, 3) := by decide +kernel
theorem dL_law_727 : decode cL_law 727 = .ok (.aload_n 2, 1) := by decide +kernel
theorem dL_law_728 : decode cL_law 728 = .ok (.aload_n 0, 1) := by decide +kernel
theorem dL_law_729 : decode cL_law 729 = .ok (.iload_n 3, 1) := by decide +kernel
theorem dL_law_730 : decode cL_law 730 = .ok (.iconst 1, 1) := by decide +kernel
theorem dL_law_731 : decode cL_law 731 = .ok (.iadd, 1) := by decide +kernel
theorem dL_law_732 : decode cL_law 732 = .ok (.iaload, 1) := by decide +kernel
theorem dL_law_733 : decode cL_law 733 = .ok (.aload_n 0, 1) := by decide +kernel
theorem dL_law_734 : decode cL_law 734 = .ok (.iload_n 3, 1) := by decide +kernel
theorem dL_law_735 : decode cL_law 735 = .ok (.iconst 2, 1) := by decide +kernel
theorem dL_law_736 : decode cL_law 736 = .ok (.iadd, 1) := by decide +kernel
theorem dL_law_737 : decode cL_law 737 = .ok (.iaload, 1) := by decide +kernel
theorem dL_law_738 : decode cL_law 738 = .ok (.invokevirtual 98, 3) := by decide +kernel
theorem dL_law_741 : decode cL_law 741 = .ok (.if_icmp .eq 496, 3) := by decide +kernel
theorem dL_law_744 : decode cL_law 744 = .ok (.iconst 0, 1) := by decide +kernel
theorem dL_law_745 : decode cL_law 745 = .ok (.ireturn, 1) := by decide +kernel
theorem dL_law_746 : decode cL_law 746 = .ok (.aload_n 1, 1) := by decide +kernel
theorem dL_law_747 : decode cL_law 747 = .ok (.aload_n 0, 1) := by decide +kernel
theorem dL_law_748 : decode cL_law 748 = .ok (.iload_n 3, 1) := by decide +kernel
theorem dL_law_749 : decode cL_law 749 = .ok (.iconst 1, 1) := by decide +kernel
theorem dL_law_750 : decode cL_law 750 = .ok (.iadd, 1) := by decide +kernel
theorem dL_law_751 : decode cL_law 751 = .ok (.iaload, 1) := by decide +kernel
theorem dL_law_752 : decode cL_law 752 = .ok (.aload_n 0, 1) := by decide +kernel
theorem dL_law_753 : decode cL_law 753 = .ok (.iload_n 3, 1) := by decide +kernel
theorem dL_law_754 : decode cL_law 754 = .ok (.iconst 2, 1) := by decide +kernel
theorem dL_law_755 : decode cL_law 755 = .ok (.iadd, 1) := by decide +kernel
theorem dL_law_756 : decode cL_law 756 = .ok (.iaload, 1) := by decide +kernel
theorem dL_law_757 : decode cL_law 757 = .ok (.aload_n 0, 1) := by decide +kernel
theorem dL_law_758 : decode cL_law 758 = .ok (.iload_n 3, 1) := by decide +kernel
theorem dL_law_759 : decode cL_law 759 = .ok (.iconst 3, 1) := by decide +kernel
theorem dL_law_760 : decode cL_law 760 = .ok (.iadd, 1) := by decide +kernel
theorem dL_law_761 : decode cL_law 761 = .ok (.iaload, 1) := by decide +kernel
theorem dL_law_762 : decode cL_law 762 = .ok (.invokevirtual 99, 3) := by decide +kernel
theorem dL_law_765 : decode cL_law 765 = .ok (.aload_n 2, 1) := by decide +kernel
theorem dL_law_766 : decode cL_law 766 = .ok (.aload_n 0, 1) := by decide +kernel
theorem dL_law_767 : decode cL_law 767 = .ok (.iload_n 3, 1) := by decide +kernel
theorem dL_law_768 : decode cL_law 768 = .ok (.iconst 1, 1) := by decide +kernel
theorem dL_law_769 : decode cL_law 769 = .ok (.iadd, 1) := by decide +kernel
theorem dL_law_770 : decode cL_law 770 = .ok (.iaload, 1) := by decide +kernel
theorem dL_law_771 : decode cL_law 771 = .ok (.aload_n 0, 1) := by decide +kernel
theorem dL_law_772 : decode cL_law 772 = .ok (.iload_n 3, 1) := by decide +kernel
theorem dL_law_773 : decode cL_law 773 = .ok (.iconst 2, 1) := by decide +kernel
theorem dL_law_774 : decode cL_law 774 = .ok (.iadd, 1) := by decide +kernel
theorem dL_law_775 : decode cL_law 775 = .ok (.iaload, 1) := by decide +kernel
theorem dL_law_776 : decode cL_law 776 = .ok (.aload_n 0, 1) := by decide +kernel
theorem dL_law_777 : decode cL_law 777 = .ok (.iload_n 3, 1) := by decide +kernel
theorem dL_law_778 : decode cL_law 778 = .ok (.iconst 3, 1) := by decide +kernel
theorem dL_law_779 : decode cL_law 779 = .ok (.iadd, 1) := by decide +kernel
theorem dL_law_780 : decode cL_law 780 = .ok (.iaload, 1) := by decide +kernel
theorem dL_law_781 : decode cL_law 781 = .ok (.invokevirtual 103, 3) := by decide +kernel
theorem dL_law_784 : decode cL_law 784 = .ok (.if_icmp .eq 453, 3) := by decide +kernel
theorem dL_law_787 : decode cL_law 787 = .ok (.iconst 0, 1) := by decide +kernel
theorem dL_law_788 : decode cL_law 788 = .ok (.ireturn, 1) := by decide +kernel
theorem dL_law_789 : decode cL_law 789 = .ok (.aload_n 1, 1) := by decide +kernel
theorem dL_law_790 : decode cL_law 790 = .ok (.aload_n 0, 1) := by decide +kernel
theorem dL_law_791 : decode cL_law 791 = .ok (.iload_n 3, 1) := by decide +kernel
theorem dL_law_792 : decode cL_law 792 = .ok (.iconst 1, 1) := by decide +kernel
theorem dL_law_793 : decode cL_law 793 = .ok (.iadd, 1) := by decide +kernel
theorem dL_law_794 : decode cL_law 794 = .ok (.iaload, 1) := by decide +kernel
theorem dL_law_795 : decode cL_law 795 = .ok (.invokevirtual 104, 3) := by decide +kernel
theorem dL_law_798 : decode cL_law 798 = .ok (.aload_n 2, 1) := by decide +kernel
theorem dL_law_799 : decode cL_law 799 = .ok (.aload_n 0, 1) := by decide +kernel
theorem dL_law_800 : decode cL_law 800 = .ok (.iload_n 3, 1) := by decide +kernel
theorem dL_law_801 : decode cL_law 801 = .ok (.iconst 1, 1) := by decide +kernel
theorem dL_law_802 : decode cL_law 802 = .ok (.iadd, 1) := by decide +kernel
theorem dL_law_803 : decode cL_law 803 = .ok (.iaload, 1) := by decide +kernel
theorem dL_law_804 : decode cL_law 804 = .ok (.invokevirtual 107, 3) := by decide +kernel
theorem dL_law_807 : decode cL_law 807 = .ok (.if_icmp .eq 430, 3) := by decide +kernel
theorem dL_law_810 : decode cL_law 810 = .ok (.iconst 0, 1) := by decide +kernel
theorem dL_law_811 : decode cL_law 811 = .ok (.ireturn, 1) := by decide +kernel
theorem dL_law_812 : decode cL_law 812 = .ok (.aload_n 1, 1) := by decide +kernel
theorem dL_law_813 : decode cL_law 813 = .ok (.invokevirtual 108, 3) := by decide +kernel
theorem dL_law_816 : decode cL_law 816 = .ok (.aload_n 2, 1) := by decide +kernel
theorem dL_law_817 : decode cL_law 817 = .ok (.invokevirtual 111, 3) := by decide +kernel
theorem dL_law_820 : decode cL_law 820 = .ok (.if_icmp .eq 417, 3) := by decide +kernel
theorem dL_law_823 : decode cL_law 823 = .ok (.iconst 0, 1) := by decide +kernel
theorem dL_law_824 : decode cL_law 824 = .ok (.ireturn, 1) := by decide +kernel
theorem dL_law_825 : decode cL_law 825 = .ok (.aload_n 1, 1) := by decide +kernel
theorem dL_law_826 : decode cL_law 826 = .ok (.aload_n 0, 1) := by decide +kernel
theorem dL_law_827 : decode cL_law 827 = .ok (.iload_n 3, 1) := by decide +kernel
theorem dL_law_828 : decode cL_law 828 = .ok (.iconst 1, 1) := by decide +kernel
theorem dL_law_829 : decode cL_law 829 = .ok (.iadd, 1) := by decide +kernel
theorem dL_law_830 : decode cL_law 830 = .ok (.iaload, 1) := by decide +kernel
theorem dL_law_831 : decode cL_law 831 = .ok (.invokevirtual 112, 3) := by decide +kernel
theorem dL_law_834 : decode cL_law 834 = .ok (.aload_n 2, 1) := by decide +kernel
theorem dL_law_835 : decode cL_law 835 = .ok (.aload_n 0, 1) := by decide +kernel
theorem dL_law_836 : decode cL_law 836 = .ok (.iload_n 3, 1) := by decide +kernel
theorem dL_law_837 : decode cL_law 837 = .ok (.iconst 1, 1) := by decide +kernel
theorem dL_law_838 : decode cL_law 838 = .ok (.iadd, 1) := by decide +kernel
theorem dL_law_839 : decode cL_law 839 = .ok (.iaload, 1) := by decide +kernel
theorem dL_law_840 : decode cL_law 840 = .ok (.invokevirtual 115, 3) := by decide +kernel
theorem dL_law_843 : decode cL_law 843 = .ok (.if_icmp .eq 394, 3) := by decide +kernel
