theorem dX7_clear_17 : decode cX7_clear 17 = .ok (.putfield 65, 3) := by decide +kernel
theorem dX7_clear_20 : decode cX7_clear 20 = .ok (.aload_n 0, 1) := by decide +kernel
theorem dX7_clear_21 : decode cX7_clear 21 = .ok (.iconst 0, 1) := by decide +kernel
theorem dX7_clear_22 : decode cX7_clear 22 = .ok (.putfield 68, 3) := by decide +kernel
theorem dX7_clear_25 : decode cX7_clear 25 = .ok (.aload_n 0, 1) := by decide +kernel
theorem dX7_clear_26 : decode cX7_clear 26 = .ok (.iconst 1, 1) := by decide +kernel
theorem dX7_clear_27 : decode cX7_clear 27 = .ok (.putfield 71, 3) := by decide +kernel
theorem dX7_clear_30 : decode cX7_clear 30 = .ok (.aload_n 0, 1) := by decide +kernel
theorem dX7_clear_31 : decode cX7_clear 31 = .ok (.sipush 200, 3) := by decide +kernel
theorem dX7_clear_34 : decode cX7_clear 34 = .ok (.putfield 74, 3) := by decide +kernel
theorem dX7_clear_37 : decode cX7_clear 37 = .ok (.aload_n 0, 1) := by decide +kernel
theorem dX7_clear_38 : decode cX7_clear 38 = .ok (.iconst 0, 1) := by decide +kernel
theorem dX7_clear_39 : decode cX7_clear 39 = .ok (.putfield 77, 3) := by decide +kernel
theorem dX7_clear_42 : decode cX7_clear 42 = .ok (.aload_n 0, 1) := by decide +kernel
theorem dX7_clear_43 : decode cX7_clear 43 = .ok (.getfield 17, 3) := by decide +kernel
theorem dX7_clear_46 : decode cX7_clear 46 = .ok (.iconst (-1), 1) := by decide +kernel
theorem dX7_clear_47 : decode cX7_clear 47 = .ok (.invokestatic 80, 3) := by decide +kernel
theorem dX7_clear_50 : decode cX7_clear 50 = .ok (.aload_n 0, 1) := by decide +kernel
theorem dX7_clear_51 : decode cX7_clear 51 = .ok (.getfield 21, 3) := by decide +kernel
theorem dX7_clear_54 : decode cX7_clear 54 = .ok (.iconst 0, 1) := by decide +kernel
theorem dX7_clear_55 : decode cX7_clear 55 = .ok (.invokestatic 80, 3) := by decide +kernel
theorem dX7_clear_58 : decode cX7_clear 58 = .ok (.iconst 0, 1) := by decide +kernel
theorem dX7_clear_59 : decode cX7_clear 59 = .ok (.istore_n 1, 1) := by decide +kernel
theorem dX7_clear_60 : decode cX7_clear 60 = .ok (.iload_n 1, 1) := by decide +kernel
theorem dX7_clear_61 : decode cX7_clear 61 = .ok (.iconst 4, 1) := by decide +kernel
theorem dX7_clear_62 : decode cX7_clear 62 = .ok (.if_icmp .ge 19, 3) := by decide +kernel
theorem dX7_clear_65 : decode cX7_clear 65 = .ok (.aload_n 0, 1) := by decide +kernel
theorem dX7_clear_66 : decode cX7_clear 66 = .ok (.getfield 32, 3) := by decide +kernel
theorem dX7_clear_69 : decode cX7_clear 69 = .ok (.iload_n 1, 1) := by decide +kernel
theorem dX7_clear_70 : decode cX7_clear 70 = .ok (.aaload, 1) := by decide +kernel
theorem dX7_clear_71 : decode cX7_clear 71 = .ok (.iconst 0, 1) := by decide +kernel
theorem dX7_clear_72 : decode cX7_clear 72 = .ok (.invokestatic 80, 3) := by decide +kernel
theorem dX7_clear_75 : decode cX7_clear 75 = .ok (.iinc 1 1, 3) := by decide +kernel
theorem dX7_clear_78 : decode cX7_clear 78 = .ok (.goto (-18), 3) := by decide +kernel
theorem dX7_clear_81 : decode cX7_clear 81 = .ok (.aload_n 0, 1) := by decide +kernel
theorem dX7_clear_82 : decode cX7_clear 82 = .ok (.getfield 47, 3) := by decide +kernel
theorem dX7_clear_85 : decode cX7_clear 85 = .ok (.invokevirtual 86, 3) := by decide +kernel
theorem dX7_clear_88 : decode cX7_clear 88 = .ok (.return_, 1) := by decide +kernel
theorem dX7_coasted_0 : decode cX7_coasted 0 = .ok (.iload_n 1, 1) := by decide +kernel
theorem dX7_coasted_1 : decode cX7_coasted 1 = .ok (.aload_n 0, 1) := by decide +kernel
theorem dX7_coasted_2 : decode cX7_coasted 2 = .ok (.iload_n 2, 1) := by decide +kernel
theorem dX7_coasted_3 : decode cX7_coasted 3 = .ok (.invokevirtual 112, 3) := by decide +kernel
theorem dX7_coasted_6 : decode cX7_coasted 6 = .ok (.isub, 1) := by decide +kernel
theorem dX7_coasted_7 : decode cX7_coasted 7 = .ok (.istore_n 3, 1) := by decide +kernel
theorem dX7_coasted_8 : decode cX7_coasted 8 = .ok (.iload_n 3, 1) := by decide +kernel
theorem dX7_coasted_9 : decode cX7_coasted 9 = .ok (.ifCond .le 16, 3) := by decide +kernel
theorem dX7_coasted_12 : decode cX7_coasted 12 = .ok (.iload_n 3, 1) := by decide +kernel
theorem dX7_coasted_13 : decode cX7_coasted 13 = .ok (.aload_n 0, 1) := by decide +kernel
theorem dX7_coasted_14 : decode cX7_coasted 14 = .ok (.getfield 71, 3) := by decide +kernel
theorem dX7_coasted_17 : decode cX7_coasted 17 = .ok (.isub, 1) := by decide +kernel
theorem dX7_coasted_18 : decode cX7_coasted 18 = .ok (.iconst 0, 1) := by decide +kernel
theorem dX7_coasted_19 : decode cX7_coasted 19 = .ok (.invokestatic 100, 3) := by decide +kernel
theorem dX7_coasted_22 : decode cX7_coasted 22 = .ok (.goto 13, 3) := by decide +kernel
theorem dX7_coasted_25 : decode cX7_coasted 25 = .ok (.iload_n 3, 1) := by decide +kernel
theorem dX7_coasted_26 : decode cX7_coasted 26 = .ok (.aload_n 0, 1) := by decide +kernel
theorem dX7_coasted_27 : decode cX7_coasted 27 = .ok (.getfield 71, 3) := by decide +kernel
theorem dX7_coasted_30 : decode cX7_coasted 30 = .ok (.iadd, 1) := by decide +kernel
theorem dX7_coasted_31 : decode cX7_coasted 31 = .ok (.iconst 0, 1) := by decide +kernel
theorem dX7_coasted_32 : decode cX7_coasted 32 = .ok (.invokestatic 121, 3) := by decide +kernel
theorem dX7_coasted_35 : decode cX7_coasted 35 = .ok (.ireturn, 1) := by decide +kernel
theorem dX7_grade_0 : decode cX7_grade 0 = .ok (.iload_n 1, 1) := by decide +kernel
theorem dX7_grade_1 : decode cX7_grade 1 = .ok (.ifCond .lt 18, 3) := by decide +kernel
theorem dX7_grade_4 : decode cX7_grade 4 = .ok (.iload_n 1, 1) := by decide +kernel
theorem dX7_grade_5 : decode cX7_grade 5 = .ok (.bipush 60, 2) := by decide +kernel
theorem dX7_grade_7 : decode cX7_grade 7 = .ok (.if_icmp .ge 12, 3) := by decide +kernel
theorem dX7_grade_10 : decode cX7_grade 10 = .ok (.aload_n 0, 1) := by decide +kernel
theorem dX7_grade_11 : decode cX7_grade 11 = .ok (.getfield 21, 3) := by decide +kernel
theorem dX7_grade_14 : decode cX7_grade 14 = .ok (.iload_n 1, 1) := by decide +kernel
theorem dX7_grade_15 : decode cX7_grade 15 = .ok (.iaload, 1) := by decide +kernel
theorem dX7_grade_16 : decode cX7_grade 16 = .ok (.goto 4, 3) := by decide +kernel
theorem dX7_grade_19 : decode cX7_grade 19 = .ok (.iconst 0, 1) := by decide +kernel
theorem dX7_grade_20 : decode cX7_grade 20 = .ok (.ireturn, 1) := by decide +kernel
theorem dX7_hasCar_0 : decode cX7_hasCar 0 = .ok (.iload_n 1, 1) := by decide +kernel
theorem dX7_hasCar_1 : decode cX7_hasCar 1 = .ok (.ifCond .lt 15, 3) := by decide +kernel
theorem dX7_hasCar_4 : decode cX7_hasCar 4 = .ok (.iload_n 1, 1) := by decide +kernel
theorem dX7_hasCar_5 : decode cX7_hasCar 5 = .ok (.aload_n 0, 1) := by decide +kernel
theorem dX7_hasCar_6 : decode cX7_hasCar 6 = .ok (.getfield 62, 3) := by decide +kernel
theorem dX7_hasCar_9 : decode cX7_hasCar 9 = .ok (.if_icmp .ge 7, 3) := by decide +kernel
theorem dX7_hasCar_12 : decode cX7_hasCar 12 = .ok (.iconst 1, 1) := by decide +kernel
theorem dX7_hasCar_13 : decode cX7_hasCar 13 = .ok (.goto 4, 3) := by decide +kernel
theorem dX7_hasCar_16 : decode cX7_hasCar 16 = .ok (.iconst 0, 1) := by decide +kernel
theorem dX7_hasCar_17 : decode cX7_hasCar 17 = .ok (.ireturn, 1) := by decide +kernel
theorem dX7_hasPlace_0 : decode cX7_hasPlace 0 = .ok (.aload_n 0, 1) := by decide +kernel
theorem dX7_hasPlace_1 : decode cX7_hasPlace 1 = .ok (.iload_n 1, 1) := by decide +kernel
theorem dX7_hasPlace_2 : decode cX7_hasPlace 2 = .ok (.invokevirtual 87, 3) := by decide +kernel
theorem dX7_hasPlace_5 : decode cX7_hasPlace 5 = .ok (.ifCond .eq 27, 3) := by decide +kernel
theorem dX7_hasPlace_8 : decode cX7_hasPlace 8 = .ok (.iload_n 2, 1) := by decide +kernel
theorem dX7_hasPlace_9 : decode cX7_hasPlace 9 = .ok (.ifCond .lt 23, 3) := by decide +kernel
theorem dX7_hasPlace_12 : decode cX7_hasPlace 12 = .ok (.iload_n 2, 1) := by decide +kernel
theorem dX7_hasPlace_13 : decode cX7_hasPlace 13 = .ok (.bipush 10, 2) := by decide +kernel
theorem dX7_hasPlace_15 : decode cX7_hasPlace 15 = .ok (.aload_n 0, 1) := by decide +kernel
theorem dX7_hasPlace_16 : decode cX7_hasPlace 16 = .ok (.getfield 11, 3) := by decide +kernel
theorem dX7_hasPlace_19 : decode cX7_hasPlace 19 = .ok (.iload_n 1, 1) := by decide +kernel
theorem dX7_hasPlace_20 : decode cX7_hasPlace 20 = .ok (.aaload, 1) := by decide +kernel
theorem dX7_hasPlace_21 : decode cX7_hasPlace 21 = .ok (.getfield 91, 3) := by decide +kernel
theorem dX7_hasPlace_24 : decode cX7_hasPlace 24 = .ok (.imul, 1) := by decide +kernel
theorem dX7_hasPlace_25 : decode cX7_hasPlace 25 = .ok (.if_icmp .ge 7, 3) := by decide +kernel
theorem dX7_hasPlace_28 : decode cX7_hasPlace 28 = .ok (.iconst 1, 1) := by decide +kernel
theorem dX7_hasPlace_29 : decode cX7_hasPlace 29 = .ok (.goto 4, 3) := by decide +kernel
theorem dX7_hasPlace_32 : decode cX7_hasPlace 32 = .ok (.iconst 0, 1) := by decide +kernel
theorem dX7_hasPlace_33 : decode cX7_hasPlace 33 = .ok (.ireturn, 1) := by decide +kernel
theorem dX7_hasRope_0 : decode cX7_hasRope 0 = .ok (.iload_n 1, 1) := by decide +kernel
theorem dX7_hasRope_1 : decode cX7_hasRope 1 = .ok (.ifCond .lt 15, 3) := by decide +kernel
theorem dX7_hasRope_4 : decode cX7_hasRope 4 = .ok (.iload_n 1, 1) := by decide +kernel
theorem dX7_hasRope_5 : decode cX7_hasRope 5 = .ok (.aload_n 0, 1) := by decide +kernel
theorem dX7_hasRope_6 : decode cX7_hasRope 6 = .ok (.getfield 55, 3) := by decide +kernel
theorem dX7_hasRope_9 : decode cX7_hasRope 9 = .ok (.if_icmp .ge 7, 3) := by decide +kernel
theorem dX7_hasRope_12 : decode cX7_hasRope 12 = .ok (.iconst 1, 1) := by decide +kernel
theorem dX7_hasRope_13 : decode cX7_hasRope 13 = .ok (.goto 4, 3) := by decide +kernel
theorem dX7_hasRope_16 : decode cX7_hasRope 16 = .ok (.iconst 0, 1) := by decide +kernel
theorem dX7_hasRope_17 : decode cX7_hasRope 17 = .ok (.ireturn, 1) := by decide +kernel
theorem dX7_hasSplice_0 : decode cX7_hasSplice 0 = .ok (.iload_n 1, 1) := by decide +kernel
theorem dX7_hasSplice_1 : decode cX7_hasSplice 1 = .ok (.ifCond .lt 15, 3) := by decide +kernel
theorem dX7_hasSplice_4 : decode cX7_hasSplice 4 = .ok (.iload_n 1, 1) := by decide +kernel
theorem dX7_hasSplice_5 : decode cX7_hasSplice 5 = .ok (.aload_n 0, 1) := by decide +kernel
theorem dX7_hasSplice_6 : decode cX7_hasSplice 6 = .ok (.getfield 68, 3) := by decide +kernel
theorem dX7_hasSplice_9 : decode cX7_hasSplice 9 = .ok (.if_icmp .ge 7, 3) := by decide +kernel
theorem dX7_hasSplice_12 : decode cX7_hasSplice 12 = .ok (.iconst 1, 1) := by decide +kernel
theorem dX7_hasSplice_13 : decode cX7_hasSplice 13 = .ok (.goto 4, 3) := by decide +kernel
theorem dX7_hasSplice_16 : decode cX7_hasSplice 16 = .ok (.iconst 0, 1) := by decide +kernel
theorem dX7_hasSplice_17 : decode cX7_hasSplice 17 = .ok (.ireturn, 1) := by decide +kernel
theorem dX7_isSegment_0 : decode cX7_isSegment 0 = .ok (.iload_n 0, 1) := by decide +kernel
theorem dX7_isSegment_1 : decode cX7_isSegment 1 = .ok (.ifCond .lt 13, 3) := by decide +kernel
theorem dX7_isSegment_4 : decode cX7_isSegment 4 = .ok (.iload_n 0, 1) := by decide +kernel
theorem dX7_isSegment_5 : decode cX7_isSegment 5 = .ok (.bipush 60, 2) := by decide +kernel
theorem dX7_isSegment_7 : decode cX7_isSegment 7 = .ok (.if_icmp .ge 7, 3) := by decide +kernel
theorem dX7_isSegment_10 : decode cX7_isSegment 10 = .ok (.iconst 1, 1) := by decide +kernel
theorem dX7_isSegment_11 : decode cX7_isSegment 11 = .ok (.goto 4, 3) := by decide +kernel
theorem dX7_isSegment_14 : decode cX7_isSegment 14 = .ok (.iconst 0, 1) := by decide +kernel
theorem dX7_isSegment_15 : decode cX7_isSegment 15 = .ok (.ireturn, 1) := by decide +kernel
theorem dX7_layGrade_0 : decode cX7_layGrade 0 = .ok (.iload_n 1, 1) := by decide +kernel
theorem dX7_layGrade_1 : decode cX7_layGrade 1 = .ok (.iconst 0, 1) := by decide +kernel
theorem dX7_layGrade_2 : decode cX7_layGrade 2 = .ok (.invokestatic 100, 3) := by decide +kernel
theorem dX7_layGrade_5 : decode cX7_layGrade 5 = .ok (.istore 4, 2) := by decide +kernel
theorem dX7_layGrade_7 : decode cX7_layGrade 7 = .ok (.iload 4, 2) := by decide +kernel
theorem dX7_layGrade_9 : decode cX7_layGrade 9 = .ok (.iload_n 2, 1) := by decide +kernel
theorem dX7_layGrade_10 : decode cX7_layGrade 10 = .ok (.if_icmp .gt 24, 3) := by decide +kernel
theorem dX7_layGrade_13 : decode cX7_layGrade 13 = .ok (.iload 4, 2) := by decide +kernel
theorem dX7_layGrade_15 : decode cX7_layGrade 15 = .ok (.bipush 60, 2) := by decide +kernel
theorem dX7_layGrade_17 : decode cX7_layGrade 17 = .ok (.if_icmp .ge 17, 3) := by decide +kernel
theorem dX7_layGrade_20 : decode cX7_layGrade 20 = .ok (.aload_n 0, 1) := by decide +kernel
theorem dX7_layGrade_21 : decode cX7_layGrade 21 = .ok (.getfield 21, 3) := by decide +kernel
theorem dX7_layGrade_24 : decode cX7_layGrade 24 = .ok (.iload 4, 2) := by decide +kernel
theorem dX7_layGrade_26 : decode cX7_layGrade 26 = .ok (.iload_n 3, 1) := by decide +kernel
theorem dX7_layGrade_27 : decode cX7_layGrade 27 = .ok (.iastore, 1) := by decide +kernel
theorem dX7_layGrade_28 : decode cX7_layGrade 28 = .ok (.iinc 4 1, 3) := by decide +kernel
theorem dX7_layGrade_31 : decode cX7_layGrade 31 = .ok (.goto (-24), 3) := by decide +kernel
theorem dX7_layGrade_34 : decode cX7_layGrade 34 = .ok (.return_, 1) := by decide +kernel
theorem dX7_layRope_0 : decode cX7_layRope 0 = .ok (.aload_n 0, 1) := by decide +kernel
theorem dX7_layRope_1 : decode cX7_layRope 1 = .ok (.iload_n 1, 1) := by decide +kernel
theorem dX7_layRope_2 : decode cX7_layRope 2 = .ok (.invokevirtual 87, 3) := by decide +kernel
theorem dX7_layRope_5 : decode cX7_layRope 5 = .ok (.ifCond .ne 4, 3) := by decide +kernel
theorem dX7_layRope_8 : decode cX7_layRope 8 = .ok (.return_, 1) := by decide +kernel
theorem dX7_layRope_9 : decode cX7_layRope 9 = .ok (.aload_n 0, 1) := by decide +kernel
theorem dX7_layRope_10 : decode cX7_layRope 10 = .ok (.getfield 11, 3) := by decide +kernel
theorem dX7_layRope_13 : decode cX7_layRope 13 = .ok (.iload_n 1, 1) := by decide +kernel
theorem dX7_layRope_14 : decode cX7_layRope 14 = .ok (.aaload, 1) := by decide +kernel
theorem dX7_layRope_15 : decode cX7_layRope 15 = .ok (.getfield 94, 3) := by decide +kernel
theorem dX7_layRope_18 : decode cX7_layRope 18 = .ok (.istore_n 2, 1) := by decide +kernel
theorem dX7_layRope_19 : decode cX7_layRope 19 = .ok (.iload_n 2, 1) := by decide +kernel
theorem dX7_layRope_20 : decode cX7_layRope 20 = .ok (.aload_n 0, 1) := by decide +kernel
theorem dX7_layRope_21 : decode cX7_layRope 21 = .ok (.getfield 11, 3) := by decide +kernel
theorem dX7_layRope_24 : decode cX7_layRope 24 = .ok (.iload_n 1, 1) := by decide +kernel
theorem dX7_layRope_25 : decode cX7_layRope 25 = .ok (.aaload, 1) := by decide +kernel
theorem dX7_layRope_26 : decode cX7_layRope 26 = .ok (.getfield 97, 3) := by decide +kernel
theorem dX7_layRope_29 : decode cX7_layRope 29 = .ok (.if_icmp .gt 26, 3) := by decide +kernel
theorem dX7_layRope_32 : decode cX7_layRope 32 = .ok (.iload_n 2, 1) := by decide +kernel
theorem dX7_layRope_33 : decode cX7_layRope 33 = .ok (.bipush 60, 2) := by decide +kernel
theorem dX7_layRope_35 : decode cX7_layRope 35 = .ok (.if_icmp .ge 20, 3) := by decide +kernel
theorem dX7_layRope_38 : decode cX7_layRope 38 = .ok (.iload_n 2, 1) := by decide +kernel
theorem dX7_layRope_39 : decode cX7_layRope 39 = .ok (.ifCond .lt 10, 3) := by decide +kernel
theorem dX7_layRope_42 : decode cX7_layRope 42 = .ok (.aload_n 0, 1) := by decide +kernel
theorem dX7_layRope_43 : decode cX7_layRope 43 = .ok (.getfield 17, 3) := by decide +kernel
theorem dX7_layRope_46 : decode cX7_layRope 46 = .ok (.iload_n 2, 1) := by decide +kernel
theorem dX7_layRope_47 : decode cX7_layRope 47 = .ok (.iload_n 1, 1) := by decide +kernel
theorem dX7_layRope_48 : decode cX7_layRope 48 = .ok (.iastore, 1) := by decide +kernel
theorem dX7_layRope_49 : decode cX7_layRope 49 = .ok (.iinc 2 1, 3) := by decide +kernel
theorem dX7_layRope_52 : decode cX7_layRope 52 = .ok (.goto (-33), 3) := by decide +kernel
theorem dX7_layRope_55 : decode cX7_layRope 55 = .ok (.return_, 1) := by decide +kernel
theorem dX7_mark_0 : decode cX7_mark 0 = .ok (.iload_n 1, 1) := by decide +kernel
theorem dX7_mark_1 : decode cX7_mark 1 = .ok (.ifCond .lt 26, 3) := by decide +kernel
theorem dX7_mark_4 : decode cX7_mark 4 = .ok (.iload_n 1, 1) := by decide +kernel
theorem dX7_mark_5 : decode cX7_mark 5 = .ok (.iconst 4, 1) := by decide +kernel
theorem dX7_mark_6 : decode cX7_mark 6 = .ok (.if_icmp .ge 21, 3) := by decide +kernel
theorem dX7_mark_9 : decode cX7_mark 9 = .ok (.iload_n 2, 1) := by decide +kernel
theorem dX7_mark_10 : decode cX7_mark 10 = .ok (.invokestatic 106, 3) := by decide +kernel
theorem dX7_mark_13 : decode cX7_mark 13 = .ok (.ifCond .eq 14, 3) := by decide +kernel
theorem dX7_mark_16 : decode cX7_mark 16 = .ok (.aload_n 0, 1) := by decide +kernel
theorem dX7_mark_17 : decode cX7_mark 17 = .ok (.getfield 32, 3) := by decide +kernel
theorem dX7_mark_20 : decode cX7_mark 20 = .ok (.iload_n 1, 1) := by decide +kernel
theorem dX7_mark_21 : decode cX7_mark 21 = .ok (.aaload, 1) := by decide +kernel
theorem dX7_mark_22 : decode cX7_mark 22 = .ok (.iload_n 2, 1) := by decide +kernel
theorem dX7_mark_23 : decode cX7_mark 23 = .ok (.iaload, 1) := by decide +kernel
theorem dX7_mark_24 : decode cX7_mark 24 = .ok (.goto 4, 3) := by decide +kernel
theorem dX7_mark_27 : decode cX7_mark 27 = .ok (.iconst 0, 1) := by decide +kernel
theorem dX7_mark_28 : decode cX7_mark 28 = .ok (.ireturn, 1) := by decide +kernel
theorem dX7_placeAfter_0 : decode cX7_placeAfter 0 = .ok (.aload_n 0, 1) := by decide +kernel
theorem dX7_placeAfter_1 : decode cX7_placeAfter 1 = .ok (.iload_n 1, 1) := by decide +kernel
theorem dX7_placeAfter_2 : decode cX7_placeAfter 2 = .ok (.invokevirtual 87, 3) := by decide +kernel
theorem dX7_placeAfter_5 : decode cX7_placeAfter 5 = .ok (.ifCond .eq 18, 3) := by decide +kernel
theorem dX7_placeAfter_8 : decode cX7_placeAfter 8 = .ok (.bipush 10, 2) := by decide +kernel
theorem dX7_placeAfter_10 : decode cX7_placeAfter 10 = .ok (.aload_n 0, 1) := by decide +kernel
theorem dX7_placeAfter_11 : decode cX7_placeAfter 11 = .ok (.getfield 11, 3) := by decide +kernel
theorem dX7_placeAfter_14 : decode cX7_placeAfter 14 = .ok (.iload_n 1, 1) := by decide +kernel
theorem dX7_placeAfter_15 : decode cX7_placeAfter 15 = .ok (.aaload, 1) := by decide +kernel
theorem dX7_placeAfter_16 : decode cX7_placeAfter 16 = .ok (.getfield 91, 3) := by decide +kernel
theorem dX7_placeAfter_19 : decode cX7_placeAfter 19 = .ok (.imul, 1) := by decide +kernel
theorem dX7_placeAfter_20 : decode cX7_placeAfter 20 = .ok (.goto 4, 3) := by decide +kernel
theorem dX7_placeAfter_23 : decode cX7_placeAfter 23 = .ok (.iconst 0, 1) := by decide +kernel
theorem dX7_placeAfter_24 : decode cX7_placeAfter 24 = .ok (.istore 4, 2) := by decide +kernel
theorem dX7_placeAfter_26 : decode cX7_placeAfter 26 = .ok (.iload 4, 2) := by decide +kernel
theorem dX7_placeAfter_28 : decode cX7_placeAfter 28 = .ok (.ifCond .le 12, 3) := by decide +kernel
theorem dX7_placeAfter_31 : decode cX7_placeAfter 31 = .ok (.iload_n 2, 1) := by decide +kernel
theorem dX7_placeAfter_32 : decode cX7_placeAfter 32 = .ok (.iload_n 3, 1) := by decide +kernel
theorem dX7_placeAfter_33 : decode cX7_placeAfter 33 = .ok (.iadd, 1) := by decide +kernel
theorem dX7_placeAfter_34 : decode cX7_placeAfter 34 = .ok (.iload 4, 2) := by decide +kernel
theorem dX7_placeAfter_36 : decode cX7_placeAfter 36 = .ok (.irem, 1) := by decide +kernel
theorem dX7_placeAfter_37 : decode cX7_placeAfter 37 = .ok (.goto 4, 3) := by decide +kernel
theorem dX7_placeAfter_40 : decode cX7_placeAfter 40 = .ok (.iconst 0, 1) := by decide +kernel
theorem dX7_placeAfter_41 : decode cX7_placeAfter 41 = .ok (.ireturn, 1) := by decide +kernel
theorem dX7_pull_0 : decode cX7_pull 0 = .ok (.aload_n 0, 1) := by decide +kernel
theorem dX7_pull_1 : decode cX7_pull 1 = .ok (.iload_n 1, 1) := by decide +kernel
theorem dX7_pull_2 : decode cX7_pull 2 = .ok (.invokevirtual 109, 3) := by decide +kernel
theorem dX7_pull_5 : decode cX7_pull 5 = .ok (.ifCond .eq 21, 3) := by decide +kernel
theorem dX7_pull_8 : decode cX7_pull 8 = .ok (.aload_n 0, 1) := by decide +kernel
theorem dX7_pull_9 : decode cX7_pull 9 = .ok (.getfield 27, 3) := by decide +kernel
theorem dX7_pull_12 : decode cX7_pull 12 = .ok (.iload_n 1, 1) := by decide +kernel
theorem dX7_pull_13 : decode cX7_pull 13 = .ok (.iaload, 1) := by decide +kernel
theorem dX7_pull_14 : decode cX7_pull 14 = .ok (.aload_n 0, 1) := by decide +kernel
theorem dX7_pull_15 : decode cX7_pull 15 = .ok (.iload_n 2, 1) := by decide +kernel
theorem dX7_pull_16 : decode cX7_pull 16 = .ok (.invokevirtual 112, 3) := by decide +kernel
theorem dX7_pull_19 : decode cX7_pull 19 = .ok (.imul, 1) := by decide +kernel
theorem dX7_pull_20 : decode cX7_pull 20 = .ok (.invokestatic 115, 3) := by decide +kernel
theorem dX7_pull_23 : decode cX7_pull 23 = .ok (.goto 4, 3) := by decide +kernel
theorem dX7_pull_26 : decode cX7_pull 26 = .ok (.iconst 0, 1) := by decide +kernel
theorem dX7_pull_27 : decode cX7_pull 27 = .ok (.ireturn, 1) := by decide +kernel
theorem dX7_ropeOn_0 : decode cX7_ropeOn 0 = .ok (.iload_n 1, 1) := by decide +kernel
theorem dX7_ropeOn_1 : decode cX7_ropeOn 1 = .ok (.ifCond .lt 18, 3) := by decide +kernel
theorem dX7_ropeOn_4 : decode cX7_ropeOn 4 = .ok (.iload_n 1, 1) := by decide +kernel
theorem dX7_ropeOn_5 : decode cX7_ropeOn 5 = .ok (.bipush 60, 2) := by decide +kernel
theorem dX7_ropeOn_7 : decode cX7_ropeOn 7 = .ok (.if_icmp .ge 12, 3) := by decide +kernel
theorem dX7_ropeOn_10 : decode cX7_ropeOn 10 = .ok (.aload_n 0, 1) := by decide +kernel
theorem dX7_ropeOn_11 : decode cX7_ropeOn 11 = .ok (.getfield 17, 3) := by decide +kernel
theorem dX7_ropeOn_14 : decode cX7_ropeOn 14 = .ok (.iload_n 1, 1) := by decide +kernel
theorem dX7_ropeOn_15 : decode cX7_ropeOn 15 = .ok (.iaload, 1) := by decide +kernel
theorem dX7_ropeOn_16 : decode cX7_ropeOn 16 = .ok (.goto 4, 3) := by decide +kernel
theorem dX7_ropeOn_19 : decode cX7_ropeOn 19 = .ok (.iconst (-1), 1) := by decide +kernel
theorem dX7_ropeOn_20 : decode cX7_ropeOn 20 = .ok (.ireturn, 1) := by decide +kernel
theorem dX7_segmentOfPlace_0 : decode cX7_segmentOfPlace 0 = .ok (.aload_n 0, 1) := by decide +kernel
theorem dX7_segmentOfPlace_1 : decode cX7_segmentOfPlace 1 = .ok (.iload_n 1, 1) := by decide +kernel
theorem dX7_segmentOfPlace_2 : decode cX7_segmentOfPlace 2 = .ok (.iload_n 2, 1) := by decide +kernel
theorem dX7_segmentOfPlace_3 : decode cX7_segmentOfPlace 3 = .ok (.invokevirtual 124, 3) := by decide +kernel
theorem dX7_segmentOfPlace_6 : decode cX7_segmentOfPlace 6 = .ok (.ifCond .ne 5, 3) := by decide +kernel
theorem dX7_segmentOfPlace_9 : decode cX7_segmentOfPlace 9 = .ok (.iconst (-1), 1) := by decide +kernel
theorem dX7_segmentOfPlace_10 : decode cX7_segmentOfPlace 10 = .ok (.ireturn, 1) := by decide +kernel
theorem dX7_segmentOfPlace_11 : decode cX7_segmentOfPlace 11 = .ok (.aload_n 0, 1) := by decide +kernel
theorem dX7_segmentOfPlace_12 : decode cX7_segmentOfPlace 12 = .ok (.getfield 11, 3) := by decide +kernel
theorem dX7_segmentOfPlace_15 : decode cX7_segmentOfPlace 15 = .ok (.iload_n 1, 1) := by decide +kernel
theorem dX7_segmentOfPlace_16 : decode cX7_segmentOfPlace 16 = .ok (.aaload, 1) := by decide +kernel
theorem dX7_segmentOfPlace_17 : decode cX7_segmentOfPlace 17 = .ok (.getfield 94, 3) := by decide +kernel
theorem dX7_segmentOfPlace_20 : decode cX7_segmentOfPlace 20 = .ok (.iload_n 2, 1) := by decide +kernel
theorem dX7_segmentOfPlace_21 : decode cX7_segmentOfPlace 21 = .ok (.bipush 10, 2) := by decide +kernel
theorem dX7_segmentOfPlace_23 : decode cX7_segmentOfPlace 23 = .ok (.idiv, 1) := by decide +kernel
theorem dX7_segmentOfPlace_24 : decode cX7_segmentOfPlace 24 = .ok (.iadd, 1) := by decide +kernel
theorem dX7_segmentOfPlace_25 : decode cX7_segmentOfPlace 25 = .ok (.istore_n 3, 1) := by decide +kernel
theorem dX7_segmentOfPlace_26 : decode cX7_segmentOfPlace 26 = .ok (.iload_n 3, 1) := by decide +kernel
theorem dX7_segmentOfPlace_27 : decode cX7_segmentOfPlace 27 = .ok (.aload_n 0, 1) := by decide +kernel
theorem dX7_segmentOfPlace_28 : decode cX7_segmentOfPlace 28 = .ok (.getfield 11, 3) := by decide +kernel
theorem dX7_segmentOfPlace_31 : decode cX7_segmentOfPlace 31 = .ok (.iload_n 1, 1) := by decide +kernel
theorem dX7_segmentOfPlace_32 : decode cX7_segmentOfPlace 32 = .ok (.aaload, 1) := by decide +kernel
theorem dX7_segmentOfPlace_33 : decode cX7_segmentOfPlace 33 = .ok (.getfield 97, 3) := by decide +kernel
theorem dX7_segmentOfPlace_36 : decode cX7_segmentOfPlace 36 = .ok (.if_icmp .gt 7, 3) := by decide +kernel
theorem dX7_segmentOfPlace_39 : decode cX7_segmentOfPlace 39 = .ok (.iload_n 3, 1) := by decide +kernel
theorem dX7_segmentOfPlace_40 : decode cX7_segmentOfPlace 40 = .ok (.goto 4, 3) := by decide +kernel
theorem dX7_segmentOfPlace_43 : decode cX7_segmentOfPlace 43 = .ok (.iconst (-1), 1) := by decide +kernel
theorem dX7_segmentOfPlace_44 : decode cX7_segmentOfPlace 44 = .ok (.ireturn, 1) := by decide +kernel
theorem dX7_setMark_0 : decode cX7_setMark 0 = .ok (.iload_n 1, 1) := by decide +kernel
theorem dX7_setMark_1 : decode cX7_setMark 1 = .ok (.ifCond .lt 24, 3) := by decide +kernel
theorem dX7_setMark_4 : decode cX7_setMark 4 = .ok (.iload_n 1, 1) := by decide +kernel
theorem dX7_setMark_5 : decode cX7_setMark 5 = .ok (.iconst 4, 1) := by decide +kernel
theorem dX7_setMark_6 : decode cX7_setMark 6 = .ok (.if_icmp .ge 19, 3) := by decide +kernel
theorem dX7_setMark_9 : decode cX7_setMark 9 = .ok (.iload_n 2, 1) := by decide +kernel
theorem dX7_setMark_10 : decode cX7_setMark 10 = .ok (.invokestatic 106, 3) := by decide +kernel
theorem dX7_setMark_13 : decode cX7_setMark 13 = .ok (.ifCond .eq 12, 3) := by decide +kernel
theorem dX7_setMark_16 : decode cX7_setMark 16 = .ok (.aload_n 0, 1) := by decide +kernel
theorem dX7_setMark_17 : decode cX7_setMark 17 = .ok (.getfield 32, 3) := by decide +kernel
theorem dX7_setMark_20 : decode cX7_setMark 20 = .ok (.iload_n 1, 1) := by decide +kernel
theorem dX7_setMark_21 : decode cX7_setMark 21 = .ok (.aaload, 1) := by decide +kernel
theorem dX7_setMark_22 : decode cX7_setMark 22 = .ok (.iload_n 2, 1) := by decide +kernel
theorem dX7_setMark_23 : decode cX7_setMark 23 = .ok (.iload_n 3, 1) := by decide +kernel
theorem dX7_setMark_24 : decode cX7_setMark 24 = .ok (.iastore, 1) := by decide +kernel
theorem dX7_setMark_25 : decode cX7_setMark 25 = .ok (.return_, 1) := by decide +kernel
theorem dX8_init_0 : decode cX8_init 0 = .ok (.aload_n 0, 1) := by decide +kernel
theorem dX8_init_1 : decode cX8_init 1 = .ok (.invokespecial 3, 3) := by decide +kernel
theorem dX8_init_4 : decode cX8_init 4 = .ok (.aload_n 0, 1) := by decide +kernel
theorem dX8_init_5 : decode cX8_init 5 = .ok (.new 9, 3) := by decide +kernel
theorem dX8_init_8 : decode cX8_init 8 = .ok (.dup, 1) := by decide +kernel
theorem dX8_init_9 : decode cX8_init 9 = .ok (.invokespecial 11, 3) := by decide +kernel
theorem dX8_init_12 : decode cX8_init 12 = .ok (.putfield 12, 3) := by decide +kernel
theorem dX8_init_15 : decode cX8_init 15 = .ok (.aload_n 0, 1) := by decide +kernel
theorem dX8_init_16 : decode cX8_init 16 = .ok (.iconst 3, 1) := by decide +kernel
theorem dX8_init_17 : decode cX8_init 17 = .ok (.newarray .long, 2) := by decide +kernel
theorem dX8_init_19 : decode cX8_init 19 = .ok (.putfield 18, 3) := by decide +kernel
theorem dX8_init_22 : decode cX8_init 22 = .ok (.aload_n 0, 1) := by decide +kernel
theorem dX8_init_23 : decode cX8_init 23 = .ok (.iconst 5, 1) := by decide +kernel
theorem dX8_init_24 : decode cX8_init 24 = .ok (.newarray .long, 2) := by decide +kernel
theorem dX8_init_26 : decode cX8_init 26 = .ok (.putfield 22, 3) := by decide +kernel
theorem dX8_init_29 : decode cX8_init 29 = .ok (.aload_n 0, 1) := by decide +kernel
theorem dX8_init_30 : decode cX8_init 30 = .ok (.bipush 6, 2) := by decide +kernel
theorem dX8_init_32 : decode cX8_init 32 = .ok (.newarray .long, 2) := by decide +kernel
theorem dX8_init_34 : decode cX8_init 34 = .ok (.putfield 25, 3) := by decide +kernel
theorem dX8_init_37 : decode cX8_init 37 = .ok (.aload_n 0, 1) := by decide +kernel
theorem dX8_init_38 : decode cX8_init 38 = .ok (.iconst 0, 1) := by decide +kernel
theorem dX8_init_39 : decode cX8_init 39 = .ok (.putfield 28, 3) := by decide +kernel
theorem dX8_init_42 : decode cX8_init 42 = .ok (.aload_n 0, 1) := by decide +kernel
theorem dX8_init_43 : decode cX8_init 43 = .ok (.iconst (-1), 1) := by decide +kernel
theorem dX8_init_44 : decode cX8_init 44 = .ok (.putfield 32, 3) := by decide +kernel
theorem dX8_init_47 : decode cX8_init 47 = .ok (.return_, 1) := by decide +kernel
theorem dX8_goOn_0 : decode cX8_goOn 0 = .ok (.aload_n 0, 1) := by decide +kernel
theorem dX8_goOn_1 : decode cX8_goOn 1 = .ok (.getfield 28, 3) := by decide +kernel
theorem dX8_goOn_4 : decode cX8_goOn 4 = .ok (.ifCond .ne 10, 3) := by decide +kernel
theorem dX8_goOn_7 : decode cX8_goOn 7 = .ok (.aload_n 0, 1) := by decide +kernel
theorem dX8_goOn_8 : decode cX8_goOn 8 = .ok (.getfield 12, 3) := by decide +kernel
theorem dX8_goOn_11 : decode cX8_goOn 11 = .ok (.invokevirtual 79, 3) := by decide +kernel
theorem dX8_goOn_14 : decode cX8_goOn 14 = .ok (.return_, 1) := by decide +kernel
theorem dX8_hasLine_0 : decode cX8_hasLine 0 = .ok (.aload_n 0, 1) := by decide +kernel
theorem dX8_hasLine_1 : decode cX8_hasLine 1 = .ok (.getfield 28, 3) := by decide +kernel
theorem dX8_hasLine_4 : decode cX8_hasLine 4 = .ok (.ifCond .ne 17, 3) := by decide +kernel
theorem dX8_hasLine_7 : decode cX8_hasLine 7 = .ok (.aload_n 0, 1) := by decide +kernel
theorem dX8_hasLine_8 : decode cX8_hasLine 8 = .ok (.getfield 12, 3) := by decide +kernel
theorem dX8_hasLine_11 : decode cX8_hasLine 11 = .ok (.getfield 58, 3) := by decide +kernel
theorem dX8_hasLine_14 : decode cX8_hasLine 14 = .ok (.ifCond .eq 7, 3) := by decide +kernel
theorem dX8_hasLine_17 : decode cX8_hasLine 17 = .ok (.iconst 1, 1) := by decide +kernel
theorem dX8_hasLine_18 : decode cX8_hasLine 18 = .ok (.goto 4, 3) := by decide +kernel
theorem dX8_hasLine_21 : decode cX8_hasLine 21 = .ok (.iconst 0, 1) := by decide +kernel
theorem dX8_hasLine_22 : decode cX8_hasLine 22 = .ok (.ireturn, 1) := by decide +kernel
theorem dX8_indexOfName_0 : decode cX8_indexOfName 0 = .ok (.iconst 0, 1) := by decide +kernel
theorem dX8_indexOfName_1 : decode cX8_indexOfName 1 = .ok (.istore_n 3, 1) := by decide +kernel
theorem dX8_indexOfName_2 : decode cX8_indexOfName 2 = .ok (.iload_n 3, 1) := by decide +kernel
theorem dX8_indexOfName_3 : decode cX8_indexOfName 3 = .ok (.iload_n 2, 1) := by decide +kernel
theorem dX8_indexOfName_4 : decode cX8_indexOfName 4 = .ok (.if_icmp .ge 31, 3) := by decide +kernel
theorem dX8_indexOfName_7 : decode cX8_indexOfName 7 = .ok (.iload_n 3, 1) := by decide +kernel
theorem dX8_indexOfName_8 : decode cX8_indexOfName 8 = .ok (.aload_n 1, 1) := by decide +kernel
theorem dX8_indexOfName_9 : decode cX8_indexOfName 9 = .ok (.arraylength, 1) := by decide +kernel
theorem dX8_indexOfName_10 : decode cX8_indexOfName 10 = .ok (.if_icmp .ge 25, 3) := by decide +kernel
theorem dX8_indexOfName_13 : decode cX8_indexOfName 13 = .ok (.aload_n 1, 1) := by decide +kernel
theorem dX8_indexOfName_14 : decode cX8_indexOfName 14 = .ok (.iload_n 3, 1) := by decide +kernel
theorem dX8_indexOfName_15 : decode cX8_indexOfName 15 = .ok (.laload, 1) := by decide +kernel
theorem dX8_indexOfName_16 : decode cX8_indexOfName 16 = .ok (.aload_n 0, 1) := by decide +kernel
theorem dX8_indexOfName_17 : decode cX8_indexOfName 17 = .ok (.getfield 12, 3) := by decide +kernel
theorem dX8_indexOfName_20 : decode cX8_indexOfName 20 = .ok (.getfield 293, 3) := by decide +kernel
theorem dX8_indexOfName_23 : decode cX8_indexOfName 23 = .ok (.lcmp, 1) := by decide +kernel
theorem dX8_indexOfName_24 : decode cX8_indexOfName 24 = .ok (.ifCond .ne 5, 3) := by decide +kernel
theorem dX8_indexOfName_27 : decode cX8_indexOfName 27 = .ok (.iload_n 3, 1) := by decide +kernel
theorem dX8_indexOfName_28 : decode cX8_indexOfName 28 = .ok (.ireturn, 1) := by decide +kernel
theorem dX8_indexOfName_29 : decode cX8_indexOfName 29 = .ok (.iinc 3 1, 3) := by decide +kernel
theorem dX8_indexOfName_32 : decode cX8_indexOfName 32 = .ok (.goto (-30), 3) := by decide +kernel
theorem dX8_indexOfName_35 : decode cX8_indexOfName 35 = .ok (.iconst (-1), 1) := by decide +kernel
theorem dX8_indexOfName_36 : decode cX8_indexOfName 36 = .ok (.ireturn, 1) := by decide +kernel
theorem dX8_isName_0 : decode cX8_isName 0 = .ok (.aload_n 0, 1) := by decide +kernel
theorem dX8_isName_1 : decode cX8_isName 1 = .ok (.getfield 28, 3) := by decide +kernel
theorem dX8_isName_4 : decode cX8_isName 4 = .ok (.ifCond .ne 29, 3) := by decide +kernel
theorem dX8_isName_7 : decode cX8_isName 7 = .ok (.aload_n 0, 1) := by decide +kernel
theorem dX8_isName_8 : decode cX8_isName 8 = .ok (.getfield 12, 3) := by decide +kernel
theorem dX8_isName_11 : decode cX8_isName 11 = .ok (.getfield 58, 3) := by decide +kernel
theorem dX8_isName_14 : decode cX8_isName 14 = .ok (.iconst 2, 1) := by decide +kernel
theorem dX8_isName_15 : decode cX8_isName 15 = .ok (.if_icmp .ne 18, 3) := by decide +kernel
theorem dX8_isName_18 : decode cX8_isName 18 = .ok (.aload_n 0, 1) := by decide +kernel
theorem dX8_isName_19 : decode cX8_isName 19 = .ok (.getfield 12, 3) := by decide +kernel
theorem dX8_isName_22 : decode cX8_isName 22 = .ok (.getfield 68, 3) := by decide +kernel
theorem dX8_isName_25 : decode cX8_isName 25 = .ok (.iconst (-1), 1) := by decide +kernel
theorem dX8_isName_26 : decode cX8_isName 26 = .ok (.if_icmp .ne 7, 3) := by decide +kernel
theorem dX8_isName_29 : decode cX8_isName 29 = .ok (.iconst 1, 1) := by decide +kernel
theorem dX8_isName_30 : decode cX8_isName 30 = .ok (.goto 4, 3) := by decide +kernel
theorem dX8_isName_33 : decode cX8_isName 33 = .ok (.iconst 0, 1) := by decide +kernel
theorem dX8_isName_34 : decode cX8_isName 34 = .ok (.ireturn, 1) := by decide +kernel
theorem dX8_isSign_0 : decode cX8_isSign 0 = .ok (.aload_n 0, 1) := by decide +kernel
theorem dX8_isSign_1 : decode cX8_isSign 1 = .ok (.getfield 28, 3) := by decide +kernel
theorem dX8_isSign_4 : decode cX8_isSign 4 = .ok (.ifCond .ne 29, 3) := by decide +kernel
theorem dX8_isSign_7 : decode cX8_isSign 7 = .ok (.aload_n 0, 1) := by decide +kernel
theorem dX8_isSign_8 : decode cX8_isSign 8 = .ok (.getfield 12, 3) := by decide +kernel
theorem dX8_isSign_11 : decode cX8_isSign 11 = .ok (.getfield 58, 3) := by decide +kernel
theorem dX8_isSign_14 : decode cX8_isSign 14 = .ok (.iconst 4, 1) := by decide +kernel
theorem dX8_isSign_15 : decode cX8_isSign 15 = .ok (.if_icmp .ne 18, 3) := by decide +kernel
theorem dX8_isSign_18 : decode cX8_isSign 18 = .ok (.aload_n 0, 1) := by decide +kernel
theorem dX8_isSign_19 : decode cX8_isSign 19 = .ok (.getfield 12, 3) := by decide +kernel
theorem dX8_isSign_22 : decode cX8_isSign 22 = .ok (.getfield 276, 3) := by decide +kernel
theorem dX8_isSign_25 : decode cX8_isSign 25 = .ok (.iload_n 1, 1) := by decide +kernel
theorem dX8_isSign_26 : decode cX8_isSign 26 = .ok (.if_icmp .ne 7, 3) := by decide +kernel
theorem dX8_isSign_29 : decode cX8_isSign 29 = .ok (.iconst 1, 1) := by decide +kernel
theorem dX8_isSign_30 : decode cX8_isSign 30 = .ok (.goto 4, 3) := by decide +kernel
theorem dX8_isSign_33 : decode cX8_isSign 33 = .ok (.iconst 0, 1) := by decide +kernel
theorem dX8_isSign_34 : decode cX8_isSign 34 = .ok (.ireturn, 1) := by decide +kernel
theorem dX8_isWord_0 : decode cX8_isWord 0 = .ok (.aload_n 0, 1) := by decide +kernel
theorem dX8_isWord_1 : decode cX8_isWord 1 = .ok (.getfield 28, 3) := by decide +kernel
theorem dX8_isWord_4 : decode cX8_isWord 4 = .ok (.ifCond .ne 18, 3) := by decide +kernel
theorem dX8_isWord_7 : decode cX8_isWord 7 = .ok (.aload_n 0, 1) := by decide +kernel
theorem dX8_isWord_8 : decode cX8_isWord 8 = .ok (.getfield 12, 3) := by decide +kernel
theorem dX8_isWord_11 : decode cX8_isWord 11 = .ok (.getfield 68, 3) := by decide +kernel
theorem dX8_isWord_14 : decode cX8_isWord 14 = .ok (.iload_n 1, 1) := by decide +kernel
theorem dX8_isWord_15 : decode cX8_isWord 15 = .ok (.if_icmp .ne 7, 3) := by decide +kernel
theorem dX8_isWord_18 : decode cX8_isWord 18 = .ok (.iconst 1, 1) := by decide +kernel
theorem dX8_isWord_19 : decode cX8_isWord 19 = .ok (.goto 4, 3) := by decide +kernel
theorem dX8_isWord_22 : decode cX8_isWord 22 = .ok (.iconst 0, 1) := by decide +kernel
theorem dX8_isWord_23 : decode cX8_isWord 23 = .ok (.ireturn, 1) := by decide +kernel
theorem dX8_mayBegin_0 : decode cX8_mayBegin 0 = .ok (.iload_n 1, 1) := by decide +kernel
theorem dX8_mayBegin_1 : decode cX8_mayBegin 1 = .ok (.tableswitch 250 0 21 #[103, 250, 250, 250, 250, 250, 120, 138, 250, 250, 155, 155, 155, 250, 155, 173, 186, 212, 250, 250, 199, 230], 103) := by decide +kernel
theorem dX8_mayBegin_104 : decode cX8_mayBegin 104 = .ok (.aload_n 0, 1) := by decide +kernel
theorem dX8_mayBegin_105 : decode cX8_mayBegin 105 = .ok (.getfield 35, 3) := by decide +kernel
theorem dX8_mayBegin_108 : decode cX8_mayBegin 108 = .ok (.getfield 107, 3) := by decide +kernel
theorem dX8_mayBegin_111 : decode cX8_mayBegin 111 = .ok (.iconst 3, 1) := by decide +kernel
theorem dX8_mayBegin_112 : decode cX8_mayBegin 112 = .ok (.if_icmp .ge 7, 3) := by decide +kernel
theorem dX8_mayBegin_115 : decode cX8_mayBegin 115 = .ok (.iconst 1, 1) := by decide +kernel
theorem dX8_mayBegin_116 : decode cX8_mayBegin 116 = .ok (.goto 4, 3) := by decide +kernel
theorem dX8_mayBegin_119 : decode cX8_mayBegin 119 = .ok (.iconst 0, 1) := by decide +kernel
theorem dX8_mayBegin_120 : decode cX8_mayBegin 120 = .ok (.ireturn, 1) := by decide +kernel
theorem dX8_mayBegin_121 : decode cX8_mayBegin 121 = .ok (.aload_n 0, 1) := by decide +kernel
theorem dX8_mayBegin_122 : decode cX8_mayBegin 122 = .ok (.getfield 35, 3) := by decide +kernel
theorem dX8_mayBegin_125 : decode cX8_mayBegin 125 = .ok (.getfield 110, 3) := by decide +kernel
theorem dX8_mayBegin_128 : decode cX8_mayBegin 128 = .ok (.bipush 12, 2) := by decide +kernel
theorem dX8_mayBegin_130 : decode cX8_mayBegin 130 = .ok (.if_icmp .ge 7, 3) := by decide +kernel
theorem dX8_mayBegin_133 : decode cX8_mayBegin 133 = .ok (.iconst 1, 1) := by decide +kernel
theorem dX8_mayBegin_134 : decode cX8_mayBegin 134 = .ok (.goto 4, 3) := by decide +kernel
theorem dX8_mayBegin_137 : decode cX8_mayBegin 137 = .ok (.iconst 0, 1) := by decide +kernel
theorem dX8_mayBegin_138 : decode cX8_mayBegin 138 = .ok (.ireturn, 1) := by decide +kernel
theorem dX8_mayBegin_139 : decode cX8_mayBegin 139 = .ok (.aload_n 0, 1) := by decide +kernel
theorem dX8_mayBegin_140 : decode cX8_mayBegin 140 = .ok (.getfield 35, 3) := by decide +kernel
theorem dX8_mayBegin_143 : decode cX8_mayBegin 143 = .ok (.getfield 113, 3) := by decide +kernel
theorem dX8_mayBegin_146 : decode cX8_mayBegin 146 = .ok (.iconst 5, 1) := by decide +kernel
theorem dX8_mayBegin_147 : decode cX8_mayBegin 147 = .ok (.if_icmp .ge 7, 3) := by decide +kernel
theorem dX8_mayBegin_150 : decode cX8_mayBegin 150 = .ok (.iconst 1, 1) := by decide +kernel
theorem dX8_mayBegin_151 : decode cX8_mayBegin 151 = .ok (.goto 4, 3) := by decide +kernel
theorem dX8_mayBegin_154 : decode cX8_mayBegin 154 = .ok (.iconst 0, 1) := by decide +kernel
theorem dX8_mayBegin_155 : decode cX8_mayBegin 155 = .ok (.ireturn, 1) := by decide +kernel
theorem dX8_mayBegin_156 : decode cX8_mayBegin 156 = .ok (.aload_n 0, 1) := by decide +kernel
theorem dX8_mayBegin_157 : decode cX8_mayBegin 157 = .ok (.getfield 35, 3) := by decide +kernel
theorem dX8_mayBegin_160 : decode cX8_mayBegin 160 = .ok (.getfield 116, 3) := by decide +kernel
theorem dX8_mayBegin_163 : decode cX8_mayBegin 163 = .ok (.bipush 24, 2) := by decide +kernel
theorem dX8_mayBegin_165 : decode cX8_mayBegin 165 = .ok (.if_icmp .ge 7, 3) := by decide +kernel
theorem dX8_mayBegin_168 : decode cX8_mayBegin 168 = .ok (.iconst 1, 1) := by decide +kernel
theorem dX8_mayBegin_169 : decode cX8_mayBegin 169 = .ok (.goto 4, 3) := by decide +kernel
theorem dX8_mayBegin_172 : decode cX8_mayBegin 172 = .ok (.iconst 0, 1) := by decide +kernel
theorem dX8_mayBegin_173 : decode cX8_mayBegin 173 = .ok (.ireturn, 1) := by decide +kernel
theorem dX8_mayBegin_174 : decode cX8_mayBegin 174 = .ok (.aload_n 0, 1) := by decide +kernel
theorem dX8_mayBegin_175 : decode cX8_mayBegin 175 = .ok (.getfield 44, 3) := by decide +kernel
theorem dX8_mayBegin_178 : decode cX8_mayBegin 178 = .ok (.ifCond .ne 7, 3) := by decide +kernel
theorem dX8_mayBegin_181 : decode cX8_mayBegin 181 = .ok (.iconst 1, 1) := by decide +kernel
theorem dX8_mayBegin_182 : decode cX8_mayBegin 182 = .ok (.goto 4, 3) := by decide +kernel
theorem dX8_mayBegin_185 : decode cX8_mayBegin 185 = .ok (.iconst 0, 1) := by decide +kernel
theorem dX8_mayBegin_186 : decode cX8_mayBegin 186 = .ok (.ireturn, 1) := by decide +kernel
theorem dX8_mayBegin_187 : decode cX8_mayBegin 187 = .ok (.aload_n 0, 1) := by decide +kernel
theorem dX8_mayBegin_188 : decode cX8_mayBegin 188 = .ok (.getfield 48, 3) := by decide +kernel
theorem dX8_mayBegin_191 : decode cX8_mayBegin 191 = .ok (.ifCond .ne 7, 3) := by decide +kernel
theorem dX8_mayBegin_194 : decode cX8_mayBegin 194 = .ok (.iconst 1, 1) := by decide +kernel
theorem dX8_mayBegin_195 : decode cX8_mayBegin 195 = .ok (.goto 4, 3) := by decide +kernel
theorem dX8_mayBegin_198 : decode cX8_mayBegin 198 = .ok (.iconst 0, 1) := by decide +kernel
theorem dX8_mayBegin_199 : decode cX8_mayBegin 199 = .ok (.ireturn, 1) := by decide +kernel
theorem dX8_mayBegin_200 : decode cX8_mayBegin 200 = .ok (.aload_n 0, 1) := by decide +kernel
theorem dX8_mayBegin_201 : decode cX8_mayBegin 201 = .ok (.getfield 51, 3) := by decide +kernel
theorem dX8_mayBegin_204 : decode cX8_mayBegin 204 = .ok (.ifCond .ne 7, 3) := by decide +kernel
theorem dX8_mayBegin_207 : decode cX8_mayBegin 207 = .ok (.iconst 1, 1) := by decide +kernel
theorem dX8_mayBegin_208 : decode cX8_mayBegin 208 = .ok (.goto 4, 3) := by decide +kernel
theorem dX8_mayBegin_211 : decode cX8_mayBegin 211 = .ok (.iconst 0, 1) := by decide +kernel
theorem dX8_mayBegin_212 : decode cX8_mayBegin 212 = .ok (.ireturn, 1) := by decide +kernel
theorem dX8_mayBegin_213 : decode cX8_mayBegin 213 = .ok (.aload_n 0, 1) := by decide +kernel
theorem dX8_mayBegin_214 : decode cX8_mayBegin 214 = .ok (.getfield 35, 3) := by decide +kernel
theorem dX8_mayBegin_217 : decode cX8_mayBegin 217 = .ok (.getfield 119, 3) := by decide +kernel
theorem dX8_mayBegin_220 : decode cX8_mayBegin 220 = .ok (.bipush 6, 2) := by decide +kernel
theorem dX8_mayBegin_222 : decode cX8_mayBegin 222 = .ok (.if_icmp .ge 7, 3) := by decide +kernel
theorem dX8_mayBegin_225 : decode cX8_mayBegin 225 = .ok (.iconst 1, 1) := by decide +kernel
theorem dX8_mayBegin_226 : decode cX8_mayBegin 226 = .ok (.goto 4, 3) := by decide +kernel
theorem dX8_mayBegin_229 : decode cX8_mayBegin 229 = .ok (.iconst 0, 1) := by decide +kernel
theorem dX8_mayBegin_230 : decode cX8_mayBegin 230 = .ok (.ireturn, 1) := by decide +kernel
theorem dX8_mayBegin_231 : decode cX8_mayBegin 231 = .ok (.aload_n 0, 1) := by decide +kernel
theorem dX8_mayBegin_232 : decode cX8_mayBegin 232 = .ok (.getfield 35, 3) := by decide +kernel
theorem dX8_mayBegin_235 : decode cX8_mayBegin 235 = .ok (.getfield 122, 3) := by decide +kernel
theorem dX8_mayBegin_238 : decode cX8_mayBegin 238 = .ok (.getfield 126, 3) := by decide +kernel
theorem dX8_mayBegin_241 : decode cX8_mayBegin 241 = .ok (.iconst 4, 1) := by decide +kernel
theorem dX8_mayBegin_242 : decode cX8_mayBegin 242 = .ok (.if_icmp .ge 7, 3) := by decide +kernel
theorem dX8_mayBegin_245 : decode cX8_mayBegin 245 = .ok (.iconst 1, 1) := by decide +kernel
theorem dX8_mayBegin_246 : decode cX8_mayBegin 246 = .ok (.goto 4, 3) := by decide +kernel
theorem dX8_mayBegin_249 : decode cX8_mayBegin 249 = .ok (.iconst 0, 1) := by decide +kernel
theorem dX8_mayBegin_250 : decode cX8_mayBegin 250 = .ok (.ireturn, 1) := by decide +kernel
theorem dX8_mayBegin_251 : decode cX8_mayBegin 251 = .ok (.iconst 0, 1) := by decide +kernel
theorem dX8_mayBegin_252 : decode cX8_mayBegin 252 = .ok (.ireturn, 1) := by decide +kernel
theorem dX8_number_0 : decode cX8_number 0 = .ok (.aload_n 0, 1) := by decide +kernel
theorem dX8_number_1 : decode cX8_number 1 = .ok (.getfield 28, 3) := by decide +kernel
theorem dX8_number_4 : decode cX8_number 4 = .ok (.ifCond .eq 5, 3) := by decide +kernel
theorem dX8_number_7 : decode cX8_number 7 = .ok (.iconst (-1), 1) := by decide +kernel
theorem dX8_number_8 : decode cX8_number 8 = .ok (.ireturn, 1) := by decide +kernel
theorem dX8_number_9 : decode cX8_number 9 = .ok (.aload_n 0, 1) := by decide +kernel
theorem dX8_number_10 : decode cX8_number 10 = .ok (.getfield 12, 3) := by decide +kernel
theorem dX8_number_13 : decode cX8_number 13 = .ok (.getfield 58, 3) := by decide +kernel
theorem dX8_number_16 : decode cX8_number 16 = .ok (.iconst 3, 1) := by decide +kernel
theorem dX8_number_17 : decode cX8_number 17 = .ok (.if_icmp .eq 10, 3) := by decide +kernel
theorem dX8_number_20 : decode cX8_number 20 = .ok (.aload_n 0, 1) := by decide +kernel
theorem dX8_number_21 : decode cX8_number 21 = .ok (.iconst 2, 1) := by decide +kernel
theorem dX8_number_22 : decode cX8_number 22 = .ok (.invokevirtual 75, 3) := by decide +kernel
theorem dX8_number_25 : decode cX8_number 25 = .ok (.iconst (-1), 1) := by decide +kernel
theorem dX8_number_26 : decode cX8_number 26 = .ok (.ireturn, 1) := by decide +kernel
theorem dX8_number_27 : decode cX8_number 27 = .ok (.aload_n 0, 1) := by decide +kernel
theorem dX8_number_28 : decode cX8_number 28 = .ok (.getfield 12, 3) := by decide +kernel
theorem dX8_number_31 : decode cX8_number 31 = .ok (.getfield 276, 3) := by decide +kernel
theorem dX8_number_34 : decode cX8_number 34 = .ok (.iload_n 1, 1) := by decide +kernel
theorem dX8_number_35 : decode cX8_number 35 = .ok (.if_icmp .lt 14, 3) := by decide +kernel
theorem dX8_number_38 : decode cX8_number 38 = .ok (.aload_n 0, 1) := by decide +kernel
theorem dX8_number_39 : decode cX8_number 39 = .ok (.getfield 12, 3) := by decide +kernel
theorem dX8_number_42 : decode cX8_number 42 = .ok (.getfield 276, 3) := by decide +kernel
theorem dX8_number_45 : decode cX8_number 45 = .ok (.iload_n 2, 1) := by decide +kernel
theorem dX8_number_46 : decode cX8_number 46 = .ok (.if_icmp .le 10, 3) := by decide +kernel
theorem dX8_number_49 : decode cX8_number 49 = .ok (.aload_n 0, 1) := by decide +kernel
theorem dX8_number_50 : decode cX8_number 50 = .ok (.iconst 4, 1) := by decide +kernel
theorem dX8_number_51 : decode cX8_number 51 = .ok (.invokevirtual 75, 3) := by decide +kernel
theorem dX8_number_54 : decode cX8_number 54 = .ok (.iconst (-1), 1) := by decide +kernel
theorem dX8_number_55 : decode cX8_number 55 = .ok (.ireturn, 1) := by decide +kernel
theorem dX8_number_56 : decode cX8_number 56 = .ok (.aload_n 0, 1) := by decide +kernel
theorem dX8_number_57 : decode cX8_number 57 = .ok (.getfield 12, 3) := by decide +kernel
theorem dX8_number_60 : decode cX8_number 60 = .ok (.getfield 276, 3) := by decide +kernel
theorem dX8_number_63 : decode cX8_number 63 = .ok (.ireturn, 1) := by decide +kernel
theorem dX8_open_0 : decode cX8_open 0 = .ok (.aload_n 0, 1) := by decide +kernel
theorem dX8_open_1 : decode cX8_open 1 = .ok (.aload_n 1, 1) := by decide +kernel
theorem dX8_open_2 : decode cX8_open 2 = .ok (.putfield 35, 3) := by decide +kernel
theorem dX8_open_5 : decode cX8_open 5 = .ok (.aload_n 0, 1) := by decide +kernel
theorem dX8_open_6 : decode cX8_open 6 = .ok (.getfield 35, 3) := by decide +kernel
theorem dX8_open_9 : decode cX8_open 9 = .ok (.invokevirtual 39, 3) := by decide +kernel
theorem dX8_open_12 : decode cX8_open 12 = .ok (.aload_n 0, 1) := by decide +kernel
theorem dX8_open_13 : decode cX8_open 13 = .ok (.iconst 0, 1) := by decide +kernel
theorem dX8_open_14 : decode cX8_open 14 = .ok (.putfield 44, 3) := by decide +kernel
theorem dX8_open_17 : decode cX8_open 17 = .ok (.aload_n 0, 1) := by decide +kernel
theorem dX8_open_18 : decode cX8_open 18 = .ok (.iconst 0, 1) := by decide +kernel
theorem dX8_open_19 : decode cX8_open 19 = .ok (.putfield 48, 3) := by decide +kernel
theorem dX8_open_22 : decode cX8_open 22 = .ok (.aload_n 0, 1) := by decide +kernel
theorem dX8_open_23 : decode cX8_open 23 = .ok (.iconst 0, 1) := by decide +kernel
theorem dX8_open_24 : decode cX8_open 24 = .ok (.putfield 51, 3) := by decide +kernel
theorem dX8_open_27 : decode cX8_open 27 = .ok (.aload_n 0, 1) := by decide +kernel
theorem dX8_open_28 : decode cX8_open 28 = .ok (.iconst 0, 1) := by decide +kernel
theorem dX8_open_29 : decode cX8_open 29 = .ok (.putfield 28, 3) := by decide +kernel
theorem dX8_open_32 : decode cX8_open 32 = .ok (.aload_n 0, 1) := by decide +kernel
theorem dX8_open_33 : decode cX8_open 33 = .ok (.iconst (-1), 1) := by decide +kernel
theorem dX8_open_34 : decode cX8_open 34 = .ok (.putfield 32, 3) := by decide +kernel
theorem dX8_open_37 : decode cX8_open 37 = .ok (.aload_n 0, 1) := by decide +kernel
theorem dX8_open_38 : decode cX8_open 38 = .ok (.getfield 12, 3) := by decide +kernel
theorem dX8_open_41 : decode cX8_open 41 = .ok (.aload_n 2, 1) := by decide +kernel
theorem dX8_open_42 : decode cX8_open 42 = .ok (.iload_n 3, 1) := by decide +kernel
theorem dX8_open_43 : decode cX8_open 43 = .ok (.invokevirtual 54, 3) := by decide +kernel
theorem dX8_open_46 : decode cX8_open 46 = .ok (.return_, 1) := by decide +kernel
theorem dX8_readBoth_0 : decode cX8_readBoth 0 = .ok (.aload_n 0, 1) := by decide +kernel
theorem dX8_readBoth_1 : decode cX8_readBoth 1 = .ok (.iload_n 1, 1) := by decide +kernel
theorem dX8_readBoth_2 : decode cX8_readBoth 2 = .ok (.invokevirtual 249, 3) := by decide +kernel
theorem dX8_readBoth_5 : decode cX8_readBoth 5 = .ok (.iconst 0, 1) := by decide +kernel
theorem dX8_readBoth_6 : decode cX8_readBoth 6 = .ok (.istore_n 2, 1) := by decide +kernel
theorem dX8_readBoth_7 : decode cX8_readBoth 7 = .ok (.iload_n 2, 1) := by decide +kernel
theorem dX8_readBoth_8 : decode cX8_readBoth 8 = .ok (.sipush 1600, 3) := by decide +kernel
theorem dX8_readBoth_11 : decode cX8_readBoth 11 = .ok (.if_icmp .ge 36, 3) := by decide +kernel
theorem dX8_readBoth_14 : decode cX8_readBoth 14 = .ok (.aload_n 0, 1) := by decide +kernel
theorem dX8_readBoth_15 : decode cX8_readBoth 15 = .ok (.bipush 24, 2) := by decide +kernel
theorem dX8_readBoth_17 : decode cX8_readBoth 17 = .ok (.invokevirtual 243, 3) := by decide +kernel
theorem dX8_readBoth_20 : decode cX8_readBoth 20 = .ok (.ifCond .eq 27, 3) := by decide +kernel
theorem dX8_readBoth_23 : decode cX8_readBoth 23 = .ok (.aload_n 0, 1) := by decide +kernel
theorem dX8_readBoth_24 : decode cX8_readBoth 24 = .ok (.iload_n 1, 1) := by decide +kernel
theorem dX8_readBoth_25 : decode cX8_readBoth 25 = .ok (.invokevirtual 249, 3) := by decide +kernel
theorem dX8_readBoth_28 : decode cX8_readBoth 28 = .ok (.aload_n 0, 1) := by decide +kernel
theorem dX8_readBoth_29 : decode cX8_readBoth 29 = .ok (.getfield 35, 3) := by decide +kernel
theorem dX8_readBoth_32 : decode cX8_readBoth 32 = .ok (.getfield 122, 3) := by decide +kernel
theorem dX8_readBoth_35 : decode cX8_readBoth 35 = .ok (.bipush 10, 2) := by decide +kernel
theorem dX8_readBoth_37 : decode cX8_readBoth 37 = .ok (.iconst 0, 1) := by decide +kernel
theorem dX8_readBoth_38 : decode cX8_readBoth 38 = .ok (.invokevirtual 246, 3) := by decide +kernel
theorem dX8_readBoth_41 : decode cX8_readBoth 41 = .ok (.iinc 2 1, 3) := by decide +kernel
theorem dX8_readBoth_44 : decode cX8_readBoth 44 = .ok (.goto (-37), 3) := by decide +kernel
theorem dX8_readBoth_47 : decode cX8_readBoth 47 = .ok (.return_, 1) := by decide +kernel
theorem dX8_readCar_0 : decode cX8_readCar 0 = .ok (.aload_n 0, 1) := by decide +kernel
theorem dX8_readCar_1 : decode cX8_readCar 1 = .ok (.getfield 35, 3) := by decide +kernel
theorem dX8_readCar_4 : decode cX8_readCar 4 = .ok (.getfield 113, 3) := by decide +kernel
theorem dX8_readCar_7 : decode cX8_readCar 7 = .ok (.istore_n 1, 1) := by decide +kernel
theorem dX8_readCar_8 : decode cX8_readCar 8 = .ok (.aload_n 0, 1) := by decide +kernel
theorem dX8_readCar_9 : decode cX8_readCar 9 = .ok (.aload_n 0, 1) := by decide +kernel
theorem dX8_readCar_10 : decode cX8_readCar 10 = .ok (.getfield 22, 3) := by decide +kernel
theorem dX8_readCar_13 : decode cX8_readCar 13 = .ok (.iload_n 1, 1) := by decide +kernel
theorem dX8_readCar_14 : decode cX8_readCar 14 = .ok (.invokevirtual 135, 3) := by decide +kernel
theorem dX8_readCar_17 : decode cX8_readCar 17 = .ok (.aload_n 0, 1) := by decide +kernel
theorem dX8_readCar_18 : decode cX8_readCar 18 = .ok (.bipush 8, 2) := by decide +kernel
theorem dX8_readCar_20 : decode cX8_readCar 20 = .ok (.iconst 0, 1) := by decide +kernel
theorem dX8_readCar_21 : decode cX8_readCar 21 = .ok (.bipush 59, 2) := by decide +kernel
theorem dX8_readCar_23 : decode cX8_readCar 23 = .ok (.invokevirtual 139, 3) := by decide +kernel
theorem dX8_readCar_26 : decode cX8_readCar 26 = .ok (.istore_n 2, 1) := by decide +kernel
theorem dX8_readCar_27 : decode cX8_readCar 27 = .ok (.aload_n 0, 1) := by decide +kernel
theorem dX8_readCar_28 : decode cX8_readCar 28 = .ok (.bipush 9, 2) := by decide +kernel
theorem dX8_readCar_30 : decode cX8_readCar 30 = .ok (.iconst 1, 1) := by decide +kernel
theorem dX8_readCar_31 : decode cX8_readCar 31 = .ok (.bipush 99, 2) := by decide +kernel
theorem dX8_readCar_33 : decode cX8_readCar 33 = .ok (.invokevirtual 139, 3) := by decide +kernel
theorem dX8_readCar_36 : decode cX8_readCar 36 = .ok (.istore_n 3, 1) := by decide +kernel
theorem dX8_readCar_37 : decode cX8_readCar 37 = .ok (.aload_n 0, 1) := by decide +kernel
theorem dX8_readCar_38 : decode cX8_readCar 38 = .ok (.getfield 28, 3) := by decide +kernel
theorem dX8_readCar_41 : decode cX8_readCar 41 = .ok (.ifCond .ne 41, 3) := by decide +kernel
theorem dX8_readCar_44 : decode cX8_readCar 44 = .ok (.iload_n 1, 1) := by decide +kernel
theorem dX8_readCar_45 : decode cX8_readCar 45 = .ok (.iconst 5, 1) := by decide +kernel
theorem dX8_readCar_46 : decode cX8_readCar 46 = .ok (.if_icmp .ge 36, 3) := by decide +kernel
theorem dX8_readCar_49 : decode cX8_readCar 49 = .ok (.aload_n 0, 1) := by decide +kernel
theorem dX8_readCar_50 : decode cX8_readCar 50 = .ok (.getfield 35, 3) := by decide +kernel
theorem dX8_readCar_53 : decode cX8_readCar 53 = .ok (.getfield 193, 3) := by decide +kernel
theorem dX8_readCar_56 : decode cX8_readCar 56 = .ok (.iload_n 1, 1) := by decide +kernel
theorem dX8_readCar_57 : decode cX8_readCar 57 = .ok (.iload_n 2, 1) := by decide +kernel
theorem dX8_readCar_58 : decode cX8_readCar 58 = .ok (.iastore, 1) := by decide +kernel
theorem dX8_readCar_59 : decode cX8_readCar 59 = .ok (.aload_n 0, 1) := by decide +kernel
theorem dX8_readCar_60 : decode cX8_readCar 60 = .ok (.getfield 35, 3) := by decide +kernel
theorem dX8_readCar_63 : decode cX8_readCar 63 = .ok (.getfield 197, 3) := by decide +kernel
theorem dX8_readCar_66 : decode cX8_readCar 66 = .ok (.iload_n 1, 1) := by decide +kernel
theorem dX8_readCar_67 : decode cX8_readCar 67 = .ok (.iload_n 3, 1) := by decide +kernel
theorem dX8_readCar_68 : decode cX8_readCar 68 = .ok (.iastore, 1) := by decide +kernel
theorem dX8_readCar_69 : decode cX8_readCar 69 = .ok (.aload_n 0, 1) := by decide +kernel
theorem dX8_readCar_70 : decode cX8_readCar 70 = .ok (.getfield 35, 3) := by decide +kernel
theorem dX8_readCar_73 : decode cX8_readCar 73 = .ok (.dup, 1) := by decide +kernel
theorem dX8_readCar_74 : decode cX8_readCar 74 = .ok (.getfield 113, 3) := by decide +kernel
theorem dX8_readCar_77 : decode cX8_readCar 77 = .ok (.iconst 1, 1) := by decide +kernel
theorem dX8_readCar_78 : decode cX8_readCar 78 = .ok (.iadd, 1) := by decide +kernel
theorem dX8_readCar_79 : decode cX8_readCar 79 = .ok (.putfield 113, 3) := by decide +kernel
theorem dX8_readCar_82 : decode cX8_readCar 82 = .ok (.return_, 1) := by decide +kernel
theorem dX8_readCross_0 : decode cX8_readCross 0 = .ok (.aload_n 0, 1) := by decide +kernel
theorem dX8_readCross_1 : decode cX8_readCross 1 = .ok (.iconst 0, 1) := by decide +kernel
theorem dX8_readCross_2 : decode cX8_readCross 2 = .ok (.bipush 59, 2) := by decide +kernel
theorem dX8_readCross_4 : decode cX8_readCross 4 = .ok (.invokevirtual 163, 3) := by decide +kernel
theorem dX8_readCross_7 : decode cX8_readCross 7 = .ok (.istore_n 1, 1) := by decide +kernel
theorem dX8_readCross_8 : decode cX8_readCross 8 = .ok (.aload_n 0, 1) := by decide +kernel
theorem dX8_readCross_9 : decode cX8_readCross 9 = .ok (.getfield 28, 3) := by decide +kernel
theorem dX8_readCross_12 : decode cX8_readCross 12 = .ok (.ifCond .ne 23, 3) := by decide +kernel
theorem dX8_readCross_15 : decode cX8_readCross 15 = .ok (.aload_n 0, 1) := by decide +kernel
theorem dX8_readCross_16 : decode cX8_readCross 16 = .ok (.getfield 35, 3) := by decide +kernel
theorem dX8_readCross_19 : decode cX8_readCross 19 = .ok (.getfield 122, 3) := by decide +kernel
theorem dX8_readCross_22 : decode cX8_readCross 22 = .ok (.iload_n 1, 1) := by decide +kernel
theorem dX8_readCross_23 : decode cX8_readCross 23 = .ok (.invokevirtual 231, 3) := by decide +kernel
theorem dX8_readCross_26 : decode cX8_readCross 26 = .ok (.iconst (-1), 1) := by decide +kernel
theorem dX8_readCross_27 : decode cX8_readCross 27 = .ok (.if_icmp .eq 8, 3) := by decide +kernel
theorem dX8_readCross_30 : decode cX8_readCross 30 = .ok (.aload_n 0, 1) := by decide +kernel
theorem dX8_readCross_31 : decode cX8_readCross 31 = .ok (.iconst 3, 1) := by decide +kernel
theorem dX8_readCross_32 : decode cX8_readCross 32 = .ok (.invokevirtual 75, 3) := by decide +kernel
theorem dX8_readCross_35 : decode cX8_readCross 35 = .ok (.aload_n 0, 1) := by decide +kernel
theorem dX8_readCross_36 : decode cX8_readCross 36 = .ok (.invokevirtual 173, 3) := by decide +kernel
theorem dX8_readCross_39 : decode cX8_readCross 39 = .ok (.aload_n 0, 1) := by decide +kernel
theorem dX8_readCross_40 : decode cX8_readCross 40 = .ok (.bipush 22, 2) := by decide +kernel
theorem dX8_readCross_42 : decode cX8_readCross 42 = .ok (.invokevirtual 154, 3) := by decide +kernel
theorem dX8_readCross_45 : decode cX8_readCross 45 = .ok (.aload_n 0, 1) := by decide +kernel
theorem dX8_readCross_46 : decode cX8_readCross 46 = .ok (.iconst 0, 1) := by decide +kernel
theorem dX8_readCross_47 : decode cX8_readCross 47 = .ok (.invokevirtual 234, 3) := by decide +kernel
theorem dX8_readCross_50 : decode cX8_readCross 50 = .ok (.aload_n 0, 1) := by decide +kernel
theorem dX8_readCross_51 : decode cX8_readCross 51 = .ok (.getfield 28, 3) := by decide +kernel
theorem dX8_readCross_54 : decode cX8_readCross 54 = .ok (.ifCond .ne 14, 3) := by decide +kernel
theorem dX8_readCross_57 : decode cX8_readCross 57 = .ok (.aload_n 0, 1) := by decide +kernel
theorem dX8_readCross_58 : decode cX8_readCross 58 = .ok (.getfield 35, 3) := by decide +kernel
theorem dX8_readCross_61 : decode cX8_readCross 61 = .ok (.getfield 122, 3) := by decide +kernel
theorem dX8_readCross_64 : decode cX8_readCross 64 = .ok (.iload_n 1, 1) := by decide +kernel
theorem dX8_readCross_65 : decode cX8_readCross 65 = .ok (.invokevirtual 237, 3) := by decide +kernel
theorem dX8_readCross_68 : decode cX8_readCross 68 = .ok (.return_, 1) := by decide +kernel
theorem dX8_readEither_0 : decode cX8_readEither 0 = .ok (.aload_n 0, 1) := by decide +kernel
theorem dX8_readEither_1 : decode cX8_readEither 1 = .ok (.iload_n 1, 1) := by decide +kernel
theorem dX8_readEither_2 : decode cX8_readEither 2 = .ok (.invokevirtual 240, 3) := by decide +kernel
theorem dX8_readEither_5 : decode cX8_readEither 5 = .ok (.iconst 0, 1) := by decide +kernel
theorem dX8_readEither_6 : decode cX8_readEither 6 = .ok (.istore_n 2, 1) := by decide +kernel
theorem dX8_readEither_7 : decode cX8_readEither 7 = .ok (.iload_n 2, 1) := by decide +kernel
theorem dX8_readEither_8 : decode cX8_readEither 8 = .ok (.sipush 1600, 3) := by decide +kernel
theorem dX8_readEither_11 : decode cX8_readEither 11 = .ok (.if_icmp .ge 36, 3) := by decide +kernel
theorem dX8_readEither_14 : decode cX8_readEither 14 = .ok (.aload_n 0, 1) := by decide +kernel
theorem dX8_readEither_15 : decode cX8_readEither 15 = .ok (.bipush 23, 2) := by decide +kernel
theorem dX8_readEither_17 : decode cX8_readEither 17 = .ok (.invokevirtual 243, 3) := by decide +kernel
theorem dX8_readEither_20 : decode cX8_readEither 20 = .ok (.ifCond .eq 27, 3) := by decide +kernel
theorem dX8_readEither_23 : decode cX8_readEither 23 = .ok (.aload_n 0, 1) := by decide +kernel
theorem dX8_readEither_24 : decode cX8_readEither 24 = .ok (.iload_n 1, 1) := by decide +kernel
theorem dX8_readEither_25 : decode cX8_readEither 25 = .ok (.invokevirtual 240, 3) := by decide +kernel
theorem dX8_readEither_28 : decode cX8_readEither 28 = .ok (.aload_n 0, 1) := by decide +kernel
theorem dX8_readEither_29 : decode cX8_readEither 29 = .ok (.getfield 35, 3) := by decide +kernel
theorem dX8_readEither_32 : decode cX8_readEither 32 = .ok (.getfield 122, 3) := by decide +kernel
theorem dX8_readEither_35 : decode cX8_readEither 35 = .ok (.bipush 9, 2) := by decide +kernel
theorem dX8_readEither_37 : decode cX8_readEither 37 = .ok (.iconst 0, 1) := by decide +kernel
theorem dX8_readEither_38 : decode cX8_readEither 38 = .ok (.invokevirtual 246, 3) := by decide +kernel
theorem dX8_readEither_41 : decode cX8_readEither 41 = .ok (.iinc 2 1, 3) := by decide +kernel
theorem dX8_readEither_44 : decode cX8_readEither 44 = .ok (.goto (-37), 3) := by decide +kernel
theorem dX8_readEither_47 : decode cX8_readEither 47 = .ok (.return_, 1) := by decide +kernel
theorem dX8_readGrade_0 : decode cX8_readGrade 0 = .ok (.aload_n 0, 1) := by decide +kernel
theorem dX8_readGrade_1 : decode cX8_readGrade 1 = .ok (.iconst 0, 1) := by decide +kernel
theorem dX8_readGrade_2 : decode cX8_readGrade 2 = .ok (.bipush 59, 2) := by decide +kernel
theorem dX8_readGrade_4 : decode cX8_readGrade 4 = .ok (.invokevirtual 182, 3) := by decide +kernel
theorem dX8_readGrade_7 : decode cX8_readGrade 7 = .ok (.istore_n 1, 1) := by decide +kernel
theorem dX8_readGrade_8 : decode cX8_readGrade 8 = .ok (.aload_n 0, 1) := by decide +kernel
theorem dX8_readGrade_9 : decode cX8_readGrade 9 = .ok (.iconst 4, 1) := by decide +kernel
theorem dX8_readGrade_10 : decode cX8_readGrade 10 = .ok (.iload_n 1, 1) := by decide +kernel
theorem dX8_readGrade_11 : decode cX8_readGrade 11 = .ok (.bipush 59, 2) := by decide +kernel
theorem dX8_readGrade_13 : decode cX8_readGrade 13 = .ok (.invokevirtual 139, 3) := by decide +kernel
theorem dX8_readGrade_16 : decode cX8_readGrade 16 = .ok (.istore_n 2, 1) := by decide +kernel
theorem dX8_readGrade_17 : decode cX8_readGrade 17 = .ok (.aload_n 0, 1) := by decide +kernel
theorem dX8_readGrade_18 : decode cX8_readGrade 18 = .ok (.getfield 12, 3) := by decide +kernel
theorem dX8_readGrade_21 : decode cX8_readGrade 21 = .ok (.getfield 61, 3) := by decide +kernel
theorem dX8_readGrade_24 : decode cX8_readGrade 24 = .ok (.istore_n 3, 1) := by decide +kernel
theorem dX8_readGrade_25 : decode cX8_readGrade 25 = .ok (.aload_n 0, 1) := by decide +kernel
theorem dX8_readGrade_26 : decode cX8_readGrade 26 = .ok (.bipush 45, 2) := by decide +kernel
theorem dX8_readGrade_28 : decode cX8_readGrade 28 = .ok (.invokevirtual 185, 3) := by decide +kernel
theorem dX8_readGrade_31 : decode cX8_readGrade 31 = .ok (.istore 4, 2) := by decide +kernel
theorem dX8_readGrade_33 : decode cX8_readGrade 33 = .ok (.aload_n 0, 1) := by decide +kernel
theorem dX8_readGrade_34 : decode cX8_readGrade 34 = .ok (.iconst 0, 1) := by decide +kernel
theorem dX8_readGrade_35 : decode cX8_readGrade 35 = .ok (.sipush 9999, 3) := by decide +kernel
theorem dX8_readGrade_38 : decode cX8_readGrade 38 = .ok (.invokevirtual 163, 3) := by decide +kernel
theorem dX8_readGrade_41 : decode cX8_readGrade 41 = .ok (.istore 5, 2) := by decide +kernel
theorem dX8_readGrade_43 : decode cX8_readGrade 43 = .ok (.aload_n 0, 1) := by decide +kernel
theorem dX8_readGrade_44 : decode cX8_readGrade 44 = .ok (.getfield 28, 3) := by decide +kernel
theorem dX8_readGrade_47 : decode cX8_readGrade 47 = .ok (.ifCond .ne 16, 3) := by decide +kernel
theorem dX8_readGrade_50 : decode cX8_readGrade 50 = .ok (.iload 5, 2) := by decide +kernel
theorem dX8_readGrade_52 : decode cX8_readGrade 52 = .ok (.bipush 9, 2) := by decide +kernel
theorem dX8_readGrade_54 : decode cX8_readGrade 54 = .ok (.if_icmp .le 9, 3) := by decide +kernel
theorem dX8_readGrade_57 : decode cX8_readGrade 57 = .ok (.aload_n 0, 1) := by decide +kernel
theorem dX8_readGrade_58 : decode cX8_readGrade 58 = .ok (.iconst 4, 1) := by decide +kernel
theorem dX8_readGrade_59 : decode cX8_readGrade 59 = .ok (.iload_n 3, 1) := by decide +kernel
theorem dX8_readGrade_60 : decode cX8_readGrade 60 = .ok (.invokevirtual 64, 3) := by decide +kernel
theorem dX8_readGrade_63 : decode cX8_readGrade 63 = .ok (.aload_n 0, 1) := by decide +kernel
theorem dX8_readGrade_64 : decode cX8_readGrade 64 = .ok (.invokevirtual 173, 3) := by decide +kernel
theorem dX8_readGrade_67 : decode cX8_readGrade 67 = .ok (.aload_n 0, 1) := by decide +kernel
theorem dX8_readGrade_68 : decode cX8_readGrade 68 = .ok (.getfield 28, 3) := by decide +kernel
theorem dX8_readGrade_71 : decode cX8_readGrade 71 = .ok (.ifCond .ne 38, 3) := by decide +kernel
theorem dX8_readGrade_74 : decode cX8_readGrade 74 = .ok (.aload_n 0, 1) := by decide +kernel
theorem dX8_readGrade_75 : decode cX8_readGrade 75 = .ok (.getfield 35, 3) := by decide +kernel
theorem dX8_readGrade_78 : decode cX8_readGrade 78 = .ok (.iload_n 1, 1) := by decide +kernel
theorem dX8_readGrade_79 : decode cX8_readGrade 79 = .ok (.iload_n 2, 1) := by decide +kernel
theorem dX8_readGrade_80 : decode cX8_readGrade 80 = .ok (.iload 4, 2) := by decide +kernel
theorem dX8_readGrade_82 : decode cX8_readGrade 82 = .ok (.ifCond .eq 9, 3) := by decide +kernel
theorem dX8_readGrade_85 : decode cX8_readGrade 85 = .ok (.iload 5, 2) := by decide +kernel
theorem dX8_readGrade_87 : decode cX8_readGrade 87 = .ok (.ineg, 1) := by decide +kernel
theorem dX8_readGrade_88 : decode cX8_readGrade 88 = .ok (.goto 5, 3) := by decide +kernel
theorem dX8_readGrade_91 : decode cX8_readGrade 91 = .ok (.iload 5, 2) := by decide +kernel
theorem dX8_readGrade_93 : decode cX8_readGrade 93 = .ok (.invokevirtual 189, 3) := by decide +kernel
theorem dX8_readGrade_96 : decode cX8_readGrade 96 = .ok (.aload_n 0, 1) := by decide +kernel
theorem dX8_readGrade_97 : decode cX8_readGrade 97 = .ok (.getfield 35, 3) := by decide +kernel
theorem dX8_readGrade_100 : decode cX8_readGrade 100 = .ok (.dup, 1) := by decide +kernel
theorem dX8_readGrade_101 : decode cX8_readGrade 101 = .ok (.getfield 110, 3) := by decide +kernel
theorem dX8_readGrade_104 : decode cX8_readGrade 104 = .ok (.iconst 1, 1) := by decide +kernel
theorem dX8_readGrade_105 : decode cX8_readGrade 105 = .ok (.iadd, 1) := by decide +kernel
theorem dX8_readGrade_106 : decode cX8_readGrade 106 = .ok (.putfield 110, 3) := by decide +kernel
theorem dX8_readGrade_109 : decode cX8_readGrade 109 = .ok (.return_, 1) := by decide +kernel
theorem dX8_readLine_0 : decode cX8_readLine 0 = .ok (.aload_n 0, 1) := by decide +kernel
theorem dX8_readLine_1 : decode cX8_readLine 1 = .ok (.getfield 12, 3) := by decide +kernel
theorem dX8_readLine_4 : decode cX8_readLine 4 = .ok (.getfield 68, 3) := by decide +kernel
theorem dX8_readLine_7 : decode cX8_readLine 7 = .ok (.istore_n 1, 1) := by decide +kernel
theorem dX8_readLine_8 : decode cX8_readLine 8 = .ok (.aload_n 0, 1) := by decide +kernel
theorem dX8_readLine_9 : decode cX8_readLine 9 = .ok (.iload_n 1, 1) := by decide +kernel
theorem dX8_readLine_10 : decode cX8_readLine 10 = .ok (.invokevirtual 71, 3) := by decide +kernel
theorem dX8_readLine_13 : decode cX8_readLine 13 = .ok (.ifCond .ne 9, 3) := by decide +kernel
theorem dX8_readLine_16 : decode cX8_readLine 16 = .ok (.aload_n 0, 1) := by decide +kernel
theorem dX8_readLine_17 : decode cX8_readLine 17 = .ok (.iconst 2, 1) := by decide +kernel
theorem dX8_readLine_18 : decode cX8_readLine 18 = .ok (.invokevirtual 75, 3) := by decide +kernel
theorem dX8_readLine_21 : decode cX8_readLine 21 = .ok (.return_, 1) := by decide +kernel
theorem dX8_readLine_22 : decode cX8_readLine 22 = .ok (.aload_n 0, 1) := by decide +kernel
theorem dX8_readLine_23 : decode cX8_readLine 23 = .ok (.getfield 12, 3) := by decide +kernel
theorem dX8_readLine_26 : decode cX8_readLine 26 = .ok (.invokevirtual 79, 3) := by decide +kernel
theorem dX8_readLine_29 : decode cX8_readLine 29 = .ok (.iload_n 1, 1) := by decide +kernel
theorem dX8_readLine_30 : decode cX8_readLine 30 = .ok (.tableswitch 169 0 21 #[102, 169, 169, 169, 169, 169, 109, 116, 169, 169, 137, 145, 153, 169, 161, 169, 169, 123, 169, 169, 169, 130], 102) := by decide +kernel
theorem dX8_readLine_132 : decode cX8_readLine 132 = .ok (.aload_n 0, 1) := by decide +kernel
theorem dX8_readLine_133 : decode cX8_readLine 133 = .ok (.invokevirtual 82, 3) := by decide +kernel
theorem dX8_readLine_136 : decode cX8_readLine 136 = .ok (.goto 68, 3) := by decide +kernel
theorem dX8_readLine_139 : decode cX8_readLine 139 = .ok (.aload_n 0, 1) := by decide +kernel
theorem dX8_readLine_140 : decode cX8_readLine 140 = .ok (.invokevirtual 85, 3) := by decide +kernel
theorem dX8_readLine_143 : decode cX8_readLine 143 = .ok (.goto 61, 3) := by decide +kernel
theorem dX8_readLine_146 : decode cX8_readLine 146 = .ok (.aload_n 0, 1) := by decide +kernel
theorem dX8_readLine_147 : decode cX8_readLine 147 = .ok (.invokevirtual 88, 3) := by decide +kernel
theorem dX8_readLine_150 : decode cX8_readLine 150 = .ok (.goto 54, 3) := by decide +kernel
theorem dX8_readLine_153 : decode cX8_readLine 153 = .ok (.aload_n 0, 1) := by decide +kernel
theorem dX8_readLine_154 : decode cX8_readLine 154 = .ok (.invokevirtual 91, 3) := by decide +kernel
theorem dX8_readLine_157 : decode cX8_readLine 157 = .ok (.goto 47, 3) := by decide +kernel
theorem dX8_readLine_160 : decode cX8_readLine 160 = .ok (.aload_n 0, 1) := by decide +kernel
theorem dX8_readLine_161 : decode cX8_readLine 161 = .ok (.invokevirtual 94, 3) := by decide +kernel
theorem dX8_readLine_164 : decode cX8_readLine 164 = .ok (.goto 40, 3) := by decide +kernel
theorem dX8_readLine_167 : decode cX8_readLine 167 = .ok (.aload_n 0, 1) := by decide +kernel
theorem dX8_readLine_168 : decode cX8_readLine 168 = .ok (.iconst 0, 1) := by decide +kernel
theorem dX8_readLine_169 : decode cX8_readLine 169 = .ok (.invokevirtual 97, 3) := by decide +kernel
theorem dX8_readLine_172 : decode cX8_readLine 172 = .ok (.goto 32, 3) := by decide +kernel
theorem dX8_readLine_175 : decode cX8_readLine 175 = .ok (.aload_n 0, 1) := by decide +kernel
theorem dX8_readLine_176 : decode cX8_readLine 176 = .ok (.iconst 1, 1) := by decide +kernel
theorem dX8_readLine_177 : decode cX8_readLine 177 = .ok (.invokevirtual 97, 3) := by decide +kernel
theorem dX8_readLine_180 : decode cX8_readLine 180 = .ok (.goto 24, 3) := by decide +kernel
theorem dX8_readLine_183 : decode cX8_readLine 183 = .ok (.aload_n 0, 1) := by decide +kernel
theorem dX8_readLine_184 : decode cX8_readLine 184 = .ok (.iconst 2, 1) := by decide +kernel
theorem dX8_readLine_185 : decode cX8_readLine 185 = .ok (.invokevirtual 97, 3) := by decide +kernel
theorem dX8_readLine_188 : decode cX8_readLine 188 = .ok (.goto 16, 3) := by decide +kernel
theorem dX8_readLine_191 : decode cX8_readLine 191 = .ok (.aload_n 0, 1) := by decide +kernel
theorem dX8_readLine_192 : decode cX8_readLine 192 = .ok (.iconst 3, 1) := by decide +kernel
theorem dX8_readLine_193 : decode cX8_readLine 193 = .ok (.invokevirtual 97, 3) := by decide +kernel
theorem dX8_readLine_196 : decode cX8_readLine 196 = .ok (.goto 8, 3) := by decide +kernel
theorem dX8_readLine_199 : decode cX8_readLine 199 = .ok (.aload_n 0, 1) := by decide +kernel
theorem dX8_readLine_200 : decode cX8_readLine 200 = .ok (.iload_n 1, 1) := by decide +kernel
theorem dX8_readLine_201 : decode cX8_readLine 201 = .ok (.invokevirtual 100, 3) := by decide +kernel
theorem dX8_readLine_204 : decode cX8_readLine 204 = .ok (.aload_n 0, 1) := by decide +kernel
theorem dX8_readLine_205 : decode cX8_readLine 205 = .ok (.bipush 59, 2) := by decide +kernel
theorem dX8_readLine_207 : decode cX8_readLine 207 = .ok (.invokevirtual 103, 3) := by decide +kernel
theorem dX8_readLine_210 : decode cX8_readLine 210 = .ok (.return_, 1) := by decide +kernel
theorem dX8_readMark_0 : decode cX8_readMark 0 = .ok (.aload_n 0, 1) := by decide +kernel
theorem dX8_readMark_1 : decode cX8_readMark 1 = .ok (.iconst 0, 1) := by decide +kernel
theorem dX8_readMark_2 : decode cX8_readMark 2 = .ok (.bipush 59, 2) := by decide +kernel
theorem dX8_readMark_4 : decode cX8_readMark 4 = .ok (.invokevirtual 163, 3) := by decide +kernel
theorem dX8_readMark_7 : decode cX8_readMark 7 = .ok (.istore_n 2, 1) := by decide +kernel
theorem dX8_readMark_8 : decode cX8_readMark 8 = .ok (.aload_n 0, 1) := by decide +kernel
theorem dX8_readMark_9 : decode cX8_readMark 9 = .ok (.getfield 28, 3) := by decide +kernel
theorem dX8_readMark_12 : decode cX8_readMark 12 = .ok (.ifCond .ne 20, 3) := by decide +kernel
theorem dX8_readMark_15 : decode cX8_readMark 15 = .ok (.aload_n 0, 1) := by decide +kernel
theorem dX8_readMark_16 : decode cX8_readMark 16 = .ok (.getfield 35, 3) := by decide +kernel
theorem dX8_readMark_19 : decode cX8_readMark 19 = .ok (.iload_n 1, 1) := by decide +kernel
theorem dX8_readMark_20 : decode cX8_readMark 20 = .ok (.iload_n 2, 1) := by decide +kernel
theorem dX8_readMark_21 : decode cX8_readMark 21 = .ok (.invokevirtual 216, 3) := by decide +kernel
theorem dX8_readMark_24 : decode cX8_readMark 24 = .ok (.ifCond .eq 8, 3) := by decide +kernel
theorem dX8_readMark_27 : decode cX8_readMark 27 = .ok (.aload_n 0, 1) := by decide +kernel
theorem dX8_readMark_28 : decode cX8_readMark 28 = .ok (.iconst 3, 1) := by decide +kernel
theorem dX8_readMark_29 : decode cX8_readMark 29 = .ok (.invokevirtual 75, 3) := by decide +kernel
theorem dX8_readMark_32 : decode cX8_readMark 32 = .ok (.aload_n 0, 1) := by decide +kernel
theorem dX8_readMark_33 : decode cX8_readMark 33 = .ok (.invokevirtual 173, 3) := by decide +kernel
theorem dX8_readMark_36 : decode cX8_readMark 36 = .ok (.iload_n 1, 1) := by decide +kernel
theorem dX8_readMark_37 : decode cX8_readMark 37 = .ok (.iconst 2, 1) := by decide +kernel
theorem dX8_readMark_38 : decode cX8_readMark 38 = .ok (.if_icmp .ne 15, 3) := by decide +kernel
theorem dX8_readMark_41 : decode cX8_readMark 41 = .ok (.aload_n 0, 1) := by decide +kernel
theorem dX8_readMark_42 : decode cX8_readMark 42 = .ok (.bipush 13, 2) := by decide +kernel
theorem dX8_readMark_44 : decode cX8_readMark 44 = .ok (.iconst 1, 1) := by decide +kernel
theorem dX8_readMark_45 : decode cX8_readMark 45 = .ok (.bipush 99, 2) := by decide +kernel
theorem dX8_readMark_47 : decode cX8_readMark 47 = .ok (.invokevirtual 139, 3) := by decide +kernel
theorem dX8_readMark_50 : decode cX8_readMark 50 = .ok (.goto 4, 3) := by decide +kernel
theorem dX8_readMark_53 : decode cX8_readMark 53 = .ok (.iconst 1, 1) := by decide +kernel
theorem dX8_readMark_54 : decode cX8_readMark 54 = .ok (.istore_n 3, 1) := by decide +kernel
theorem dX8_readMark_55 : decode cX8_readMark 55 = .ok (.aload_n 0, 1) := by decide +kernel
theorem dX8_readMark_56 : decode cX8_readMark 56 = .ok (.getfield 28, 3) := by decide +kernel
theorem dX8_readMark_59 : decode cX8_readMark 59 = .ok (.ifCond .ne 26, 3) := by decide +kernel
theorem dX8_readMark_62 : decode cX8_readMark 62 = .ok (.aload_n 0, 1) := by decide +kernel
theorem dX8_readMark_63 : decode cX8_readMark 63 = .ok (.getfield 35, 3) := by decide +kernel
theorem dX8_readMark_66 : decode cX8_readMark 66 = .ok (.iload_n 1, 1) := by decide +kernel
theorem dX8_readMark_67 : decode cX8_readMark 67 = .ok (.iload_n 2, 1) := by decide +kernel
theorem dX8_readMark_68 : decode cX8_readMark 68 = .ok (.iload_n 3, 1) := by decide +kernel
theorem dX8_readMark_69 : decode cX8_readMark 69 = .ok (.invokevirtual 219, 3) := by decide +kernel
theorem dX8_readMark_72 : decode cX8_readMark 72 = .ok (.aload_n 0, 1) := by decide +kernel
theorem dX8_readMark_73 : decode cX8_readMark 73 = .ok (.getfield 35, 3) := by decide +kernel
theorem dX8_readMark_76 : decode cX8_readMark 76 = .ok (.dup, 1) := by decide +kernel
theorem dX8_readMark_77 : decode cX8_readMark 77 = .ok (.getfield 116, 3) := by decide +kernel
theorem dX8_readMark_80 : decode cX8_readMark 80 = .ok (.iconst 1, 1) := by decide +kernel
theorem dX8_readMark_81 : decode cX8_readMark 81 = .ok (.iadd, 1) := by decide +kernel
theorem dX8_readMark_82 : decode cX8_readMark 82 = .ok (.putfield 116, 3) := by decide +kernel
theorem dX8_readMark_85 : decode cX8_readMark 85 = .ok (.return_, 1) := by decide +kernel
theorem dX8_readOne_0 : decode cX8_readOne 0 = .ok (.iload_n 1, 1) := by decide +kernel
theorem dX8_readOne_1 : decode cX8_readOne 1 = .ok (.bipush 6, 2) := by decide +kernel
theorem dX8_readOne_3 : decode cX8_readOne 3 = .ok (.if_icmp .le 20, 3) := by decide +kernel
theorem dX8_readOne_6 : decode cX8_readOne 6 = .ok (.aload_n 0, 1) := by decide +kernel
theorem dX8_readOne_7 : decode cX8_readOne 7 = .ok (.bipush 25, 2) := by decide +kernel
theorem dX8_readOne_9 : decode cX8_readOne 9 = .ok (.invokevirtual 252, 3) := by decide +kernel
theorem dX8_readOne_12 : decode cX8_readOne 12 = .ok (.ifCond .eq 11, 3) := by decide +kernel
theorem dX8_readOne_15 : decode cX8_readOne 15 = .ok (.aload_n 0, 1) := by decide +kernel
theorem dX8_readOne_16 : decode cX8_readOne 16 = .ok (.iconst 2, 1) := by decide +kernel
theorem dX8_readOne_17 : decode cX8_readOne 17 = .ok (.invokevirtual 75, 3) := by decide +kernel
theorem dX8_readOne_20 : decode cX8_readOne 20 = .ok (.goto 40, 3) := by decide +kernel
theorem dX8_readOne_23 : decode cX8_readOne 23 = .ok (.aload_n 0, 1) := by decide +kernel
theorem dX8_readOne_24 : decode cX8_readOne 24 = .ok (.bipush 25, 2) := by decide +kernel
theorem dX8_readOne_26 : decode cX8_readOne 26 = .ok (.invokevirtual 243, 3) := by decide +kernel
theorem dX8_readOne_29 : decode cX8_readOne 29 = .ok (.ifCond .eq 26, 3) := by decide +kernel
theorem dX8_readOne_32 : decode cX8_readOne 32 = .ok (.aload_n 0, 1) := by decide +kernel
theorem dX8_readOne_33 : decode cX8_readOne 33 = .ok (.iload_n 1, 1) := by decide +kernel
theorem dX8_readOne_34 : decode cX8_readOne 34 = .ok (.iconst 1, 1) := by decide +kernel
theorem dX8_readOne_35 : decode cX8_readOne 35 = .ok (.iadd, 1) := by decide +kernel
theorem dX8_readOne_36 : decode cX8_readOne 36 = .ok (.invokevirtual 249, 3) := by decide +kernel
theorem dX8_readOne_39 : decode cX8_readOne 39 = .ok (.aload_n 0, 1) := by decide +kernel
theorem dX8_readOne_40 : decode cX8_readOne 40 = .ok (.getfield 35, 3) := by decide +kernel
theorem dX8_readOne_43 : decode cX8_readOne 43 = .ok (.getfield 122, 3) := by decide +kernel
theorem dX8_readOne_46 : decode cX8_readOne 46 = .ok (.bipush 8, 2) := by decide +kernel
theorem dX8_readOne_48 : decode cX8_readOne 48 = .ok (.iconst 0, 1) := by decide +kernel
theorem dX8_readOne_49 : decode cX8_readOne 49 = .ok (.invokevirtual 246, 3) := by decide +kernel
theorem dX8_readOne_52 : decode cX8_readOne 52 = .ok (.goto 8, 3) := by decide +kernel
theorem dX8_readOne_55 : decode cX8_readOne 55 = .ok (.aload_n 0, 1) := by decide +kernel
theorem dX8_readOne_56 : decode cX8_readOne 56 = .ok (.iload_n 1, 1) := by decide +kernel
theorem dX8_readOne_57 : decode cX8_readOne 57 = .ok (.invokevirtual 255, 3) := by decide +kernel
theorem dX8_readOne_60 : decode cX8_readOne 60 = .ok (.return_, 1) := by decide +kernel
theorem dX8_readRelation_0 : decode cX8_readRelation 0 = .ok (.aload_n 0, 1) := by decide +kernel
theorem dX8_readRelation_1 : decode cX8_readRelation 1 = .ok (.iload_n 1, 1) := by decide +kernel
theorem dX8_readRelation_2 : decode cX8_readRelation 2 = .ok (.invokevirtual 258, 3) := by decide +kernel
theorem dX8_readRelation_5 : decode cX8_readRelation 5 = .ok (.aload_n 0, 1) := by decide +kernel
theorem dX8_readRelation_6 : decode cX8_readRelation 6 = .ok (.invokevirtual 261, 3) := by decide +kernel
theorem dX8_readRelation_9 : decode cX8_readRelation 9 = .ok (.istore_n 2, 1) := by decide +kernel
theorem dX8_readRelation_10 : decode cX8_readRelation 10 = .ok (.iload_n 2, 1) := by decide +kernel
theorem dX8_readRelation_11 : decode cX8_readRelation 11 = .ok (.iconst (-1), 1) := by decide +kernel
theorem dX8_readRelation_12 : decode cX8_readRelation 12 = .ok (.if_icmp .eq 27, 3) := by decide +kernel
theorem dX8_readRelation_15 : decode cX8_readRelation 15 = .ok (.aload_n 0, 1) := by decide +kernel
theorem dX8_readRelation_16 : decode cX8_readRelation 16 = .ok (.getfield 12, 3) := by decide +kernel
theorem dX8_readRelation_19 : decode cX8_readRelation 19 = .ok (.invokevirtual 79, 3) := by decide +kernel
theorem dX8_readRelation_22 : decode cX8_readRelation 22 = .ok (.aload_n 0, 1) := by decide +kernel
theorem dX8_readRelation_23 : decode cX8_readRelation 23 = .ok (.iload_n 1, 1) := by decide +kernel
theorem dX8_readRelation_24 : decode cX8_readRelation 24 = .ok (.invokevirtual 258, 3) := by decide +kernel
theorem dX8_readRelation_27 : decode cX8_readRelation 27 = .ok (.aload_n 0, 1) := by decide +kernel
theorem dX8_readRelation_28 : decode cX8_readRelation 28 = .ok (.getfield 35, 3) := by decide +kernel
theorem dX8_readRelation_31 : decode cX8_readRelation 31 = .ok (.getfield 122, 3) := by decide +kernel
theorem dX8_readRelation_34 : decode cX8_readRelation 34 = .ok (.iload_n 2, 1) := by decide +kernel
theorem dX8_readRelation_35 : decode cX8_readRelation 35 = .ok (.iconst 0, 1) := by decide +kernel
theorem dX8_readRelation_36 : decode cX8_readRelation 36 = .ok (.invokevirtual 246, 3) := by decide +kernel
theorem dX8_readRelation_39 : decode cX8_readRelation 39 = .ok (.return_, 1) := by decide +kernel
theorem dX8_readRope_0 : decode cX8_readRope 0 = .ok (.aload_n 0, 1) := by decide +kernel
theorem dX8_readRope_1 : decode cX8_readRope 1 = .ok (.getfield 35, 3) := by decide +kernel
theorem dX8_readRope_4 : decode cX8_readRope 4 = .ok (.getfield 107, 3) := by decide +kernel
theorem dX8_readRope_7 : decode cX8_readRope 7 = .ok (.istore_n 1, 1) := by decide +kernel
theorem dX8_readRope_8 : decode cX8_readRope 8 = .ok (.iload_n 1, 1) := by decide +kernel
theorem dX8_readRope_9 : decode cX8_readRope 9 = .ok (.iconst 3, 1) := by decide +kernel
theorem dX8_readRope_10 : decode cX8_readRope 10 = .ok (.if_icmp .lt 4, 3) := by decide +kernel
theorem dX8_readRope_13 : decode cX8_readRope 13 = .ok (.return_, 1) := by decide +kernel
theorem dX8_readRope_14 : decode cX8_readRope 14 = .ok (.aload_n 0, 1) := by decide +kernel
theorem dX8_readRope_15 : decode cX8_readRope 15 = .ok (.getfield 35, 3) := by decide +kernel
theorem dX8_readRope_18 : decode cX8_readRope 18 = .ok (.getfield 131, 3) := by decide +kernel
