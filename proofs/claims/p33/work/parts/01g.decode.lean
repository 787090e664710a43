theorem dX11_spread_40 : decode cX11_spread 40 = .ok (.iconst (-1), 1) := by decide +kernel
theorem dX11_spread_41 : decode cX11_spread 41 = .ok (.istore 4, 2) := by decide +kernel
theorem dX11_spread_43 : decode cX11_spread 43 = .ok (.iconst 0, 1) := by decide +kernel
theorem dX11_spread_44 : decode cX11_spread 44 = .ok (.istore 5, 2) := by decide +kernel
theorem dX11_spread_46 : decode cX11_spread 46 = .ok (.iload 5, 2) := by decide +kernel
theorem dX11_spread_48 : decode cX11_spread 48 = .ok (.bipush 20, 2) := by decide +kernel
theorem dX11_spread_50 : decode cX11_spread 50 = .ok (.if_icmp .gt 46, 3) := by decide +kernel
theorem dX11_spread_53 : decode cX11_spread 53 = .ok (.aload_n 0, 1) := by decide +kernel
theorem dX11_spread_54 : decode cX11_spread 54 = .ok (.getfield 59, 3) := by decide +kernel
theorem dX11_spread_57 : decode cX11_spread 57 = .ok (.aload_n 0, 1) := by decide +kernel
theorem dX11_spread_58 : decode cX11_spread 58 = .ok (.getfield 27, 3) := by decide +kernel
theorem dX11_spread_61 : decode cX11_spread 61 = .ok (.aload_n 0, 1) := by decide +kernel
theorem dX11_spread_62 : decode cX11_spread 62 = .ok (.getfield 37, 3) := by decide +kernel
theorem dX11_spread_65 : decode cX11_spread 65 = .ok (.iload_n 1, 1) := by decide +kernel
theorem dX11_spread_66 : decode cX11_spread 66 = .ok (.iload 5, 2) := by decide +kernel
theorem dX11_spread_68 : decode cX11_spread 68 = .ok (.sipush 200, 3) := by decide +kernel
theorem dX11_spread_71 : decode cX11_spread 71 = .ok (.invokevirtual 262, 3) := by decide +kernel
theorem dX11_spread_74 : decode cX11_spread 74 = .ok (.istore 6, 2) := by decide +kernel
theorem dX11_spread_76 : decode cX11_spread 76 = .ok (.iload 6, 2) := by decide +kernel
theorem dX11_spread_78 : decode cX11_spread 78 = .ok (.iload 4, 2) := by decide +kernel
theorem dX11_spread_80 : decode cX11_spread 80 = .ok (.if_icmp .le 10, 3) := by decide +kernel
theorem dX11_spread_83 : decode cX11_spread 83 = .ok (.iload 6, 2) := by decide +kernel
theorem dX11_spread_85 : decode cX11_spread 85 = .ok (.istore 4, 2) := by decide +kernel
theorem dX11_spread_87 : decode cX11_spread 87 = .ok (.iload 5, 2) := by decide +kernel
theorem dX11_spread_89 : decode cX11_spread 89 = .ok (.istore_n 3, 1) := by decide +kernel
theorem dX11_spread_90 : decode cX11_spread 90 = .ok (.iinc 5 1, 3) := by decide +kernel
theorem dX11_spread_93 : decode cX11_spread 93 = .ok (.goto (-47), 3) := by decide +kernel
theorem dX11_spread_96 : decode cX11_spread 96 = .ok (.iload_n 2, 1) := by decide +kernel
theorem dX11_spread_97 : decode cX11_spread 97 = .ok (.ifCond .ne 7, 3) := by decide +kernel
theorem dX11_spread_100 : decode cX11_spread 100 = .ok (.iload_n 3, 1) := by decide +kernel
theorem dX11_spread_101 : decode cX11_spread 101 = .ok (.goto 5, 3) := by decide +kernel
theorem dX11_spread_104 : decode cX11_spread 104 = .ok (.iload 4, 2) := by decide +kernel
theorem dX11_spread_106 : decode cX11_spread 106 = .ok (.ireturn, 1) := by decide +kernel
theorem dX11_strand_0 : decode cX11_strand 0 = .ok (.aload_n 0, 1) := by decide +kernel
theorem dX11_strand_1 : decode cX11_strand 1 = .ok (.getfield 27, 3) := by decide +kernel
theorem dX11_strand_4 : decode cX11_strand 4 = .ok (.iload_n 1, 1) := by decide +kernel
theorem dX11_strand_5 : decode cX11_strand 5 = .ok (.iload_n 2, 1) := by decide +kernel
theorem dX11_strand_6 : decode cX11_strand 6 = .ok (.invokevirtual 159, 3) := by decide +kernel
theorem dX11_strand_9 : decode cX11_strand 9 = .ok (.ifCond .eq 15, 3) := by decide +kernel
theorem dX11_strand_12 : decode cX11_strand 12 = .ok (.aload_n 0, 1) := by decide +kernel
theorem dX11_strand_13 : decode cX11_strand 13 = .ok (.getfield 37, 3) := by decide +kernel
theorem dX11_strand_16 : decode cX11_strand 16 = .ok (.getfield 142, 3) := by decide +kernel
theorem dX11_strand_19 : decode cX11_strand 19 = .ok (.iload_n 1, 1) := by decide +kernel
theorem dX11_strand_20 : decode cX11_strand 20 = .ok (.baload, 1) := by decide +kernel
theorem dX11_strand_21 : decode cX11_strand 21 = .ok (.ifCond .eq 5, 3) := by decide +kernel
theorem dX11_strand_24 : decode cX11_strand 24 = .ok (.iconst 0, 1) := by decide +kernel
theorem dX11_strand_25 : decode cX11_strand 25 = .ok (.ireturn, 1) := by decide +kernel
theorem dX11_strand_26 : decode cX11_strand 26 = .ok (.aload_n 0, 1) := by decide +kernel
theorem dX11_strand_27 : decode cX11_strand 27 = .ok (.getfield 37, 3) := by decide +kernel
theorem dX11_strand_30 : decode cX11_strand 30 = .ok (.iload_n 1, 1) := by decide +kernel
theorem dX11_strand_31 : decode cX11_strand 31 = .ok (.putfield 163, 3) := by decide +kernel
theorem dX11_strand_34 : decode cX11_strand 34 = .ok (.aload_n 0, 1) := by decide +kernel
theorem dX11_strand_35 : decode cX11_strand 35 = .ok (.getfield 37, 3) := by decide +kernel
theorem dX11_strand_38 : decode cX11_strand 38 = .ok (.iload_n 2, 1) := by decide +kernel
theorem dX11_strand_39 : decode cX11_strand 39 = .ok (.putfield 166, 3) := by decide +kernel
theorem dX11_strand_42 : decode cX11_strand 42 = .ok (.iconst 1, 1) := by decide +kernel
theorem dX11_strand_43 : decode cX11_strand 43 = .ok (.ireturn, 1) := by decide +kernel
theorem dX11_strandNow_0 : decode cX11_strandNow 0 = .ok (.aload_n 0, 1) := by decide +kernel
theorem dX11_strandNow_1 : decode cX11_strandNow 1 = .ok (.getfield 37, 3) := by decide +kernel
theorem dX11_strandNow_4 : decode cX11_strandNow 4 = .ok (.getfield 163, 3) := by decide +kernel
theorem dX11_strandNow_7 : decode cX11_strandNow 7 = .ok (.iconst (-1), 1) := by decide +kernel
theorem dX11_strandNow_8 : decode cX11_strandNow 8 = .ok (.if_icmp .ne 5, 3) := by decide +kernel
theorem dX11_strandNow_11 : decode cX11_strandNow 11 = .ok (.iconst (-1), 1) := by decide +kernel
theorem dX11_strandNow_12 : decode cX11_strandNow 12 = .ok (.ireturn, 1) := by decide +kernel
theorem dX11_strandNow_13 : decode cX11_strandNow 13 = .ok (.iload_n 1, 1) := by decide +kernel
theorem dX11_strandNow_14 : decode cX11_strandNow 14 = .ok (.tableswitch 64 0 2 #[26, 34, 42], 26) := by decide +kernel
theorem dX11_strandNow_40 : decode cX11_strandNow 40 = .ok (.aload_n 0, 1) := by decide +kernel
theorem dX11_strandNow_41 : decode cX11_strandNow 41 = .ok (.getfield 37, 3) := by decide +kernel
theorem dX11_strandNow_44 : decode cX11_strandNow 44 = .ok (.getfield 163, 3) := by decide +kernel
theorem dX11_strandNow_47 : decode cX11_strandNow 47 = .ok (.ireturn, 1) := by decide +kernel
theorem dX11_strandNow_48 : decode cX11_strandNow 48 = .ok (.aload_n 0, 1) := by decide +kernel
theorem dX11_strandNow_49 : decode cX11_strandNow 49 = .ok (.getfield 37, 3) := by decide +kernel
theorem dX11_strandNow_52 : decode cX11_strandNow 52 = .ok (.getfield 166, 3) := by decide +kernel
theorem dX11_strandNow_55 : decode cX11_strandNow 55 = .ok (.ireturn, 1) := by decide +kernel
theorem dX11_strandNow_56 : decode cX11_strandNow 56 = .ok (.aload_n 0, 1) := by decide +kernel
theorem dX11_strandNow_57 : decode cX11_strandNow 57 = .ok (.getfield 27, 3) := by decide +kernel
theorem dX11_strandNow_60 : decode cX11_strandNow 60 = .ok (.aload_n 0, 1) := by decide +kernel
theorem dX11_strandNow_61 : decode cX11_strandNow 61 = .ok (.getfield 37, 3) := by decide +kernel
theorem dX11_strandNow_64 : decode cX11_strandNow 64 = .ok (.getfield 163, 3) := by decide +kernel
theorem dX11_strandNow_67 : decode cX11_strandNow 67 = .ok (.aload_n 0, 1) := by decide +kernel
theorem dX11_strandNow_68 : decode cX11_strandNow 68 = .ok (.getfield 37, 3) := by decide +kernel
theorem dX11_strandNow_71 : decode cX11_strandNow 71 = .ok (.getfield 166, 3) := by decide +kernel
theorem dX11_strandNow_74 : decode cX11_strandNow 74 = .ok (.invokevirtual 169, 3) := by decide +kernel
theorem dX11_strandNow_77 : decode cX11_strandNow 77 = .ok (.ireturn, 1) := by decide +kernel
theorem dX11_strandNow_78 : decode cX11_strandNow 78 = .ok (.iconst (-1), 1) := by decide +kernel
theorem dX11_strandNow_79 : decode cX11_strandNow 79 = .ok (.ireturn, 1) := by decide +kernel
theorem dX11_street_0 : decode cX11_street 0 = .ok (.aload_n 0, 1) := by decide +kernel
theorem dX11_street_1 : decode cX11_street 1 = .ok (.getfield 20, 3) := by decide +kernel
theorem dX11_street_4 : decode cX11_street 4 = .ok (.aload_n 0, 1) := by decide +kernel
theorem dX11_street_5 : decode cX11_street 5 = .ok (.getfield 31, 3) := by decide +kernel
theorem dX11_street_8 : decode cX11_street 8 = .ok (.aload_n 0, 1) := by decide +kernel
theorem dX11_street_9 : decode cX11_street 9 = .ok (.getfield 9, 3) := by decide +kernel
theorem dX11_street_12 : decode cX11_street 12 = .ok (.aload_n 0, 1) := by decide +kernel
theorem dX11_street_13 : decode cX11_street 13 = .ok (.getfield 13, 3) := by decide +kernel
theorem dX11_street_16 : decode cX11_street 16 = .ok (.invokevirtual 78, 3) := by decide +kernel
theorem dX11_street_19 : decode cX11_street 19 = .ok (.iconst 0, 1) := by decide +kernel
theorem dX11_street_20 : decode cX11_street 20 = .ok (.istore_n 1, 1) := by decide +kernel
theorem dX11_street_21 : decode cX11_street 21 = .ok (.iload_n 1, 1) := by decide +kernel
theorem dX11_street_22 : decode cX11_street 22 = .ok (.sipush 1600, 3) := by decide +kernel
theorem dX11_street_25 : decode cX11_street 25 = .ok (.if_icmp .ge 26, 3) := by decide +kernel
theorem dX11_street_28 : decode cX11_street 28 = .ok (.aload_n 0, 1) := by decide +kernel
theorem dX11_street_29 : decode cX11_street 29 = .ok (.getfield 20, 3) := by decide +kernel
theorem dX11_street_32 : decode cX11_street 32 = .ok (.invokevirtual 82, 3) := by decide +kernel
theorem dX11_street_35 : decode cX11_street 35 = .ok (.ifCond .eq 16, 3) := by decide +kernel
theorem dX11_street_38 : decode cX11_street 38 = .ok (.aload_n 0, 1) := by decide +kernel
theorem dX11_street_39 : decode cX11_street 39 = .ok (.getfield 20, 3) := by decide +kernel
theorem dX11_street_42 : decode cX11_street 42 = .ok (.invokevirtual 86, 3) := by decide +kernel
theorem dX11_street_45 : decode cX11_street 45 = .ok (.iinc 1 1, 3) := by decide +kernel
theorem dX11_street_48 : decode cX11_street 48 = .ok (.goto (-27), 3) := by decide +kernel
theorem dX11_street_51 : decode cX11_street 51 = .ok (.aload_n 0, 1) := by decide +kernel
theorem dX11_street_52 : decode cX11_street 52 = .ok (.getfield 20, 3) := by decide +kernel
theorem dX11_street_55 : decode cX11_street 55 = .ok (.getfield 89, 3) := by decide +kernel
theorem dX11_street_58 : decode cX11_street 58 = .ok (.ifCond .eq 5, 3) := by decide +kernel
theorem dX11_street_61 : decode cX11_street 61 = .ok (.iconst (-1), 1) := by decide +kernel
theorem dX11_street_62 : decode cX11_street 62 = .ok (.ireturn, 1) := by decide +kernel
theorem dX11_street_63 : decode cX11_street 63 = .ok (.aload_n 0, 1) := by decide +kernel
theorem dX11_street_64 : decode cX11_street 64 = .ok (.getfield 31, 3) := by decide +kernel
theorem dX11_street_67 : decode cX11_street 67 = .ok (.astore_n 2, 1) := by decide +kernel
theorem dX11_street_68 : decode cX11_street 68 = .ok (.aload_n 0, 1) := by decide +kernel
theorem dX11_street_69 : decode cX11_street 69 = .ok (.aload_n 0, 1) := by decide +kernel
theorem dX11_street_70 : decode cX11_street 70 = .ok (.getfield 27, 3) := by decide +kernel
theorem dX11_street_73 : decode cX11_street 73 = .ok (.putfield 31, 3) := by decide +kernel
theorem dX11_street_76 : decode cX11_street 76 = .ok (.aload_n 0, 1) := by decide +kernel
theorem dX11_street_77 : decode cX11_street 77 = .ok (.aload_n 2, 1) := by decide +kernel
theorem dX11_street_78 : decode cX11_street 78 = .ok (.putfield 27, 3) := by decide +kernel
theorem dX11_street_81 : decode cX11_street 81 = .ok (.aload_n 0, 1) := by decide +kernel
theorem dX11_street_82 : decode cX11_street 82 = .ok (.iconst 0, 1) := by decide +kernel
theorem dX11_street_83 : decode cX11_street 83 = .ok (.putfield 13, 3) := by decide +kernel
theorem dX11_street_86 : decode cX11_street 86 = .ok (.aload_n 0, 1) := by decide +kernel
theorem dX11_street_87 : decode cX11_street 87 = .ok (.getfield 37, 3) := by decide +kernel
theorem dX11_street_90 : decode cX11_street 90 = .ok (.aload_n 0, 1) := by decide +kernel
theorem dX11_street_91 : decode cX11_street 91 = .ok (.getfield 27, 3) := by decide +kernel
theorem dX11_street_94 : decode cX11_street 94 = .ok (.invokevirtual 70, 3) := by decide +kernel
theorem dX11_street_97 : decode cX11_street 97 = .ok (.aload_n 0, 1) := by decide +kernel
theorem dX11_street_98 : decode cX11_street 98 = .ok (.getfield 66, 3) := by decide +kernel
theorem dX11_street_101 : decode cX11_street 101 = .ok (.invokevirtual 92, 3) := by decide +kernel
theorem dX11_street_104 : decode cX11_street 104 = .ok (.iconst 0, 1) := by decide +kernel
theorem dX11_street_105 : decode cX11_street 105 = .ok (.istore_n 3, 1) := by decide +kernel
theorem dX11_street_106 : decode cX11_street 106 = .ok (.iload_n 3, 1) := by decide +kernel
theorem dX11_street_107 : decode cX11_street 107 = .ok (.iconst 3, 1) := by decide +kernel
theorem dX11_street_108 : decode cX11_street 108 = .ok (.if_icmp .ge 16, 3) := by decide +kernel
theorem dX11_street_111 : decode cX11_street 111 = .ok (.aload_n 0, 1) := by decide +kernel
theorem dX11_street_112 : decode cX11_street 112 = .ok (.getfield 45, 3) := by decide +kernel
theorem dX11_street_115 : decode cX11_street 115 = .ok (.iload_n 3, 1) := by decide +kernel
theorem dX11_street_116 : decode cX11_street 116 = .ok (.iconst 0, 1) := by decide +kernel
theorem dX11_street_117 : decode cX11_street 117 = .ok (.bastore, 1) := by decide +kernel
theorem dX11_street_118 : decode cX11_street 118 = .ok (.iinc 3 1, 3) := by decide +kernel
theorem dX11_street_121 : decode cX11_street 121 = .ok (.goto (-15), 3) := by decide +kernel
theorem dX11_street_124 : decode cX11_street 124 = .ok (.iload_n 1, 1) := by decide +kernel
theorem dX11_street_125 : decode cX11_street 125 = .ok (.ireturn, 1) := by decide +kernel
theorem dX11_takes_0 : decode cX11_takes 0 = .ok (.aload_n 0, 1) := by decide +kernel
theorem dX11_takes_1 : decode cX11_takes 1 = .ok (.getfield 59, 3) := by decide +kernel
theorem dX11_takes_4 : decode cX11_takes 4 = .ok (.aload_n 0, 1) := by decide +kernel
theorem dX11_takes_5 : decode cX11_takes 5 = .ok (.getfield 27, 3) := by decide +kernel
theorem dX11_takes_8 : decode cX11_takes 8 = .ok (.aload_n 0, 1) := by decide +kernel
theorem dX11_takes_9 : decode cX11_takes 9 = .ok (.getfield 37, 3) := by decide +kernel
theorem dX11_takes_12 : decode cX11_takes 12 = .ok (.invokevirtual 258, 3) := by decide +kernel
theorem dX11_takes_15 : decode cX11_takes 15 = .ok (.ireturn, 1) := by decide +kernel
theorem dX11_trips_0 : decode cX11_trips 0 = .ok (.aload_n 0, 1) := by decide +kernel
theorem dX11_trips_1 : decode cX11_trips 1 = .ok (.getfield 27, 3) := by decide +kernel
theorem dX11_trips_4 : decode cX11_trips 4 = .ok (.iload_n 1, 1) := by decide +kernel
theorem dX11_trips_5 : decode cX11_trips 5 = .ok (.invokevirtual 109, 3) := by decide +kernel
theorem dX11_trips_8 : decode cX11_trips 8 = .ok (.ifCond .eq 18, 3) := by decide +kernel
theorem dX11_trips_11 : decode cX11_trips 11 = .ok (.aload_n 0, 1) := by decide +kernel
theorem dX11_trips_12 : decode cX11_trips 12 = .ok (.getfield 37, 3) := by decide +kernel
theorem dX11_trips_15 : decode cX11_trips 15 = .ok (.getfield 113, 3) := by decide +kernel
theorem dX11_trips_18 : decode cX11_trips 18 = .ok (.iload_n 1, 1) := by decide +kernel
theorem dX11_trips_19 : decode cX11_trips 19 = .ok (.aaload, 1) := by decide +kernel
theorem dX11_trips_20 : decode cX11_trips 20 = .ok (.getfield 219, 3) := by decide +kernel
theorem dX11_trips_23 : decode cX11_trips 23 = .ok (.goto 4, 3) := by decide +kernel
theorem dX11_trips_26 : decode cX11_trips 26 = .ok (.iconst (-1), 1) := by decide +kernel
theorem dX11_trips_27 : decode cX11_trips 27 = .ok (.ireturn, 1) := by decide +kernel
theorem dX11_untell_0 : decode cX11_untell 0 = .ok (.aload_n 0, 1) := by decide +kernel
theorem dX11_untell_1 : decode cX11_untell 1 = .ok (.getfield 66, 3) := by decide +kernel
theorem dX11_untell_4 : decode cX11_untell 4 = .ok (.iload_n 1, 1) := by decide +kernel
theorem dX11_untell_5 : decode cX11_untell 5 = .ok (.invokevirtual 294, 3) := by decide +kernel
theorem dX11_untell_8 : decode cX11_untell 8 = .ok (.ireturn, 1) := by decide +kernel
theorem dX11_where_0 : decode cX11_where 0 = .ok (.aload_n 0, 1) := by decide +kernel
theorem dX11_where_1 : decode cX11_where 1 = .ok (.getfield 27, 3) := by decide +kernel
theorem dX11_where_4 : decode cX11_where 4 = .ok (.iload_n 1, 1) := by decide +kernel
theorem dX11_where_5 : decode cX11_where 5 = .ok (.iload_n 2, 1) := by decide +kernel
theorem dX11_where_6 : decode cX11_where 6 = .ok (.invokevirtual 159, 3) := by decide +kernel
theorem dX11_where_9 : decode cX11_where 9 = .ok (.ifCond .eq 14, 3) := by decide +kernel
theorem dX11_where_12 : decode cX11_where 12 = .ok (.iload_n 3, 1) := by decide +kernel
theorem dX11_where_13 : decode cX11_where 13 = .ok (.ifCond .lt 10, 3) := by decide +kernel
theorem dX11_where_16 : decode cX11_where 16 = .ok (.iload_n 3, 1) := by decide +kernel
theorem dX11_where_17 : decode cX11_where 17 = .ok (.sipush 9999, 3) := by decide +kernel
theorem dX11_where_20 : decode cX11_where 20 = .ok (.if_icmp .le 6, 3) := by decide +kernel
theorem dX11_where_23 : decode cX11_where 23 = .ok (.bipush (-2), 2) := by decide +kernel
theorem dX11_where_25 : decode cX11_where 25 = .ok (.ireturn, 1) := by decide +kernel
theorem dX11_where_26 : decode cX11_where 26 = .ok (.aload_n 0, 1) := by decide +kernel
theorem dX11_where_27 : decode cX11_where 27 = .ok (.getfield 27, 3) := by decide +kernel
theorem dX11_where_30 : decode cX11_where 30 = .ok (.iload_n 1, 1) := by decide +kernel
theorem dX11_where_31 : decode cX11_where 31 = .ok (.iload_n 2, 1) := by decide +kernel
theorem dX11_where_32 : decode cX11_where 32 = .ok (.iload_n 3, 1) := by decide +kernel
theorem dX11_where_33 : decode cX11_where 33 = .ok (.aload_n 0, 1) := by decide +kernel
theorem dX11_where_34 : decode cX11_where 34 = .ok (.getfield 27, 3) := by decide +kernel
theorem dX11_where_37 : decode cX11_where 37 = .ok (.getfield 278, 3) := by decide +kernel
theorem dX11_where_40 : decode cX11_where 40 = .ok (.iload_n 1, 1) := by decide +kernel
theorem dX11_where_41 : decode cX11_where 41 = .ok (.aaload, 1) := by decide +kernel
theorem dX11_where_42 : decode cX11_where 42 = .ok (.getfield 282, 3) := by decide +kernel
theorem dX11_where_45 : decode cX11_where 45 = .ok (.imul, 1) := by decide +kernel
theorem dX11_where_46 : decode cX11_where 46 = .ok (.invokevirtual 287, 3) := by decide +kernel
theorem dX11_where_49 : decode cX11_where 49 = .ok (.istore 4, 2) := by decide +kernel
theorem dX11_where_51 : decode cX11_where 51 = .ok (.aload_n 0, 1) := by decide +kernel
theorem dX11_where_52 : decode cX11_where 52 = .ok (.getfield 27, 3) := by decide +kernel
theorem dX11_where_55 : decode cX11_where 55 = .ok (.iload_n 1, 1) := by decide +kernel
theorem dX11_where_56 : decode cX11_where 56 = .ok (.iload 4, 2) := by decide +kernel
theorem dX11_where_58 : decode cX11_where 58 = .ok (.invokevirtual 169, 3) := by decide +kernel
theorem dX11_where_61 : decode cX11_where 61 = .ok (.ireturn, 1) := by decide +kernel
theorem dX12_init_0 : decode cX12_init 0 = .ok (.aload_n 0, 1) := by decide +kernel
theorem dX12_init_1 : decode cX12_init 1 = .ok (.invokespecial 1, 3) := by decide +kernel
theorem dX12_init_4 : decode cX12_init 4 = .ok (.aload_n 0, 1) := by decide +kernel
theorem dX12_init_5 : decode cX12_init 5 = .ok (.sipush 1620, 3) := by decide +kernel
theorem dX12_init_8 : decode cX12_init 8 = .ok (.newarray .byte, 2) := by decide +kernel
theorem dX12_init_10 : decode cX12_init 10 = .ok (.putfield 7, 3) := by decide +kernel
theorem dX12_init_13 : decode cX12_init 13 = .ok (.aload_n 0, 1) := by decide +kernel
theorem dX12_init_14 : decode cX12_init 14 = .ok (.sipush 1600, 3) := by decide +kernel
theorem dX12_init_17 : decode cX12_init 17 = .ok (.newarray .byte, 2) := by decide +kernel
theorem dX12_init_19 : decode cX12_init 19 = .ok (.putfield 13, 3) := by decide +kernel
theorem dX12_init_22 : decode cX12_init 22 = .ok (.aload_n 0, 1) := by decide +kernel
theorem dX12_init_23 : decode cX12_init 23 = .ok (.iconst (-1), 1) := by decide +kernel
theorem dX12_init_24 : decode cX12_init 24 = .ok (.putfield 16, 3) := by decide +kernel
theorem dX12_init_27 : decode cX12_init 27 = .ok (.aload_n 0, 1) := by decide +kernel
theorem dX12_init_28 : decode cX12_init 28 = .ok (.iconst 2, 1) := by decide +kernel
theorem dX12_init_29 : decode cX12_init 29 = .ok (.newarray .int, 2) := by decide +kernel
theorem dX12_init_31 : decode cX12_init 31 = .ok (.putfield 20, 3) := by decide +kernel
theorem dX12_init_34 : decode cX12_init 34 = .ok (.aload_n 0, 1) := by decide +kernel
theorem dX12_init_35 : decode cX12_init 35 = .ok (.iconst 2, 1) := by decide +kernel
theorem dX12_init_36 : decode cX12_init 36 = .ok (.newarray .int, 2) := by decide +kernel
theorem dX12_init_38 : decode cX12_init 38 = .ok (.putfield 24, 3) := by decide +kernel
theorem dX12_init_41 : decode cX12_init 41 = .ok (.aload_n 0, 1) := by decide +kernel
theorem dX12_init_42 : decode cX12_init 42 = .ok (.iconst 2, 1) := by decide +kernel
theorem dX12_init_43 : decode cX12_init 43 = .ok (.newarray .int, 2) := by decide +kernel
theorem dX12_init_45 : decode cX12_init 45 = .ok (.putfield 27, 3) := by decide +kernel
theorem dX12_init_48 : decode cX12_init 48 = .ok (.aload_n 0, 1) := by decide +kernel
theorem dX12_init_49 : decode cX12_init 49 = .ok (.iconst 2, 1) := by decide +kernel
theorem dX12_init_50 : decode cX12_init 50 = .ok (.newarray .int, 2) := by decide +kernel
theorem dX12_init_52 : decode cX12_init 52 = .ok (.putfield 30, 3) := by decide +kernel
theorem dX12_init_55 : decode cX12_init 55 = .ok (.aload_n 0, 1) := by decide +kernel
theorem dX12_init_56 : decode cX12_init 56 = .ok (.iconst 2, 1) := by decide +kernel
theorem dX12_init_57 : decode cX12_init 57 = .ok (.newarray .int, 2) := by decide +kernel
theorem dX12_init_59 : decode cX12_init 59 = .ok (.putfield 33, 3) := by decide +kernel
theorem dX12_init_62 : decode cX12_init 62 = .ok (.aload_n 0, 1) := by decide +kernel
theorem dX12_init_63 : decode cX12_init 63 = .ok (.iconst 2, 1) := by decide +kernel
theorem dX12_init_64 : decode cX12_init 64 = .ok (.newarray .int, 2) := by decide +kernel
theorem dX12_init_66 : decode cX12_init 66 = .ok (.putfield 36, 3) := by decide +kernel
theorem dX12_init_69 : decode cX12_init 69 = .ok (.aload_n 0, 1) := by decide +kernel
theorem dX12_init_70 : decode cX12_init 70 = .ok (.iconst 2, 1) := by decide +kernel
theorem dX12_init_71 : decode cX12_init 71 = .ok (.newarray .int, 2) := by decide +kernel
theorem dX12_init_73 : decode cX12_init 73 = .ok (.putfield 39, 3) := by decide +kernel
theorem dX12_init_76 : decode cX12_init 76 = .ok (.aload_n 0, 1) := by decide +kernel
theorem dX12_init_77 : decode cX12_init 77 = .ok (.iconst 2, 1) := by decide +kernel
theorem dX12_init_78 : decode cX12_init 78 = .ok (.newarray .boolean, 2) := by decide +kernel
theorem dX12_init_80 : decode cX12_init 80 = .ok (.putfield 42, 3) := by decide +kernel
theorem dX12_init_83 : decode cX12_init 83 = .ok (.aload_n 0, 1) := by decide +kernel
theorem dX12_init_84 : decode cX12_init 84 = .ok (.iconst 2, 1) := by decide +kernel
theorem dX12_init_85 : decode cX12_init 85 = .ok (.newarray .boolean, 2) := by decide +kernel
theorem dX12_init_87 : decode cX12_init 87 = .ok (.putfield 46, 3) := by decide +kernel
theorem dX12_init_90 : decode cX12_init 90 = .ok (.aload_n 0, 1) := by decide +kernel
theorem dX12_init_91 : decode cX12_init 91 = .ok (.sipush 480, 3) := by decide +kernel
theorem dX12_init_94 : decode cX12_init 94 = .ok (.newarray .boolean, 2) := by decide +kernel
theorem dX12_init_96 : decode cX12_init 96 = .ok (.putfield 49, 3) := by decide +kernel
theorem dX12_init_99 : decode cX12_init 99 = .ok (.aload_n 0, 1) := by decide +kernel
theorem dX12_init_100 : decode cX12_init 100 = .ok (.bipush 6, 2) := by decide +kernel
theorem dX12_init_102 : decode cX12_init 102 = .ok (.newarray .long, 2) := by decide +kernel
theorem dX12_init_104 : decode cX12_init 104 = .ok (.putfield 52, 3) := by decide +kernel
theorem dX12_init_107 : decode cX12_init 107 = .ok (.aload_n 0, 1) := by decide +kernel
theorem dX12_init_108 : decode cX12_init 108 = .ok (.bipush 10, 2) := by decide +kernel
theorem dX12_init_110 : decode cX12_init 110 = .ok (.newarray .long, 2) := by decide +kernel
theorem dX12_init_112 : decode cX12_init 112 = .ok (.putfield 56, 3) := by decide +kernel
theorem dX12_init_115 : decode cX12_init 115 = .ok (.aload_n 0, 1) := by decide +kernel
theorem dX12_init_116 : decode cX12_init 116 = .ok (.bipush 6, 2) := by decide +kernel
theorem dX12_init_118 : decode cX12_init 118 = .ok (.newarray .int, 2) := by decide +kernel
theorem dX12_init_120 : decode cX12_init 120 = .ok (.putfield 59, 3) := by decide +kernel
theorem dX12_init_123 : decode cX12_init 123 = .ok (.aload_n 0, 1) := by decide +kernel
theorem dX12_init_124 : decode cX12_init 124 = .ok (.bipush 6, 2) := by decide +kernel
theorem dX12_init_126 : decode cX12_init 126 = .ok (.newarray .int, 2) := by decide +kernel
theorem dX12_init_128 : decode cX12_init 128 = .ok (.putfield 62, 3) := by decide +kernel
theorem dX12_init_131 : decode cX12_init 131 = .ok (.aload_n 0, 1) := by decide +kernel
theorem dX12_init_132 : decode cX12_init 132 = .ok (.bipush 6, 2) := by decide +kernel
theorem dX12_init_134 : decode cX12_init 134 = .ok (.newarray .int, 2) := by decide +kernel
theorem dX12_init_136 : decode cX12_init 136 = .ok (.putfield 65, 3) := by decide +kernel
theorem dX12_init_139 : decode cX12_init 139 = .ok (.aload_n 0, 1) := by decide +kernel
theorem dX12_init_140 : decode cX12_init 140 = .ok (.bipush 6, 2) := by decide +kernel
theorem dX12_init_142 : decode cX12_init 142 = .ok (.newarray .int, 2) := by decide +kernel
theorem dX12_init_144 : decode cX12_init 144 = .ok (.putfield 68, 3) := by decide +kernel
theorem dX12_init_147 : decode cX12_init 147 = .ok (.aload_n 0, 1) := by decide +kernel
theorem dX12_init_148 : decode cX12_init 148 = .ok (.bipush 6, 2) := by decide +kernel
theorem dX12_init_150 : decode cX12_init 150 = .ok (.newarray .int, 2) := by decide +kernel
theorem dX12_init_152 : decode cX12_init 152 = .ok (.putfield 71, 3) := by decide +kernel
theorem dX12_init_155 : decode cX12_init 155 = .ok (.aload_n 0, 1) := by decide +kernel
theorem dX12_init_156 : decode cX12_init 156 = .ok (.bipush 120, 2) := by decide +kernel
theorem dX12_init_158 : decode cX12_init 158 = .ok (.newarray .int, 2) := by decide +kernel
theorem dX12_init_160 : decode cX12_init 160 = .ok (.putfield 74, 3) := by decide +kernel
theorem dX12_init_163 : decode cX12_init 163 = .ok (.aload_n 0, 1) := by decide +kernel
theorem dX12_init_164 : decode cX12_init 164 = .ok (.bipush 120, 2) := by decide +kernel
theorem dX12_init_166 : decode cX12_init 166 = .ok (.newarray .int, 2) := by decide +kernel
theorem dX12_init_168 : decode cX12_init 168 = .ok (.putfield 77, 3) := by decide +kernel
theorem dX12_init_171 : decode cX12_init 171 = .ok (.aload_n 0, 1) := by decide +kernel
theorem dX12_init_172 : decode cX12_init 172 = .ok (.bipush 120, 2) := by decide +kernel
theorem dX12_init_174 : decode cX12_init 174 = .ok (.newarray .int, 2) := by decide +kernel
theorem dX12_init_176 : decode cX12_init 176 = .ok (.putfield 80, 3) := by decide +kernel
theorem dX12_init_179 : decode cX12_init 179 = .ok (.aload_n 0, 1) := by decide +kernel
theorem dX12_init_180 : decode cX12_init 180 = .ok (.bipush 10, 2) := by decide +kernel
theorem dX12_init_182 : decode cX12_init 182 = .ok (.newarray .int, 2) := by decide +kernel
theorem dX12_init_184 : decode cX12_init 184 = .ok (.putfield 83, 3) := by decide +kernel
theorem dX12_init_187 : decode cX12_init 187 = .ok (.aload_n 0, 1) := by decide +kernel
theorem dX12_init_188 : decode cX12_init 188 = .ok (.bipush 10, 2) := by decide +kernel
theorem dX12_init_190 : decode cX12_init 190 = .ok (.newarray .int, 2) := by decide +kernel
theorem dX12_init_192 : decode cX12_init 192 = .ok (.putfield 86, 3) := by decide +kernel
theorem dX12_init_195 : decode cX12_init 195 = .ok (.aload_n 0, 1) := by decide +kernel
theorem dX12_init_196 : decode cX12_init 196 = .ok (.iconst 2, 1) := by decide +kernel
theorem dX12_init_197 : decode cX12_init 197 = .ok (.newarray .int, 2) := by decide +kernel
theorem dX12_init_199 : decode cX12_init 199 = .ok (.putfield 89, 3) := by decide +kernel
theorem dX12_init_202 : decode cX12_init 202 = .ok (.aload_n 0, 1) := by decide +kernel
theorem dX12_init_203 : decode cX12_init 203 = .ok (.iconst 2, 1) := by decide +kernel
theorem dX12_init_204 : decode cX12_init 204 = .ok (.newarray .int, 2) := by decide +kernel
theorem dX12_init_206 : decode cX12_init 206 = .ok (.putfield 92, 3) := by decide +kernel
theorem dX12_init_209 : decode cX12_init 209 = .ok (.aload_n 0, 1) := by decide +kernel
theorem dX12_init_210 : decode cX12_init 210 = .ok (.iconst 2, 1) := by decide +kernel
theorem dX12_init_211 : decode cX12_init 211 = .ok (.newarray .int, 2) := by decide +kernel
theorem dX12_init_213 : decode cX12_init 213 = .ok (.putfield 95, 3) := by decide +kernel
theorem dX12_init_216 : decode cX12_init 216 = .ok (.aload_n 0, 1) := by decide +kernel
theorem dX12_init_217 : decode cX12_init 217 = .ok (.iconst 2, 1) := by decide +kernel
theorem dX12_init_218 : decode cX12_init 218 = .ok (.newarray .int, 2) := by decide +kernel
theorem dX12_init_220 : decode cX12_init 220 = .ok (.putfield 98, 3) := by decide +kernel
theorem dX12_init_223 : decode cX12_init 223 = .ok (.aload_n 0, 1) := by decide +kernel
theorem dX12_init_224 : decode cX12_init 224 = .ok (.bipush 12, 2) := by decide +kernel
theorem dX12_init_226 : decode cX12_init 226 = .ok (.newarray .int, 2) := by decide +kernel
theorem dX12_init_228 : decode cX12_init 228 = .ok (.putfield 101, 3) := by decide +kernel
theorem dX12_init_231 : decode cX12_init 231 = .ok (.aload_n 0, 1) := by decide +kernel
theorem dX12_init_232 : decode cX12_init 232 = .ok (.bipush 12, 2) := by decide +kernel
theorem dX12_init_234 : decode cX12_init 234 = .ok (.newarray .int, 2) := by decide +kernel
theorem dX12_init_236 : decode cX12_init 236 = .ok (.putfield 104, 3) := by decide +kernel
theorem dX12_init_239 : decode cX12_init 239 = .ok (.aload_n 0, 1) := by decide +kernel
theorem dX12_init_240 : decode cX12_init 240 = .ok (.bipush 12, 2) := by decide +kernel
theorem dX12_init_242 : decode cX12_init 242 = .ok (.newarray .int, 2) := by decide +kernel
theorem dX12_init_244 : decode cX12_init 244 = .ok (.putfield 107, 3) := by decide +kernel
theorem dX12_init_247 : decode cX12_init 247 = .ok (.aload_n 0, 1) := by decide +kernel
theorem dX12_init_248 : decode cX12_init 248 = .ok (.bipush 8, 2) := by decide +kernel
theorem dX12_init_250 : decode cX12_init 250 = .ok (.newarray .int, 2) := by decide +kernel
theorem dX12_init_252 : decode cX12_init 252 = .ok (.putfield 110, 3) := by decide +kernel
theorem dX12_init_255 : decode cX12_init 255 = .ok (.aload_n 0, 1) := by decide +kernel
theorem dX12_init_256 : decode cX12_init 256 = .ok (.bipush 8, 2) := by decide +kernel
theorem dX12_init_258 : decode cX12_init 258 = .ok (.newarray .int, 2) := by decide +kernel
theorem dX12_init_260 : decode cX12_init 260 = .ok (.putfield 113, 3) := by decide +kernel
theorem dX12_init_263 : decode cX12_init 263 = .ok (.aload_n 0, 1) := by decide +kernel
theorem dX12_init_264 : decode cX12_init 264 = .ok (.bipush 8, 2) := by decide +kernel
theorem dX12_init_266 : decode cX12_init 266 = .ok (.newarray .int, 2) := by decide +kernel
theorem dX12_init_268 : decode cX12_init 268 = .ok (.putfield 116, 3) := by decide +kernel
theorem dX12_init_271 : decode cX12_init 271 = .ok (.aload_n 0, 1) := by decide +kernel
theorem dX12_init_272 : decode cX12_init 272 = .ok (.bipush 12, 2) := by decide +kernel
theorem dX12_init_274 : decode cX12_init 274 = .ok (.newarray .long, 2) := by decide +kernel
theorem dX12_init_276 : decode cX12_init 276 = .ok (.putfield 119, 3) := by decide +kernel
theorem dX12_init_279 : decode cX12_init 279 = .ok (.aload_n 0, 1) := by decide +kernel
theorem dX12_init_280 : decode cX12_init 280 = .ok (.sipush 800, 3) := by decide +kernel
theorem dX12_init_283 : decode cX12_init 283 = .ok (.newarray .int, 2) := by decide +kernel
theorem dX12_init_285 : decode cX12_init 285 = .ok (.putfield 122, 3) := by decide +kernel
theorem dX12_init_288 : decode cX12_init 288 = .ok (.aload_n 0, 1) := by decide +kernel
theorem dX12_init_289 : decode cX12_init 289 = .ok (.sipush 800, 3) := by decide +kernel
theorem dX12_init_292 : decode cX12_init 292 = .ok (.newarray .int, 2) := by decide +kernel
theorem dX12_init_294 : decode cX12_init 294 = .ok (.putfield 125, 3) := by decide +kernel
theorem dX12_init_297 : decode cX12_init 297 = .ok (.aload_n 0, 1) := by decide +kernel
theorem dX12_init_298 : decode cX12_init 298 = .ok (.bipush 90, 2) := by decide +kernel
theorem dX12_init_300 : decode cX12_init 300 = .ok (.newarray .int, 2) := by decide +kernel
theorem dX12_init_302 : decode cX12_init 302 = .ok (.putfield 128, 3) := by decide +kernel
theorem dX12_init_305 : decode cX12_init 305 = .ok (.aload_n 0, 1) := by decide +kernel
theorem dX12_init_306 : decode cX12_init 306 = .ok (.bipush 90, 2) := by decide +kernel
theorem dX12_init_308 : decode cX12_init 308 = .ok (.newarray .int, 2) := by decide +kernel
theorem dX12_init_310 : decode cX12_init 310 = .ok (.putfield 131, 3) := by decide +kernel
theorem dX12_init_313 : decode cX12_init 313 = .ok (.aload_n 0, 1) := by decide +kernel
theorem dX12_init_314 : decode cX12_init 314 = .ok (.bipush 70, 2) := by decide +kernel
theorem dX12_init_316 : decode cX12_init 316 = .ok (.newarray .int, 2) := by decide +kernel
theorem dX12_init_318 : decode cX12_init 318 = .ok (.putfield 134, 3) := by decide +kernel
theorem dX12_init_321 : decode cX12_init 321 = .ok (.aload_n 0, 1) := by decide +kernel
theorem dX12_init_322 : decode cX12_init 322 = .ok (.iconst 5, 1) := by decide +kernel
theorem dX12_init_323 : decode cX12_init 323 = .ok (.newarray .int, 2) := by decide +kernel
theorem dX12_init_325 : decode cX12_init 325 = .ok (.putfield 137, 3) := by decide +kernel
theorem dX12_init_328 : decode cX12_init 328 = .ok (.aload_n 0, 1) := by decide +kernel
theorem dX12_init_329 : decode cX12_init 329 = .ok (.iconst 5, 1) := by decide +kernel
theorem dX12_init_330 : decode cX12_init 330 = .ok (.newarray .int, 2) := by decide +kernel
theorem dX12_init_332 : decode cX12_init 332 = .ok (.putfield 140, 3) := by decide +kernel
theorem dX12_init_335 : decode cX12_init 335 = .ok (.aload_n 0, 1) := by decide +kernel
theorem dX12_init_336 : decode cX12_init 336 = .ok (.iconst 5, 1) := by decide +kernel
theorem dX12_init_337 : decode cX12_init 337 = .ok (.newarray .int, 2) := by decide +kernel
theorem dX12_init_339 : decode cX12_init 339 = .ok (.putfield 143, 3) := by decide +kernel
theorem dX12_init_342 : decode cX12_init 342 = .ok (.aload_n 0, 1) := by decide +kernel
theorem dX12_init_343 : decode cX12_init 343 = .ok (.iconst 5, 1) := by decide +kernel
theorem dX12_init_344 : decode cX12_init 344 = .ok (.newarray .int, 2) := by decide +kernel
theorem dX12_init_346 : decode cX12_init 346 = .ok (.putfield 146, 3) := by decide +kernel
theorem dX12_init_349 : decode cX12_init 349 = .ok (.aload_n 0, 1) := by decide +kernel
theorem dX12_init_350 : decode cX12_init 350 = .ok (.iconst 5, 1) := by decide +kernel
theorem dX12_init_351 : decode cX12_init 351 = .ok (.newarray .int, 2) := by decide +kernel
theorem dX12_init_353 : decode cX12_init 353 = .ok (.putfield 149, 3) := by decide +kernel
theorem dX12_init_356 : decode cX12_init 356 = .ok (.aload_n 0, 1) := by decide +kernel
theorem dX12_init_357 : decode cX12_init 357 = .ok (.iconst 3, 1) := by decide +kernel
theorem dX12_init_358 : decode cX12_init 358 = .ok (.newarray .int, 2) := by decide +kernel
theorem dX12_init_360 : decode cX12_init 360 = .ok (.putfield 152, 3) := by decide +kernel
theorem dX12_init_363 : decode cX12_init 363 = .ok (.aload_n 0, 1) := by decide +kernel
theorem dX12_init_364 : decode cX12_init 364 = .ok (.iconst 5, 1) := by decide +kernel
theorem dX12_init_365 : decode cX12_init 365 = .ok (.newarray .boolean, 2) := by decide +kernel
theorem dX12_init_367 : decode cX12_init 367 = .ok (.putfield 155, 3) := by decide +kernel
theorem dX12_init_370 : decode cX12_init 370 = .ok (.aload_n 0, 1) := by decide +kernel
theorem dX12_init_371 : decode cX12_init 371 = .ok (.iconst 5, 1) := by decide +kernel
theorem dX12_init_372 : decode cX12_init 372 = .ok (.newarray .boolean, 2) := by decide +kernel
theorem dX12_init_374 : decode cX12_init 374 = .ok (.putfield 158, 3) := by decide +kernel
theorem dX12_init_377 : decode cX12_init 377 = .ok (.aload_n 0, 1) := by decide +kernel
theorem dX12_init_378 : decode cX12_init 378 = .ok (.iconst 3, 1) := by decide +kernel
theorem dX12_init_379 : decode cX12_init 379 = .ok (.newarray .boolean, 2) := by decide +kernel
theorem dX12_init_381 : decode cX12_init 381 = .ok (.putfield 161, 3) := by decide +kernel
theorem dX12_init_384 : decode cX12_init 384 = .ok (.aload_n 0, 1) := by decide +kernel
theorem dX12_init_385 : decode cX12_init 385 = .ok (.iconst 5, 1) := by decide +kernel
theorem dX12_init_386 : decode cX12_init 386 = .ok (.newarray .int, 2) := by decide +kernel
theorem dX12_init_388 : decode cX12_init 388 = .ok (.putfield 164, 3) := by decide +kernel
theorem dX12_init_391 : decode cX12_init 391 = .ok (.aload_n 0, 1) := by decide +kernel
theorem dX12_init_392 : decode cX12_init 392 = .ok (.iconst 5, 1) := by decide +kernel
theorem dX12_init_393 : decode cX12_init 393 = .ok (.newarray .int, 2) := by decide +kernel
theorem dX12_init_395 : decode cX12_init 395 = .ok (.putfield 167, 3) := by decide +kernel
theorem dX12_init_398 : decode cX12_init 398 = .ok (.aload_n 0, 1) := by decide +kernel
theorem dX12_init_399 : decode cX12_init 399 = .ok (.bipush 6, 2) := by decide +kernel
theorem dX12_init_401 : decode cX12_init 401 = .ok (.newarray .int, 2) := by decide +kernel
theorem dX12_init_403 : decode cX12_init 403 = .ok (.putfield 170, 3) := by decide +kernel
theorem dX12_init_406 : decode cX12_init 406 = .ok (.aload_n 0, 1) := by decide +kernel
theorem dX12_init_407 : decode cX12_init 407 = .ok (.bipush 6, 2) := by decide +kernel
theorem dX12_init_409 : decode cX12_init 409 = .ok (.newarray .int, 2) := by decide +kernel
theorem dX12_init_411 : decode cX12_init 411 = .ok (.putfield 173, 3) := by decide +kernel
theorem dX12_init_414 : decode cX12_init 414 = .ok (.aload_n 0, 1) := by decide +kernel
theorem dX12_init_415 : decode cX12_init 415 = .ok (.bipush 60, 2) := by decide +kernel
theorem dX12_init_417 : decode cX12_init 417 = .ok (.newarray .int, 2) := by decide +kernel
theorem dX12_init_419 : decode cX12_init 419 = .ok (.putfield 176, 3) := by decide +kernel
theorem dX12_init_422 : decode cX12_init 422 = .ok (.aload_n 0, 1) := by decide +kernel
theorem dX12_init_423 : decode cX12_init 423 = .ok (.bipush 60, 2) := by decide +kernel
theorem dX12_init_425 : decode cX12_init 425 = .ok (.newarray .int, 2) := by decide +kernel
theorem dX12_init_427 : decode cX12_init 427 = .ok (.putfield 179, 3) := by decide +kernel
theorem dX12_init_430 : decode cX12_init 430 = .ok (.aload_n 0, 1) := by decide +kernel
theorem dX12_init_431 : decode cX12_init 431 = .ok (.bipush 60, 2) := by decide +kernel
theorem dX12_init_433 : decode cX12_init 433 = .ok (.newarray .int, 2) := by decide +kernel
theorem dX12_init_435 : decode cX12_init 435 = .ok (.putfield 182, 3) := by decide +kernel
theorem dX12_init_438 : decode cX12_init 438 = .ok (.aload_n 0, 1) := by decide +kernel
theorem dX12_init_439 : decode cX12_init 439 = .ok (.bipush 60, 2) := by decide +kernel
theorem dX12_init_441 : decode cX12_init 441 = .ok (.newarray .int, 2) := by decide +kernel
theorem dX12_init_443 : decode cX12_init 443 = .ok (.putfield 185, 3) := by decide +kernel
theorem dX12_init_446 : decode cX12_init 446 = .ok (.aload_n 0, 1) := by decide +kernel
theorem dX12_init_447 : decode cX12_init 447 = .ok (.bipush 60, 2) := by decide +kernel
theorem dX12_init_449 : decode cX12_init 449 = .ok (.newarray .int, 2) := by decide +kernel
theorem dX12_init_451 : decode cX12_init 451 = .ok (.putfield 188, 3) := by decide +kernel
theorem dX12_init_454 : decode cX12_init 454 = .ok (.aload_n 0, 1) := by decide +kernel
theorem dX12_init_455 : decode cX12_init 455 = .ok (.bipush 60, 2) := by decide +kernel
theorem dX12_init_457 : decode cX12_init 457 = .ok (.newarray .int, 2) := by decide +kernel
theorem dX12_init_459 : decode cX12_init 459 = .ok (.putfield 191, 3) := by decide +kernel
theorem dX12_init_462 : decode cX12_init 462 = .ok (.aload_n 0, 1) := by decide +kernel
theorem dX12_init_463 : decode cX12_init 463 = .ok (.bipush 60, 2) := by decide +kernel
theorem dX12_init_465 : decode cX12_init 465 = .ok (.newarray .int, 2) := by decide +kernel
theorem dX12_init_467 : decode cX12_init 467 = .ok (.putfield 194, 3) := by decide +kernel
theorem dX12_init_470 : decode cX12_init 470 = .ok (.aload_n 0, 1) := by decide +kernel
theorem dX12_init_471 : decode cX12_init 471 = .ok (.bipush 60, 2) := by decide +kernel
theorem dX12_init_473 : decode cX12_init 473 = .ok (.newarray .int, 2) := by decide +kernel
theorem dX12_init_475 : decode cX12_init 475 = .ok (.putfield 197, 3) := by decide +kernel
theorem dX12_init_478 : decode cX12_init 478 = .ok (.aload_n 0, 1) := by decide +kernel
theorem dX12_init_479 : decode cX12_init 479 = .ok (.bipush 60, 2) := by decide +kernel
theorem dX12_init_481 : decode cX12_init 481 = .ok (.newarray .int, 2) := by decide +kernel
theorem dX12_init_483 : decode cX12_init 483 = .ok (.putfield 200, 3) := by decide +kernel
theorem dX12_init_486 : decode cX12_init 486 = .ok (.aload_n 0, 1) := by decide +kernel
theorem dX12_init_487 : decode cX12_init 487 = .ok (.bipush 60, 2) := by decide +kernel
theorem dX12_init_489 : decode cX12_init 489 = .ok (.newarray .int, 2) := by decide +kernel
theorem dX12_init_491 : decode cX12_init 491 = .ok (.putfield 203, 3) := by decide +kernel
theorem dX12_init_494 : decode cX12_init 494 = .ok (.aload_n 0, 1) := by decide +kernel
theorem dX12_init_495 : decode cX12_init 495 = .ok (.bipush 60, 2) := by decide +kernel
theorem dX12_init_497 : decode cX12_init 497 = .ok (.newarray .boolean, 2) := by decide +kernel
theorem dX12_init_499 : decode cX12_init 499 = .ok (.putfield 206, 3) := by decide +kernel
theorem dX12_init_502 : decode cX12_init 502 = .ok (.aload_n 0, 1) := by decide +kernel
theorem dX12_init_503 : decode cX12_init 503 = .ok (.iconst 5, 1) := by decide +kernel
theorem dX12_init_504 : decode cX12_init 504 = .ok (.newarray .int, 2) := by decide +kernel
theorem dX12_init_506 : decode cX12_init 506 = .ok (.putfield 209, 3) := by decide +kernel
theorem dX12_init_509 : decode cX12_init 509 = .ok (.aload_n 0, 1) := by decide +kernel
theorem dX12_init_510 : decode cX12_init 510 = .ok (.bipush 80, 2) := by decide +kernel
theorem dX12_init_512 : decode cX12_init 512 = .ok (.newarray .int, 2) := by decide +kernel
theorem dX12_init_514 : decode cX12_init 514 = .ok (.putfield 212, 3) := by decide +kernel
theorem dX12_init_517 : decode cX12_init 517 = .ok (.aload_n 0, 1) := by decide +kernel
theorem dX12_init_518 : decode cX12_init 518 = .ok (.bipush 20, 2) := by decide +kernel
theorem dX12_init_520 : decode cX12_init 520 = .ok (.newarray .int, 2) := by decide +kernel
theorem dX12_init_522 : decode cX12_init 522 = .ok (.putfield 215, 3) := by decide +kernel
theorem dX12_init_525 : decode cX12_init 525 = .ok (.aload_n 0, 1) := by decide +kernel
theorem dX12_init_526 : decode cX12_init 526 = .ok (.bipush 20, 2) := by decide +kernel
theorem dX12_init_528 : decode cX12_init 528 = .ok (.newarray .int, 2) := by decide +kernel
theorem dX12_init_530 : decode cX12_init 530 = .ok (.putfield 218, 3) := by decide +kernel
theorem dX12_init_533 : decode cX12_init 533 = .ok (.aload_n 0, 1) := by decide +kernel
theorem dX12_init_534 : decode cX12_init 534 = .ok (.bipush 24, 2) := by decide +kernel
theorem dX12_init_536 : decode cX12_init 536 = .ok (.newarray .int, 2) := by decide +kernel
theorem dX12_init_538 : decode cX12_init 538 = .ok (.putfield 221, 3) := by decide +kernel
theorem dX12_init_541 : decode cX12_init 541 = .ok (.aload_n 0, 1) := by decide +kernel
theorem dX12_init_542 : decode cX12_init 542 = .ok (.bipush 24, 2) := by decide +kernel
theorem dX12_init_544 : decode cX12_init 544 = .ok (.newarray .int, 2) := by decide +kernel
theorem dX12_init_546 : decode cX12_init 546 = .ok (.putfield 224, 3) := by decide +kernel
theorem dX12_init_549 : decode cX12_init 549 = .ok (.aload_n 0, 1) := by decide +kernel
theorem dX12_init_550 : decode cX12_init 550 = .ok (.sipush 1200, 3) := by decide +kernel
theorem dX12_init_553 : decode cX12_init 553 = .ok (.newarray .int, 2) := by decide +kernel
theorem dX12_init_555 : decode cX12_init 555 = .ok (.putfield 227, 3) := by decide +kernel
theorem dX12_init_558 : decode cX12_init 558 = .ok (.aload_n 0, 1) := by decide +kernel
theorem dX12_init_559 : decode cX12_init 559 = .ok (.bipush 20, 2) := by decide +kernel
theorem dX12_init_561 : decode cX12_init 561 = .ok (.newarray .int, 2) := by decide +kernel
theorem dX12_init_563 : decode cX12_init 563 = .ok (.putfield 230, 3) := by decide +kernel
theorem dX12_init_566 : decode cX12_init 566 = .ok (.aload_n 0, 1) := by decide +kernel
theorem dX12_init_567 : decode cX12_init 567 = .ok (.bipush 20, 2) := by decide +kernel
theorem dX12_init_569 : decode cX12_init 569 = .ok (.newarray .int, 2) := by decide +kernel
theorem dX12_init_571 : decode cX12_init 571 = .ok (.putfield 233, 3) := by decide +kernel
theorem dX12_init_574 : decode cX12_init 574 = .ok (.aload_n 0, 1) := by decide +kernel
theorem dX12_init_575 : decode cX12_init 575 = .ok (.bipush 20, 2) := by decide +kernel
theorem dX12_init_577 : decode cX12_init 577 = .ok (.newarray .int, 2) := by decide +kernel
theorem dX12_init_579 : decode cX12_init 579 = .ok (.putfield 236, 3) := by decide +kernel
theorem dX12_init_582 : decode cX12_init 582 = .ok (.aload_n 0, 1) := by decide +kernel
theorem dX12_init_583 : decode cX12_init 583 = .ok (.bipush 20, 2) := by decide +kernel
theorem dX12_init_585 : decode cX12_init 585 = .ok (.newarray .int, 2) := by decide +kernel
theorem dX12_init_587 : decode cX12_init 587 = .ok (.putfield 239, 3) := by decide +kernel
theorem dX12_init_590 : decode cX12_init 590 = .ok (.aload_n 0, 1) := by decide +kernel
theorem dX12_init_591 : decode cX12_init 591 = .ok (.bipush 20, 2) := by decide +kernel
theorem dX12_init_593 : decode cX12_init 593 = .ok (.newarray .int, 2) := by decide +kernel
theorem dX12_init_595 : decode cX12_init 595 = .ok (.putfield 242, 3) := by decide +kernel
theorem dX12_init_598 : decode cX12_init 598 = .ok (.aload_n 0, 1) := by decide +kernel
theorem dX12_init_599 : decode cX12_init 599 = .ok (.bipush 20, 2) := by decide +kernel
theorem dX12_init_601 : decode cX12_init 601 = .ok (.newarray .boolean, 2) := by decide +kernel
theorem dX12_init_603 : decode cX12_init 603 = .ok (.putfield 245, 3) := by decide +kernel
theorem dX12_init_606 : decode cX12_init 606 = .ok (.aload_n 0, 1) := by decide +kernel
theorem dX12_init_607 : decode cX12_init 607 = .ok (.bipush 20, 2) := by decide +kernel
theorem dX12_init_609 : decode cX12_init 609 = .ok (.newarray .boolean, 2) := by decide +kernel
theorem dX12_init_611 : decode cX12_init 611 = .ok (.putfield 248, 3) := by decide +kernel
theorem dX12_init_614 : decode cX12_init 614 = .ok (.aload_n 0, 1) := by decide +kernel
theorem dX12_init_615 : decode cX12_init 615 = .ok (.bipush 12, 2) := by decide +kernel
theorem dX12_init_617 : decode cX12_init 617 = .ok (.newarray .boolean, 2) := by decide +kernel
theorem dX12_init_619 : decode cX12_init 619 = .ok (.putfield 251, 3) := by decide +kernel
theorem dX12_init_622 : decode cX12_init 622 = .ok (.aload_n 0, 1) := by decide +kernel
theorem dX12_init_623 : decode cX12_init 623 = .ok (.invokevirtual 254, 3) := by decide +kernel
theorem dX12_init_626 : decode cX12_init 626 = .ok (.aload_n 0, 1) := by decide +kernel
theorem dX12_init_627 : decode cX12_init 627 = .ok (.invokevirtual 257, 3) := by decide +kernel
theorem dX12_init_630 : decode cX12_init 630 = .ok (.iconst 0, 1) := by decide +kernel
theorem dX12_init_631 : decode cX12_init 631 = .ok (.istore_n 1, 1) := by decide +kernel
theorem dX12_init_632 : decode cX12_init 632 = .ok (.iload_n 1, 1) := by decide +kernel
theorem dX12_init_633 : decode cX12_init 633 = .ok (.iconst 5, 1) := by decide +kernel
theorem dX12_init_634 : decode cX12_init 634 = .ok (.if_icmp .ge 16, 3) := by decide +kernel
theorem dX12_init_637 : decode cX12_init 637 = .ok (.aload_n 0, 1) := by decide +kernel
theorem dX12_init_638 : decode cX12_init 638 = .ok (.getfield 209, 3) := by decide +kernel
theorem dX12_init_641 : decode cX12_init 641 = .ok (.iload_n 1, 1) := by decide +kernel
theorem dX12_init_642 : decode cX12_init 642 = .ok (.iconst (-1), 1) := by decide +kernel
theorem dX12_init_643 : decode cX12_init 643 = .ok (.iastore, 1) := by decide +kernel
theorem dX12_init_644 : decode cX12_init 644 = .ok (.iinc 1 1, 3) := by decide +kernel
theorem dX12_init_647 : decode cX12_init 647 = .ok (.goto (-15), 3) := by decide +kernel
theorem dX12_init_650 : decode cX12_init 650 = .ok (.return_, 1) := by decide +kernel
theorem dX12_about_0 : decode cX12_about 0 = .ok (.iload_n 1, 1) := by decide +kernel
theorem dX12_about_1 : decode cX12_about 1 = .ok (.tableswitch 176 0 13 #[71, 81, 86, 96, 101, 106, 111, 116, 126, 136, 146, 156, 166, 171], 71) := by decide +kernel
theorem dX12_about_72 : decode cX12_about 72 = .ok (.aload_n 0, 1) := by decide +kernel
theorem dX12_about_73 : decode cX12_about 73 = .ok (.getfield 20, 3) := by decide +kernel
theorem dX12_about_76 : decode cX12_about 76 = .ok (.aload_n 0, 1) := by decide +kernel
theorem dX12_about_77 : decode cX12_about 77 = .ok (.getfield 386, 3) := by decide +kernel
theorem dX12_about_80 : decode cX12_about 80 = .ok (.iaload, 1) := by decide +kernel
theorem dX12_about_81 : decode cX12_about 81 = .ok (.ireturn, 1) := by decide +kernel
theorem dX12_about_82 : decode cX12_about 82 = .ok (.aload_n 0, 1) := by decide +kernel
theorem dX12_about_83 : decode cX12_about 83 = .ok (.invokevirtual 477, 3) := by decide +kernel
theorem dX12_about_86 : decode cX12_about 86 = .ok (.ireturn, 1) := by decide +kernel
theorem dX12_about_87 : decode cX12_about 87 = .ok (.aload_n 0, 1) := by decide +kernel
theorem dX12_about_88 : decode cX12_about 88 = .ok (.getfield 30, 3) := by decide +kernel
theorem dX12_about_91 : decode cX12_about 91 = .ok (.aload_n 0, 1) := by decide +kernel
theorem dX12_about_92 : decode cX12_about 92 = .ok (.getfield 386, 3) := by decide +kernel
theorem dX12_about_95 : decode cX12_about 95 = .ok (.iaload, 1) := by decide +kernel
theorem dX12_about_96 : decode cX12_about 96 = .ok (.ireturn, 1) := by decide +kernel
theorem dX12_about_97 : decode cX12_about 97 = .ok (.aload_n 0, 1) := by decide +kernel
theorem dX12_about_98 : decode cX12_about 98 = .ok (.getfield 483, 3) := by decide +kernel
theorem dX12_about_101 : decode cX12_about 101 = .ok (.ireturn, 1) := by decide +kernel
theorem dX12_about_102 : decode cX12_about 102 = .ok (.aload_n 0, 1) := by decide +kernel
theorem dX12_about_103 : decode cX12_about 103 = .ok (.getfield 392, 3) := by decide +kernel
theorem dX12_about_106 : decode cX12_about 106 = .ok (.ireturn, 1) := by decide +kernel
theorem dX12_about_107 : decode cX12_about 107 = .ok (.aload_n 0, 1) := by decide +kernel
theorem dX12_about_108 : decode cX12_about 108 = .ok (.getfield 672, 3) := by decide +kernel
theorem dX12_about_111 : decode cX12_about 111 = .ok (.ireturn, 1) := by decide +kernel
theorem dX12_about_112 : decode cX12_about 112 = .ok (.aload_n 0, 1) := by decide +kernel
theorem dX12_about_113 : decode cX12_about 113 = .ok (.getfield 383, 3) := by decide +kernel
theorem dX12_about_116 : decode cX12_about 116 = .ok (.ireturn, 1) := by decide +kernel
theorem dX12_about_117 : decode cX12_about 117 = .ok (.aload_n 0, 1) := by decide +kernel
theorem dX12_about_118 : decode cX12_about 118 = .ok (.getfield 36, 3) := by decide +kernel
theorem dX12_about_121 : decode cX12_about 121 = .ok (.aload_n 0, 1) := by decide +kernel
theorem dX12_about_122 : decode cX12_about 122 = .ok (.getfield 386, 3) := by decide +kernel
theorem dX12_about_125 : decode cX12_about 125 = .ok (.iaload, 1) := by decide +kernel
theorem dX12_about_126 : decode cX12_about 126 = .ok (.ireturn, 1) := by decide +kernel
theorem dX12_about_127 : decode cX12_about 127 = .ok (.aload_n 0, 1) := by decide +kernel
theorem dX12_about_128 : decode cX12_about 128 = .ok (.getfield 39, 3) := by decide +kernel
theorem dX12_about_131 : decode cX12_about 131 = .ok (.aload_n 0, 1) := by decide +kernel
theorem dX12_about_132 : decode cX12_about 132 = .ok (.getfield 386, 3) := by decide +kernel
theorem dX12_about_135 : decode cX12_about 135 = .ok (.iaload, 1) := by decide +kernel
theorem dX12_about_136 : decode cX12_about 136 = .ok (.ireturn, 1) := by decide +kernel
theorem dX12_about_137 : decode cX12_about 137 = .ok (.aload_n 0, 1) := by decide +kernel
theorem dX12_about_138 : decode cX12_about 138 = .ok (.getfield 89, 3) := by decide +kernel
theorem dX12_about_141 : decode cX12_about 141 = .ok (.aload_n 0, 1) := by decide +kernel
theorem dX12_about_142 : decode cX12_about 142 = .ok (.getfield 386, 3) := by decide +kernel
theorem dX12_about_145 : decode cX12_about 145 = .ok (.iaload, 1) := by decide +kernel
theorem dX12_about_146 : decode cX12_about 146 = .ok (.ireturn, 1) := by decide +kernel
theorem dX12_about_147 : decode cX12_about 147 = .ok (.aload_n 0, 1) := by decide +kernel
theorem dX12_about_148 : decode cX12_about 148 = .ok (.getfield 95, 3) := by decide +kernel
theorem dX12_about_151 : decode cX12_about 151 = .ok (.aload_n 0, 1) := by decide +kernel
theorem dX12_about_152 : decode cX12_about 152 = .ok (.getfield 386, 3) := by decide +kernel
theorem dX12_about_155 : decode cX12_about 155 = .ok (.iaload, 1) := by decide +kernel
theorem dX12_about_156 : decode cX12_about 156 = .ok (.ireturn, 1) := by decide +kernel
theorem dX12_about_157 : decode cX12_about 157 = .ok (.aload_n 0, 1) := by decide +kernel
theorem dX12_about_158 : decode cX12_about 158 = .ok (.getfield 98, 3) := by decide +kernel
theorem dX12_about_161 : decode cX12_about 161 = .ok (.aload_n 0, 1) := by decide +kernel
theorem dX12_about_162 : decode cX12_about 162 = .ok (.getfield 386, 3) := by decide +kernel
theorem dX12_about_165 : decode cX12_about 165 = .ok (.iaload, 1) := by decide +kernel
theorem dX12_about_166 : decode cX12_about 166 = .ok (.ireturn, 1) := by decide +kernel
theorem dX12_about_167 : decode cX12_about 167 = .ok (.aload_n 0, 1) := by decide +kernel
theorem dX12_about_168 : decode cX12_about 168 = .ok (.getfield 546, 3) := by decide +kernel
theorem dX12_about_171 : decode cX12_about 171 = .ok (.ireturn, 1) := by decide +kernel
theorem dX12_about_172 : decode cX12_about 172 = .ok (.aload_n 0, 1) := by decide +kernel
theorem dX12_about_173 : decode cX12_about 173 = .ok (.getfield 540, 3) := by decide +kernel
theorem dX12_about_176 : decode cX12_about 176 = .ok (.ireturn, 1) := by decide +kernel
theorem dX12_about_177 : decode cX12_about 177 = .ok (.iconst (-1), 1) := by decide +kernel
theorem dX12_about_178 : decode cX12_about 178 = .ok (.ireturn, 1) := by decide +kernel
theorem dX12_after_0 : decode cX12_after 0 = .ok (.aload_n 0, 1) := by decide +kernel
theorem dX12_after_1 : decode cX12_after 1 = .ok (.aload_n 0, 1) := by decide +kernel
theorem dX12_after_2 : decode cX12_after 2 = .ok (.lload_n 1, 1) := by decide +kernel
theorem dX12_after_3 : decode cX12_after 3 = .ok (.invokevirtual 395, 3) := by decide +kernel
theorem dX12_after_6 : decode cX12_after 6 = .ok (.invokevirtual 426, 3) := by decide +kernel
theorem dX12_after_9 : decode cX12_after 9 = .ok (.aload_n 0, 1) := by decide +kernel
theorem dX12_after_10 : decode cX12_after 10 = .ok (.iload_n 3, 1) := by decide +kernel
theorem dX12_after_11 : decode cX12_after 11 = .ok (.iload 4, 2) := by decide +kernel
theorem dX12_after_13 : decode cX12_after 13 = .ok (.invokevirtual 418, 3) := by decide +kernel
theorem dX12_after_16 : decode cX12_after 16 = .ok (.ireturn, 1) := by decide +kernel
theorem dX12_amount_0 : decode cX12_amount 0 = .ok (.aload_n 0, 1) := by decide +kernel
theorem dX12_amount_1 : decode cX12_amount 1 = .ok (.getfield 122, 3) := by decide +kernel
theorem dX12_amount_4 : decode cX12_amount 4 = .ok (.iload_n 1, 1) := by decide +kernel
theorem dX12_amount_5 : decode cX12_amount 5 = .ok (.iaload, 1) := by decide +kernel
theorem dX12_amount_6 : decode cX12_amount 6 = .ok (.tableswitch 149 97 119 #[135, 142, 113, 149, 149, 149, 149, 149, 149, 149, 149, 149, 149, 106, 149, 149, 149, 149, 115, 128, 149, 149, 122], 106) := by decide +kernel
theorem dX12_amount_112 : decode cX12_amount 112 = .ok (.aload_n 0, 1) := by decide +kernel
theorem dX12_amount_113 : decode cX12_amount 113 = .ok (.getfield 125, 3) := by decide +kernel
theorem dX12_amount_116 : decode cX12_amount 116 = .ok (.iload_n 1, 1) := by decide +kernel
theorem dX12_amount_117 : decode cX12_amount 117 = .ok (.iaload, 1) := by decide +kernel
theorem dX12_amount_118 : decode cX12_amount 118 = .ok (.ireturn, 1) := by decide +kernel
theorem dX12_amount_119 : decode cX12_amount 119 = .ok (.iload_n 2, 1) := by decide +kernel
theorem dX12_amount_120 : decode cX12_amount 120 = .ok (.ireturn, 1) := by decide +kernel
theorem dX12_amount_121 : decode cX12_amount 121 = .ok (.aload_n 0, 1) := by decide +kernel
theorem dX12_amount_122 : decode cX12_amount 122 = .ok (.getfield 140, 3) := by decide +kernel
theorem dX12_amount_125 : decode cX12_amount 125 = .ok (.iload_n 2, 1) := by decide +kernel
theorem dX12_amount_126 : decode cX12_amount 126 = .ok (.iaload, 1) := by decide +kernel
theorem dX12_amount_127 : decode cX12_amount 127 = .ok (.ireturn, 1) := by decide +kernel
theorem dX12_amount_128 : decode cX12_amount 128 = .ok (.aload_n 0, 1) := by decide +kernel
theorem dX12_amount_129 : decode cX12_amount 129 = .ok (.iload_n 2, 1) := by decide +kernel
theorem dX12_amount_130 : decode cX12_amount 130 = .ok (.invokevirtual 480, 3) := by decide +kernel
theorem dX12_amount_133 : decode cX12_amount 133 = .ok (.ireturn, 1) := by decide +kernel
theorem dX12_amount_134 : decode cX12_amount 134 = .ok (.aload_n 0, 1) := by decide +kernel
theorem dX12_amount_135 : decode cX12_amount 135 = .ok (.getfield 483, 3) := by decide +kernel
theorem dX12_amount_138 : decode cX12_amount 138 = .ok (.iconst 1, 1) := by decide +kernel
theorem dX12_amount_139 : decode cX12_amount 139 = .ok (.iadd, 1) := by decide +kernel
theorem dX12_amount_140 : decode cX12_amount 140 = .ok (.ireturn, 1) := by decide +kernel
theorem dX12_amount_141 : decode cX12_amount 141 = .ok (.aload_n 0, 1) := by decide +kernel
theorem dX12_amount_142 : decode cX12_amount 142 = .ok (.iload_n 2, 1) := by decide +kernel
theorem dX12_amount_143 : decode cX12_amount 143 = .ok (.iconst 1, 1) := by decide +kernel
theorem dX12_amount_144 : decode cX12_amount 144 = .ok (.invokevirtual 486, 3) := by decide +kernel
theorem dX12_amount_147 : decode cX12_amount 147 = .ok (.ireturn, 1) := by decide +kernel
theorem dX12_amount_148 : decode cX12_amount 148 = .ok (.aload_n 0, 1) := by decide +kernel
theorem dX12_amount_149 : decode cX12_amount 149 = .ok (.iload_n 2, 1) := by decide +kernel
theorem dX12_amount_150 : decode cX12_amount 150 = .ok (.iconst 0, 1) := by decide +kernel
theorem dX12_amount_151 : decode cX12_amount 151 = .ok (.invokevirtual 486, 3) := by decide +kernel
theorem dX12_amount_154 : decode cX12_amount 154 = .ok (.ireturn, 1) := by decide +kernel
theorem dX12_amount_155 : decode cX12_amount 155 = .ok (.aload_n 0, 1) := by decide +kernel
theorem dX12_amount_156 : decode cX12_amount 156 = .ok (.aload_n 0, 1) := by decide +kernel
theorem dX12_amount_157 : decode cX12_amount 157 = .ok (.getfield 125, 3) := by decide +kernel
theorem dX12_amount_160 : decode cX12_amount 160 = .ok (.iload_n 1, 1) := by decide +kernel
theorem dX12_amount_161 : decode cX12_amount 161 = .ok (.iaload, 1) := by decide +kernel
theorem dX12_amount_162 : decode cX12_amount 162 = .ok (.invokevirtual 490, 3) := by decide +kernel
theorem dX12_amount_165 : decode cX12_amount 165 = .ok (.ireturn, 1) := by decide +kernel
theorem dX12_asks_0 : decode cX12_asks 0 = .ok (.aload_n 0, 1) := by decide +kernel
theorem dX12_asks_1 : decode cX12_asks 1 = .ok (.iload_n 1, 1) := by decide +kernel
theorem dX12_asks_2 : decode cX12_asks 2 = .ok (.invokevirtual 590, 3) := by decide +kernel
theorem dX12_asks_5 : decode cX12_asks 5 = .ok (.istore_n 3, 1) := by decide +kernel
theorem dX12_asks_6 : decode cX12_asks 6 = .ok (.iload_n 3, 1) := by decide +kernel
theorem dX12_asks_7 : decode cX12_asks 7 = .ok (.ifCond .lt 11, 3) := by decide +kernel
theorem dX12_asks_10 : decode cX12_asks 10 = .ok (.aload_n 0, 1) := by decide +kernel
theorem dX12_asks_11 : decode cX12_asks 11 = .ok (.iload_n 2, 1) := by decide +kernel
theorem dX12_asks_12 : decode cX12_asks 12 = .ok (.invokevirtual 628, 3) := by decide +kernel
theorem dX12_asks_15 : decode cX12_asks 15 = .ok (.ifCond .ne 9, 3) := by decide +kernel
theorem dX12_asks_18 : decode cX12_asks 18 = .ok (.ldc_w 637, 3) := by decide +kernel
theorem dX12_asks_21 : decode cX12_asks 21 = .ok (.goto 9, 3) := by decide +kernel
theorem dX12_asks_24 : decode cX12_asks 24 = .ok (.aload_n 0, 1) := by decide +kernel
theorem dX12_asks_25 : decode cX12_asks 25 = .ok (.iload_n 3, 1) := by decide +kernel
theorem dX12_asks_26 : decode cX12_asks 26 = .ok (.iload_n 2, 1) := by decide +kernel
theorem dX12_asks_27 : decode cX12_asks 27 = .ok (.invokevirtual 593, 3) := by decide +kernel
theorem dX12_asks_30 : decode cX12_asks 30 = .ok (.ireturn, 1) := by decide +kernel
theorem dX12_back_0 : decode cX12_back 0 = .ok (.iload_n 1, 1) := by decide +kernel
theorem dX12_back_1 : decode cX12_back 1 = .ok (.iconst 0, 1) := by decide +kernel
theorem dX12_back_2 : decode cX12_back 2 = .ok (.iconst 2, 1) := by decide +kernel
theorem dX12_back_3 : decode cX12_back 3 = .ok (.invokestatic 503, 3) := by decide +kernel
theorem dX12_back_6 : decode cX12_back 6 = .ok (.ifCond .eq 12, 3) := by decide +kernel
theorem dX12_back_9 : decode cX12_back 9 = .ok (.aload_n 0, 1) := by decide +kernel
theorem dX12_back_10 : decode cX12_back 10 = .ok (.getfield 209, 3) := by decide +kernel
theorem dX12_back_13 : decode cX12_back 13 = .ok (.iload_n 1, 1) := by decide +kernel
theorem dX12_back_14 : decode cX12_back 14 = .ok (.iaload, 1) := by decide +kernel
theorem dX12_back_15 : decode cX12_back 15 = .ok (.ifCond .ge 5, 3) := by decide +kernel
theorem dX12_back_18 : decode cX12_back 18 = .ok (.iconst (-1), 1) := by decide +kernel
theorem dX12_back_19 : decode cX12_back 19 = .ok (.ireturn, 1) := by decide +kernel
theorem dX12_back_20 : decode cX12_back 20 = .ok (.aload_n 0, 1) := by decide +kernel
theorem dX12_back_21 : decode cX12_back 21 = .ok (.iload_n 1, 1) := by decide +kernel
theorem dX12_back_22 : decode cX12_back 22 = .ok (.invokevirtual 644, 3) := by decide +kernel
theorem dX12_back_25 : decode cX12_back 25 = .ok (.aload_n 0, 1) := by decide +kernel
theorem dX12_back_26 : decode cX12_back 26 = .ok (.getfield 483, 3) := by decide +kernel
theorem dX12_back_29 : decode cX12_back 29 = .ok (.ireturn, 1) := by decide +kernel
theorem dX12_begin_0 : decode cX12_begin 0 = .ok (.iconst 0, 1) := by decide +kernel
theorem dX12_begin_1 : decode cX12_begin 1 = .ok (.istore_n 1, 1) := by decide +kernel
theorem dX12_begin_2 : decode cX12_begin 2 = .ok (.iload_n 1, 1) := by decide +kernel
theorem dX12_begin_3 : decode cX12_begin 3 = .ok (.iconst 5, 1) := by decide +kernel
theorem dX12_begin_4 : decode cX12_begin 4 = .ok (.if_icmp .ge 89, 3) := by decide +kernel
theorem dX12_begin_7 : decode cX12_begin 7 = .ok (.aload_n 0, 1) := by decide +kernel
theorem dX12_begin_8 : decode cX12_begin 8 = .ok (.getfield 137, 3) := by decide +kernel
theorem dX12_begin_11 : decode cX12_begin 11 = .ok (.iload_n 1, 1) := by decide +kernel
theorem dX12_begin_12 : decode cX12_begin 12 = .ok (.bipush 10, 2) := by decide +kernel
theorem dX12_begin_14 : decode cX12_begin 14 = .ok (.aload_n 0, 1) := by decide +kernel
theorem dX12_begin_15 : decode cX12_begin 15 = .ok (.getfield 83, 3) := by decide +kernel
theorem dX12_begin_18 : decode cX12_begin 18 = .ok (.iconst 5, 1) := by decide +kernel
theorem dX12_begin_19 : decode cX12_begin 19 = .ok (.aload_n 0, 1) := by decide +kernel
theorem dX12_begin_20 : decode cX12_begin 20 = .ok (.getfield 386, 3) := by decide +kernel
theorem dX12_begin_23 : decode cX12_begin 23 = .ok (.imul, 1) := by decide +kernel
theorem dX12_begin_24 : decode cX12_begin 24 = .ok (.iload_n 1, 1) := by decide +kernel
theorem dX12_begin_25 : decode cX12_begin 25 = .ok (.iadd, 1) := by decide +kernel
theorem dX12_begin_26 : decode cX12_begin 26 = .ok (.iaload, 1) := by decide +kernel
theorem dX12_begin_27 : decode cX12_begin 27 = .ok (.imul, 1) := by decide +kernel
theorem dX12_begin_28 : decode cX12_begin 28 = .ok (.iconst 5, 1) := by decide +kernel
theorem dX12_begin_29 : decode cX12_begin 29 = .ok (.iadd, 1) := by decide +kernel
theorem dX12_begin_30 : decode cX12_begin 30 = .ok (.iastore, 1) := by decide +kernel
theorem dX12_begin_31 : decode cX12_begin 31 = .ok (.aload_n 0, 1) := by decide +kernel
theorem dX12_begin_32 : decode cX12_begin 32 = .ok (.getfield 140, 3) := by decide +kernel
theorem dX12_begin_35 : decode cX12_begin 35 = .ok (.iload_n 1, 1) := by decide +kernel
theorem dX12_begin_36 : decode cX12_begin 36 = .ok (.iconst 0, 1) := by decide +kernel
theorem dX12_begin_37 : decode cX12_begin 37 = .ok (.iastore, 1) := by decide +kernel
theorem dX12_begin_38 : decode cX12_begin 38 = .ok (.aload_n 0, 1) := by decide +kernel
theorem dX12_begin_39 : decode cX12_begin 39 = .ok (.getfield 143, 3) := by decide +kernel
theorem dX12_begin_42 : decode cX12_begin 42 = .ok (.iload_n 1, 1) := by decide +kernel
theorem dX12_begin_43 : decode cX12_begin 43 = .ok (.iconst 0, 1) := by decide +kernel
theorem dX12_begin_44 : decode cX12_begin 44 = .ok (.iastore, 1) := by decide +kernel
theorem dX12_begin_45 : decode cX12_begin 45 = .ok (.aload_n 0, 1) := by decide +kernel
theorem dX12_begin_46 : decode cX12_begin 46 = .ok (.getfield 146, 3) := by decide +kernel
theorem dX12_begin_49 : decode cX12_begin 49 = .ok (.iload_n 1, 1) := by decide +kernel
theorem dX12_begin_50 : decode cX12_begin 50 = .ok (.iconst 0, 1) := by decide +kernel
theorem dX12_begin_51 : decode cX12_begin 51 = .ok (.iastore, 1) := by decide +kernel
theorem dX12_begin_52 : decode cX12_begin 52 = .ok (.aload_n 0, 1) := by decide +kernel
theorem dX12_begin_53 : decode cX12_begin 53 = .ok (.getfield 149, 3) := by decide +kernel
theorem dX12_begin_56 : decode cX12_begin 56 = .ok (.iload_n 1, 1) := by decide +kernel
theorem dX12_begin_57 : decode cX12_begin 57 = .ok (.iconst (-1), 1) := by decide +kernel
theorem dX12_begin_58 : decode cX12_begin 58 = .ok (.iastore, 1) := by decide +kernel
theorem dX12_begin_59 : decode cX12_begin 59 = .ok (.aload_n 0, 1) := by decide +kernel
theorem dX12_begin_60 : decode cX12_begin 60 = .ok (.getfield 155, 3) := by decide +kernel
theorem dX12_begin_63 : decode cX12_begin 63 = .ok (.iload_n 1, 1) := by decide +kernel
theorem dX12_begin_64 : decode cX12_begin 64 = .ok (.iconst 0, 1) := by decide +kernel
theorem dX12_begin_65 : decode cX12_begin 65 = .ok (.bastore, 1) := by decide +kernel
theorem dX12_begin_66 : decode cX12_begin 66 = .ok (.aload_n 0, 1) := by decide +kernel
theorem dX12_begin_67 : decode cX12_begin 67 = .ok (.getfield 158, 3) := by decide +kernel
theorem dX12_begin_70 : decode cX12_begin 70 = .ok (.iload_n 1, 1) := by decide +kernel
theorem dX12_begin_71 : decode cX12_begin 71 = .ok (.iconst 1, 1) := by decide +kernel
theorem dX12_begin_72 : decode cX12_begin 72 = .ok (.bastore, 1) := by decide +kernel
theorem dX12_begin_73 : decode cX12_begin 73 = .ok (.aload_n 0, 1) := by decide +kernel
theorem dX12_begin_74 : decode cX12_begin 74 = .ok (.getfield 164, 3) := by decide +kernel
theorem dX12_begin_77 : decode cX12_begin 77 = .ok (.iload_n 1, 1) := by decide +kernel
theorem dX12_begin_78 : decode cX12_begin 78 = .ok (.iconst 0, 1) := by decide +kernel
theorem dX12_begin_79 : decode cX12_begin 79 = .ok (.iastore, 1) := by decide +kernel
theorem dX12_begin_80 : decode cX12_begin 80 = .ok (.aload_n 0, 1) := by decide +kernel
theorem dX12_begin_81 : decode cX12_begin 81 = .ok (.getfield 167, 3) := by decide +kernel
theorem dX12_begin_84 : decode cX12_begin 84 = .ok (.iload_n 1, 1) := by decide +kernel
theorem dX12_begin_85 : decode cX12_begin 85 = .ok (.iconst 0, 1) := by decide +kernel
theorem dX12_begin_86 : decode cX12_begin 86 = .ok (.iastore, 1) := by decide +kernel
theorem dX12_begin_87 : decode cX12_begin 87 = .ok (.iinc 1 1, 3) := by decide +kernel
theorem dX12_begin_90 : decode cX12_begin 90 = .ok (.goto (-88), 3) := by decide +kernel
theorem dX12_begin_93 : decode cX12_begin 93 = .ok (.iconst 0, 1) := by decide +kernel
theorem dX12_begin_94 : decode cX12_begin 94 = .ok (.istore_n 1, 1) := by decide +kernel
theorem dX12_begin_95 : decode cX12_begin 95 = .ok (.iload_n 1, 1) := by decide +kernel
theorem dX12_begin_96 : decode cX12_begin 96 = .ok (.bipush 6, 2) := by decide +kernel
theorem dX12_begin_98 : decode cX12_begin 98 = .ok (.if_icmp .ge 36, 3) := by decide +kernel
theorem dX12_begin_101 : decode cX12_begin 101 = .ok (.aload_n 0, 1) := by decide +kernel
theorem dX12_begin_102 : decode cX12_begin 102 = .ok (.getfield 170, 3) := by decide +kernel
theorem dX12_begin_105 : decode cX12_begin 105 = .ok (.iload_n 1, 1) := by decide +kernel
theorem dX12_begin_106 : decode cX12_begin 106 = .ok (.aload_n 0, 1) := by decide +kernel
theorem dX12_begin_107 : decode cX12_begin 107 = .ok (.getfield 104, 3) := by decide +kernel
theorem dX12_begin_110 : decode cX12_begin 110 = .ok (.bipush 6, 2) := by decide +kernel
theorem dX12_begin_112 : decode cX12_begin 112 = .ok (.aload_n 0, 1) := by decide +kernel
theorem dX12_begin_113 : decode cX12_begin 113 = .ok (.getfield 386, 3) := by decide +kernel
theorem dX12_begin_116 : decode cX12_begin 116 = .ok (.imul, 1) := by decide +kernel
theorem dX12_begin_117 : decode cX12_begin 117 = .ok (.iload_n 1, 1) := by decide +kernel
theorem dX12_begin_118 : decode cX12_begin 118 = .ok (.iadd, 1) := by decide +kernel
theorem dX12_begin_119 : decode cX12_begin 119 = .ok (.iaload, 1) := by decide +kernel
theorem dX12_begin_120 : decode cX12_begin 120 = .ok (.iastore, 1) := by decide +kernel
theorem dX12_begin_121 : decode cX12_begin 121 = .ok (.aload_n 0, 1) := by decide +kernel
theorem dX12_begin_122 : decode cX12_begin 122 = .ok (.getfield 173, 3) := by decide +kernel
theorem dX12_begin_125 : decode cX12_begin 125 = .ok (.iload_n 1, 1) := by decide +kernel
theorem dX12_begin_126 : decode cX12_begin 126 = .ok (.iconst 0, 1) := by decide +kernel
theorem dX12_begin_127 : decode cX12_begin 127 = .ok (.iastore, 1) := by decide +kernel
theorem dX12_begin_128 : decode cX12_begin 128 = .ok (.iinc 1 1, 3) := by decide +kernel
theorem dX12_begin_131 : decode cX12_begin 131 = .ok (.goto (-36), 3) := by decide +kernel
theorem dX12_begin_134 : decode cX12_begin 134 = .ok (.iconst 0, 1) := by decide +kernel
theorem dX12_begin_135 : decode cX12_begin 135 = .ok (.istore_n 1, 1) := by decide +kernel
theorem dX12_begin_136 : decode cX12_begin 136 = .ok (.iload_n 1, 1) := by decide +kernel
theorem dX12_begin_137 : decode cX12_begin 137 = .ok (.iconst 3, 1) := by decide +kernel
theorem dX12_begin_138 : decode cX12_begin 138 = .ok (.if_icmp .ge 16, 3) := by decide +kernel
theorem dX12_begin_141 : decode cX12_begin 141 = .ok (.aload_n 0, 1) := by decide +kernel
theorem dX12_begin_142 : decode cX12_begin 142 = .ok (.getfield 161, 3) := by decide +kernel
theorem dX12_begin_145 : decode cX12_begin 145 = .ok (.iload_n 1, 1) := by decide +kernel
theorem dX12_begin_146 : decode cX12_begin 146 = .ok (.iconst 0, 1) := by decide +kernel
theorem dX12_begin_147 : decode cX12_begin 147 = .ok (.bastore, 1) := by decide +kernel
theorem dX12_begin_148 : decode cX12_begin 148 = .ok (.iinc 1 1, 3) := by decide +kernel
theorem dX12_begin_151 : decode cX12_begin 151 = .ok (.goto (-15), 3) := by decide +kernel
theorem dX12_begin_154 : decode cX12_begin 154 = .ok (.aload_n 0, 1) := by decide +kernel
theorem dX12_begin_155 : decode cX12_begin 155 = .ok (.iconst 0, 1) := by decide +kernel
theorem dX12_begin_156 : decode cX12_begin 156 = .ok (.putfield 483, 3) := by decide +kernel
theorem dX12_begin_159 : decode cX12_begin 159 = .ok (.aload_n 0, 1) := by decide +kernel
theorem dX12_begin_160 : decode cX12_begin 160 = .ok (.iconst (-1), 1) := by decide +kernel
theorem dX12_begin_161 : decode cX12_begin 161 = .ok (.putfield 507, 3) := by decide +kernel
theorem dX12_begin_164 : decode cX12_begin 164 = .ok (.aload_n 0, 1) := by decide +kernel
theorem dX12_begin_165 : decode cX12_begin 165 = .ok (.iconst 0, 1) := by decide +kernel
theorem dX12_begin_166 : decode cX12_begin 166 = .ok (.putfield 510, 3) := by decide +kernel
theorem dX12_begin_169 : decode cX12_begin 169 = .ok (.aload_n 0, 1) := by decide +kernel
theorem dX12_begin_170 : decode cX12_begin 170 = .ok (.iconst 0, 1) := by decide +kernel
theorem dX12_begin_171 : decode cX12_begin 171 = .ok (.putfield 513, 3) := by decide +kernel
theorem dX12_begin_174 : decode cX12_begin 174 = .ok (.aload_n 0, 1) := by decide +kernel
theorem dX12_begin_175 : decode cX12_begin 175 = .ok (.iconst 0, 1) := by decide +kernel
theorem dX12_begin_176 : decode cX12_begin 176 = .ok (.putfield 516, 3) := by decide +kernel
theorem dX12_begin_179 : decode cX12_begin 179 = .ok (.aload_n 0, 1) := by decide +kernel
theorem dX12_begin_180 : decode cX12_begin 180 = .ok (.iconst 0, 1) := by decide +kernel
theorem dX12_begin_181 : decode cX12_begin 181 = .ok (.putfield 519, 3) := by decide +kernel
theorem dX12_begin_184 : decode cX12_begin 184 = .ok (.aload_n 0, 1) := by decide +kernel
theorem dX12_begin_185 : decode cX12_begin 185 = .ok (.iconst 0, 1) := by decide +kernel
theorem dX12_begin_186 : decode cX12_begin 186 = .ok (.putfield 522, 3) := by decide +kernel
theorem dX12_begin_189 : decode cX12_begin 189 = .ok (.aload_n 0, 1) := by decide +kernel
theorem dX12_begin_190 : decode cX12_begin 190 = .ok (.iconst 0, 1) := by decide +kernel
theorem dX12_begin_191 : decode cX12_begin 191 = .ok (.putfield 525, 3) := by decide +kernel
theorem dX12_begin_194 : decode cX12_begin 194 = .ok (.aload_n 0, 1) := by decide +kernel
theorem dX12_begin_195 : decode cX12_begin 195 = .ok (.iconst (-1), 1) := by decide +kernel
theorem dX12_begin_196 : decode cX12_begin 196 = .ok (.putfield 528, 3) := by decide +kernel
theorem dX12_begin_199 : decode cX12_begin 199 = .ok (.aload_n 0, 1) := by decide +kernel
theorem dX12_begin_200 : decode cX12_begin 200 = .ok (.iconst 0, 1) := by decide +kernel
theorem dX12_begin_201 : decode cX12_begin 201 = .ok (.putfield 531, 3) := by decide +kernel
theorem dX12_begin_204 : decode cX12_begin 204 = .ok (.aload_n 0, 1) := by decide +kernel
theorem dX12_begin_205 : decode cX12_begin 205 = .ok (.iconst 0, 1) := by decide +kernel
theorem dX12_begin_206 : decode cX12_begin 206 = .ok (.putfield 534, 3) := by decide +kernel
theorem dX12_begin_209 : decode cX12_begin 209 = .ok (.aload_n 0, 1) := by decide +kernel
theorem dX12_begin_210 : decode cX12_begin 210 = .ok (.iconst 0, 1) := by decide +kernel
theorem dX12_begin_211 : decode cX12_begin 211 = .ok (.putfield 537, 3) := by decide +kernel
theorem dX12_begin_214 : decode cX12_begin 214 = .ok (.aload_n 0, 1) := by decide +kernel
theorem dX12_begin_215 : decode cX12_begin 215 = .ok (.iconst (-1), 1) := by decide +kernel
theorem dX12_begin_216 : decode cX12_begin 216 = .ok (.putfield 540, 3) := by decide +kernel
theorem dX12_begin_219 : decode cX12_begin 219 = .ok (.aload_n 0, 1) := by decide +kernel
theorem dX12_begin_220 : decode cX12_begin 220 = .ok (.iconst 0, 1) := by decide +kernel
theorem dX12_begin_221 : decode cX12_begin 221 = .ok (.putfield 543, 3) := by decide +kernel
theorem dX12_begin_224 : decode cX12_begin 224 = .ok (.aload_n 0, 1) := by decide +kernel
theorem dX12_begin_225 : decode cX12_begin 225 = .ok (.iconst 0, 1) := by decide +kernel
theorem dX12_begin_226 : decode cX12_begin 226 = .ok (.putfield 546, 3) := by decide +kernel
theorem dX12_begin_229 : decode cX12_begin 229 = .ok (.return_, 1) := by decide +kernel
theorem dX12_behindUnit_0 : decode cX12_behindUnit 0 = .ok (.aload_n 0, 1) := by decide +kernel
theorem dX12_behindUnit_1 : decode cX12_behindUnit 1 = .ok (.invokevirtual 471, 3) := by decide +kernel
theorem dX12_behindUnit_4 : decode cX12_behindUnit 4 = .ok (.istore_n 1, 1) := by decide +kernel
theorem dX12_behindUnit_5 : decode cX12_behindUnit 5 = .ok (.iload_n 1, 1) := by decide +kernel
theorem dX12_behindUnit_6 : decode cX12_behindUnit 6 = .ok (.iconst 4, 1) := by decide +kernel
theorem dX12_behindUnit_7 : decode cX12_behindUnit 7 = .ok (.if_icmp .ne 16, 3) := by decide +kernel
theorem dX12_behindUnit_10 : decode cX12_behindUnit 10 = .ok (.aload_n 0, 1) := by decide +kernel
theorem dX12_behindUnit_11 : decode cX12_behindUnit 11 = .ok (.invokevirtual 474, 3) := by decide +kernel
theorem dX12_behindUnit_14 : decode cX12_behindUnit 14 = .ok (.ifCond .eq 9, 3) := by decide +kernel
theorem dX12_behindUnit_17 : decode cX12_behindUnit 17 = .ok (.aload_n 0, 1) := by decide +kernel
theorem dX12_behindUnit_18 : decode cX12_behindUnit 18 = .ok (.invokevirtual 371, 3) := by decide +kernel
theorem dX12_behindUnit_21 : decode cX12_behindUnit 21 = .ok (.iconst 1, 1) := by decide +kernel
theorem dX12_behindUnit_22 : decode cX12_behindUnit 22 = .ok (.ireturn, 1) := by decide +kernel
theorem dX12_behindUnit_23 : decode cX12_behindUnit 23 = .ok (.aload_n 0, 1) := by decide +kernel
theorem dX12_behindUnit_24 : decode cX12_behindUnit 24 = .ok (.getfield 128, 3) := by decide +kernel
theorem dX12_behindUnit_27 : decode cX12_behindUnit 27 = .ok (.aload_n 0, 1) := by decide +kernel
theorem dX12_behindUnit_28 : decode cX12_behindUnit 28 = .ok (.getfield 450, 3) := by decide +kernel
theorem dX12_behindUnit_31 : decode cX12_behindUnit 31 = .ok (.iconst 1, 1) := by decide +kernel
theorem dX12_behindUnit_32 : decode cX12_behindUnit 32 = .ok (.isub, 1) := by decide +kernel
theorem dX12_behindUnit_33 : decode cX12_behindUnit 33 = .ok (.iaload, 1) := by decide +kernel
theorem dX12_behindUnit_34 : decode cX12_behindUnit 34 = .ok (.bipush 6, 2) := by decide +kernel
theorem dX12_behindUnit_36 : decode cX12_behindUnit 36 = .ok (.if_icmp .gt 68, 3) := by decide +kernel
theorem dX12_behindUnit_39 : decode cX12_behindUnit 39 = .ok (.aload_n 0, 1) := by decide +kernel
theorem dX12_behindUnit_40 : decode cX12_behindUnit 40 = .ok (.getfield 128, 3) := by decide +kernel
theorem dX12_behindUnit_43 : decode cX12_behindUnit 43 = .ok (.aload_n 0, 1) := by decide +kernel
theorem dX12_behindUnit_44 : decode cX12_behindUnit 44 = .ok (.getfield 450, 3) := by decide +kernel
theorem dX12_behindUnit_47 : decode cX12_behindUnit 47 = .ok (.iconst 1, 1) := by decide +kernel
theorem dX12_behindUnit_48 : decode cX12_behindUnit 48 = .ok (.isub, 1) := by decide +kernel
theorem dX12_behindUnit_49 : decode cX12_behindUnit 49 = .ok (.iaload, 1) := by decide +kernel
theorem dX12_behindUnit_50 : decode cX12_behindUnit 50 = .ok (.iload_n 1, 1) := by decide +kernel
theorem dX12_behindUnit_51 : decode cX12_behindUnit 51 = .ok (.if_icmp .lt 53, 3) := by decide +kernel
theorem dX12_behindUnit_54 : decode cX12_behindUnit 54 = .ok (.aload_n 0, 1) := by decide +kernel
theorem dX12_behindUnit_55 : decode cX12_behindUnit 55 = .ok (.dup, 1) := by decide +kernel
theorem dX12_behindUnit_56 : decode cX12_behindUnit 56 = .ok (.getfield 450, 3) := by decide +kernel
theorem dX12_behindUnit_59 : decode cX12_behindUnit 59 = .ok (.iconst 1, 1) := by decide +kernel
theorem dX12_behindUnit_60 : decode cX12_behindUnit 60 = .ok (.isub, 1) := by decide +kernel
theorem dX12_behindUnit_61 : decode cX12_behindUnit 61 = .ok (.putfield 450, 3) := by decide +kernel
theorem dX12_behindUnit_64 : decode cX12_behindUnit 64 = .ok (.aload_n 0, 1) := by decide +kernel
theorem dX12_behindUnit_65 : decode cX12_behindUnit 65 = .ok (.getfield 128, 3) := by decide +kernel
theorem dX12_behindUnit_68 : decode cX12_behindUnit 68 = .ok (.aload_n 0, 1) := by decide +kernel
theorem dX12_behindUnit_69 : decode cX12_behindUnit 69 = .ok (.getfield 450, 3) := by decide +kernel
theorem dX12_behindUnit_72 : decode cX12_behindUnit 72 = .ok (.iaload, 1) := by decide +kernel
theorem dX12_behindUnit_73 : decode cX12_behindUnit 73 = .ok (.iconst 3, 1) := by decide +kernel
theorem dX12_behindUnit_74 : decode cX12_behindUnit 74 = .ok (.if_icmp .ne 13, 3) := by decide +kernel
theorem dX12_behindUnit_77 : decode cX12_behindUnit 77 = .ok (.aload_n 0, 1) := by decide +kernel
theorem dX12_behindUnit_78 : decode cX12_behindUnit 78 = .ok (.dup, 1) := by decide +kernel
theorem dX12_behindUnit_79 : decode cX12_behindUnit 79 = .ok (.getfield 453, 3) := by decide +kernel
theorem dX12_behindUnit_82 : decode cX12_behindUnit 82 = .ok (.iconst 1, 1) := by decide +kernel
theorem dX12_behindUnit_83 : decode cX12_behindUnit 83 = .ok (.isub, 1) := by decide +kernel
theorem dX12_behindUnit_84 : decode cX12_behindUnit 84 = .ok (.putfield 453, 3) := by decide +kernel
