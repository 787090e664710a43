def w00_i0 : rt_It := (w00_t0, 0, [false], [(7, (0, 0), (([((0, 4), (0, 0), none, none), ((0, 1), (0, 0), none, none), ((1, 999), (0, 0), none, none), ((0, 5), (0, 0), none, none)], [79], []), [some (.inr (.inl (79, 1))), some (.inl (1, 0, 0)), some (.inl (2, 0, 0)), some (.inl (3, 0, 0)), some (.inl (4, 0, 0)), none, none, none, none, none, none, none, none, none, none, none, none, none, none, none, none], []), [(4, 0, 0)])])
theorem w00_h0 : rt_chk w00_K w00_X w00_W [] w00_S 4000 w00_i0 = true := by decide +kernel
def w00_i1 : rt_It := (w00_t1, 0, [false], [(4, (0, 0), (([(((-2147483648), 2147483647), (0, 0), none, none), (((-2147483648), 2147483647), (0, 0), none, none), ((0, 5), (0, 0), none, none)], [79], []), [some (.inr (.inl (79, 1))), some (.inl (1, 0, 0)), some (.inl (2, 0, 0)), some (.inl (3, 0, 0)), none, none, none, none, none, none, none, none, none, none, none, none, none, none, none, none, none], []), [(3, 0, 0)])])
theorem w00_h1 : rt_chk w00_K w00_X w00_W [] w00_S 4000 w00_i1 = true := by decide +kernel
def w00_i2 : rt_It := (w00_t2, 0, [], [])
theorem w00_h2 : rt_chk w00_K w00_X w00_W [w00_t0, w00_t1] w00_S 4000 w00_i2 = true := by decide +kernel
def w00_i3 : rt_It := (w00_t3, 0, [], [])
theorem w00_h3 : rt_chk w00_K w00_X w00_W [] w00_S 4000 w00_i3 = true := by decide +kernel
def w00_i4 : rt_It := (w00_t4, 0, [], [])
theorem w00_h4 : rt_chk w00_K w00_X w00_W [] w00_S 4000 w00_i4 = true := by decide +kernel
def w00_i5 : rt_It := (w00_t5, 0, [false], [(4, (0, 0), (([(((-2147483648), 2147483647), (0, 0), none, none), ((0, 5), (0, 0), none, none)], [79], []), [some (.inr (.inl (79, 1))), some (.inl (1, 0, 0)), some (.inl (2, 0, 0)), none, none, none, none, none, none, none, none, none, none, none, none, none, none, none, none, none, none], []), [(2, 0, 0)])])
theorem w00_h5 : rt_chk w00_K w00_X w00_W [] w00_S 4000 w00_i5 = true := by decide +kernel
def w00_i6 : rt_It := (w00_t6, 0, [], [])
theorem w00_h6 : rt_chk w00_K w00_X w00_W [] w00_S 4000 w00_i6 = true := by decide +kernel
def w00_i7 : rt_It := (w00_t7, 0, [], [])
theorem w00_h7 : rt_chk w00_K w00_X w00_W [] w00_S 4000 w00_i7 = true := by decide +kernel
def w00_i12 : rt_It := (w00_t12, 0, [], [])
theorem w00_h12 : rt_chk w00_K w00_X w00_W [] w00_S 4000 w00_i12 = true := by decide +kernel
def w00_i13 : rt_It := (w00_t13, 0, [], [])
theorem w00_h13 : rt_chk w00_K w00_X w00_W [w00_t11, w00_t10, w00_t9, w00_t8, w00_t12] w00_S 4000 w00_i13 = true := by decide +kernel
def w00_i14 : rt_It := (w00_t14, 0, [true], [(7, (0, 0), (([((4, 6), (0, 0), none, none), ((0, 4), (0, 0), none, none), (((-1), 59), (0, 0), none, none)], [79], []), [some (.inr (.inl (79, 1))), some (.inl (1, 0, 0)), some (.inl (2, 0, 0)), some (.inl (3, 0, 0)), none, none, none, none, none, none, none, none, none, none, none, none, none, none, none, none, none], []), [(3, 0, 0)])])
theorem w00_h14 : rt_chk w00_K w00_X w00_W [] w00_S 4000 w00_i14 = true := by decide +kernel
def w00_i15 : rt_It := (w00_t15, 0, [], [])
theorem w00_h15 : rt_chk w00_K w00_X w00_W [w00_t12] w00_S 4000 w00_i15 = true := by decide +kernel
def w00_i16 : rt_It := (w00_t16, 0, [], [])
theorem w00_h16 : rt_chk w00_K w00_X w00_W [w00_t14, w00_t15, w00_t12] w00_S 4000 w00_i16 = true := by decide +kernel
def w00_i17 : rt_It := (w00_t17, 0, [], [])
theorem w00_h17 : rt_chk w00_K w00_X w00_W [w00_t14, w00_t12] w00_S 4000 w00_i17 = true := by decide +kernel
def w00_i18 : rt_It := (w00_t18, 0, [], [])
theorem w00_h18 : rt_chk w00_K w00_X w00_W [] w00_S 4000 w00_i18 = true := by decide +kernel
def w00_i19 : rt_It := (w00_t19, 0, [], [(88, (17, 0), (([((0, 59), (0, 0), none, none)], [79, 40, 42, 47], []), [some (.inr (.inl (79, 1))), some (.inl (0, 0, 0)), some (.inl (1, 0, 0))], [(1, (0, 54), .inr (.inl (40, 2))), (1, (0, 56), .inr (.inl (42, 3))), (1, (0, 61), .inr (.inl (47, 4)))]), [])])
theorem w00_h19 : rt_chk w00_K w00_X w00_W [w00_t18, w00_t17, w00_t13, w00_t16, w00_t7] w00_S 4000 w00_i19 = true := by decide +kernel
def w00_i20 : rt_It := (w00_t20, 0, [], [])
theorem w00_h20 : rt_chk w00_K w00_X w00_W [w00_t12] w00_S 4000 w00_i20 = true := by decide +kernel
def w00_i21 : rt_It := (w00_t21, 0, [false], [(42, (0, 0), (([((0, 5), (0, 0), none, none)], [79], []), [some (.inr (.inl (79, 1))), some (.inl (1, 0, 0)), none, none, none, none, none, none, none, none, none, none, none, none, none, none, none, none, none, none, none], []), [(1, 0, 0)])])
theorem w00_h21 : rt_chk w00_K w00_X w00_W [w00_t20] w00_S 4000 w00_i21 = true := by decide +kernel
def w00_i22 : rt_It := (w00_t22, 0, [], [(88, (18, 0), (([((0, 59), (0, 0), none, none)], [79, 40, 42, 47], []), [some (.inr (.inl (79, 1))), some (.inl (0, 1, 1)), some (.inl (1, 0, 0))], [(1, (0, 54), .inr (.inl (40, 2))), (1, (0, 56), .inr (.inl (42, 3))), (1, (0, 61), .inr (.inl (47, 4)))]), [])])
theorem w00_h22 : rt_chk w00_K w00_X w00_W [w00_t18, w00_t17, w00_t13, w00_t16, w00_t7] w00_S 4000 w00_i22 = true := by decide +kernel
def w00_i23 : rt_It := (w00_t23, 0, [], [(88, (19, 0), (([((0, 59), (0, 0), none, none)], [79, 40, 42, 47], []), [some (.inr (.inl (79, 1))), some (.inl (0, 2, 2)), some (.inl (1, 0, 0))], [(1, (0, 54), .inr (.inl (40, 2))), (1, (0, 56), .inr (.inl (42, 3))), (1, (0, 61), .inr (.inl (47, 4)))]), [])])
theorem w00_h23 : rt_chk w00_K w00_X w00_W [w00_t18, w00_t17, w00_t13, w00_t16, w00_t7] w00_S 4000 w00_i23 = true := by decide +kernel
def w00_i24 : rt_It := (w00_t24, 0, [], [(88, (20, 0), (([((0, 59), (0, 0), none, none)], [79, 40, 42, 47], []), [some (.inr (.inl (79, 1))), some (.inl (0, 3, 3)), some (.inl (1, 0, 0))], [(1, (0, 54), .inr (.inl (40, 2))), (1, (0, 56), .inr (.inl (42, 3))), (1, (0, 61), .inr (.inl (47, 4)))]), [])])
theorem w00_h24 : rt_chk w00_K w00_X w00_W [w00_t18, w00_t17, w00_t13, w00_t16, w00_t7] w00_S 4000 w00_i24 = true := by decide +kernel
def w00_i25 : rt_It := (w00_t25, 0, [], [(88, (21, 0), (([((0, 59), (0, 0), none, none)], [79, 40, 42, 47], []), [some (.inr (.inl (79, 1))), some (.inl (0, 4, 4)), some (.inl (1, 0, 0))], [(1, (0, 54), .inr (.inl (40, 2))), (1, (0, 56), .inr (.inl (42, 3))), (1, (0, 61), .inr (.inl (47, 4)))]), [])])
theorem w00_h25 : rt_chk w00_K w00_X w00_W [w00_t18, w00_t17, w00_t13, w00_t16, w00_t7] w00_S 4000 w00_i25 = true := by decide +kernel
def w00_i26 : rt_It := (w00_t26, 0, [true, false, true, false], [(2, (0, 0), (([], [79], []), [some (.inr (.inl (79, 1))), some (.inl (0, 0, 0)), none, none, none, none, none, none, none, none, none, none, none, none, none, none, none, none, none, none, none, none, none, none], []), [(0, 8, 8), (0, 0, 0), (0, 0, 0), (0, 0, 0)]),
  (132, (0, 0), (([], [79, 2], []), [some (.inr (.inl (79, 1))), some (.inl (0, 0, 0)), none, none, none, none, none, none, none, none, none, none, none, none, none, none, none, none, none, none, none, none, none, none], [(1, (0, 11), .inr (.inl (2, 2)))]), [(0, 7, 7), (0, 0, 0), (0, 0, 0), (0, 0, 0)]),
  (158, (0, 0), (([], [79, 2, 24], []), [some (.inr (.inl (79, 1))), some (.inl (0, 0, 0)), none, none, none, none, none, none, none, none, none, none, none, none, none, none, none, none, none, none, none, none, none, none], [(1, (0, 11), .inr (.inl (2, 2))), (1, (0, 33), .inr (.inl (24, 3)))]), [(0, 6, 6), (0, 0, 0), (0, 0, 0), (0, 0, 0)]),
  (189, (0, 0), (([((0, 5), (0, 0), none, none)], [79, 2, 3, 24], []), [some (.inr (.inl (79, 1))), some (.inl (1, 0, 0)), none, none, none, none, none, none, none, none, none, none, none, none, none, none, none, none, none, none, none, none, none, none], [(1, (0, 11), .inr (.inl (2, 2))), (1, (0, 12), .inr (.inl (3, 3))), (1, (0, 33), .inr (.inl (24, 4)))]), [(0, 0, 0), (1, 0, 0), (0, 1, 1), (0, 0, 0)]),
  (158, (0, 0), (([], [79, 2, 3, 24, 42], []), [some (.inr (.inl (79, 1))), some (.inl (0, 1, 1)), none, none, none, none, none, none, none, none, none, none, none, none, none, none, none, none, none, none, none, none, none, none], [(1, (0, 11), .inr (.inl (2, 2))), (1, (0, 12), .inr (.inl (3, 3))), (1, (0, 33), .inr (.inl (24, 4))), (1, (0, 56), .inr (.inl (42, 5)))]), [(0, 5, 5), (0, 0, 0), (0, 0, 0), (0, 0, 0)]),
  (199, (0, 0), (([((0, 4), (0, 0), none, none), ((0, 4), (0, 0), none, none)], [79, 2, 3, 24], []), [some (.inr (.inl (79, 1))), some (.inl (1, 0, 0)), some (.inl (2, 0, 0)), none, none, none, none, none, none, none, none, none, none, none, none, none, none, none, none, none, none, none, none, none], [(1, (0, 11), .inr (.inl (2, 2))), (1, (0, 12), .inr (.inl (3, 3))), (1, (0, 33), .inr (.inl (24, 4)))]), [(0, 0, 0), (1, 0, 0), (0, 0, 0), (2, 0, 0)]),
  (158, (0, 0), (([], [79, 2, 3, 24, 42], []), [some (.inr (.inl (79, 1))), some (.inl (0, 2, 2)), none, none, none, none, none, none, none, none, none, none, none, none, none, none, none, none, none, none, none, none, none, none], [(1, (0, 11), .inr (.inl (2, 2))), (1, (0, 12), .inr (.inl (3, 3))), (1, (0, 33), .inr (.inl (24, 4))), (1, (0, 56), .inr (.inl (42, 5)))]), [(0, 4, 4), (0, 0, 0), (0, 0, 0), (0, 0, 0)]),
  (158, (0, 0), (([], [79, 2, 3, 24, 42], []), [some (.inr (.inl (79, 1))), some (.inl (0, 3, 3)), none, none, none, none, none, none, none, none, none, none, none, none, none, none, none, none, none, none, none, none, none, none], [(1, (0, 11), .inr (.inl (2, 2))), (1, (0, 12), .inr (.inl (3, 3))), (1, (0, 33), .inr (.inl (24, 4))), (1, (0, 56), .inr (.inl (42, 5)))]), [(0, 3, 3), (0, 0, 0), (0, 0, 0), (0, 0, 0)]),
  (158, (0, 0), (([], [79, 2, 3, 24, 42], []), [some (.inr (.inl (79, 1))), some (.inl (0, 4, 4)), none, none, none, none, none, none, none, none, none, none, none, none, none, none, none, none, none, none, none, none, none, none], [(1, (0, 11), .inr (.inl (2, 2))), (1, (0, 12), .inr (.inl (3, 3))), (1, (0, 33), .inr (.inl (24, 4))), (1, (0, 56), .inr (.inl (42, 5)))]), [(0, 2, 2), (0, 0, 0), (0, 0, 0), (0, 0, 0)]),
  (158, (0, 0), (([], [79, 2, 3, 24, 42], []), [some (.inr (.inl (79, 1))), some (.inl (0, 5, 5)), none, none, none, none, none, none, none, none, none, none, none, none, none, none, none, none, none, none, none, none, none, none], [(1, (0, 11), .inr (.inl (2, 2))), (1, (0, 12), .inr (.inl (3, 3))), (1, (0, 33), .inr (.inl (24, 4))), (1, (0, 56), .inr (.inl (42, 5)))]), [(0, 1, 1), (0, 0, 0), (0, 0, 0), (0, 0, 0)])])
theorem w00_h26 : rt_chk w00_K w00_X w00_W [w00_t6, w00_t19, w00_t21, w00_t22, w00_t23, w00_t24, w00_t25] w00_S 4000 w00_i26 = true := by decide +kernel
def w00_i27 : rt_It := (w00_t27, 0, [false], [(27, (0, 0), (([((0, 500), (0, 0), none, none), ((0, 500), (0, 0), none, none)], [79], []), [some (.inr (.inl (79, 1))), some (.inl (1, 0, 0)), some (.inl (2, 0, 0)), none, none, none, none, none, none, none, none, none, none, none, none, none, none, none, none, none, none], []), [(2, 0, 0)])])
theorem w00_h27 : rt_chk w00_K w00_X w00_W [w00_t26, w00_t5] w00_S 4000 w00_i27 = true := by decide +kernel
def w00_i28 : rt_It := (w00_t28, 0, [], [])
theorem w00_h28 : rt_chk w00_K w00_X w00_W [] w00_S 4000 w00_i28 = true := by decide +kernel
def w00_i29 : rt_It := (w00_t29, 0, [], [])
theorem w00_h29 : rt_chk w00_K w00_X w00_W [] w00_S 4000 w00_i29 = true := by decide +kernel
def w00_i30 : rt_It := (w00_t30, 0, [], [])
theorem w00_h30 : rt_chk w00_K w00_X w00_W [] w00_S 4000 w00_i30 = true := by decide +kernel
def w00_i31 : rt_It := (w00_t31, 0, [], [])
theorem w00_h31 : rt_chk w00_K w00_X w00_W [] w00_S 4000 w00_i31 = true := by decide +kernel
def w00_i32 : rt_It := (w00_t32, 0, [], [])
theorem w00_h32 : rt_chk w00_K w00_X w00_W [] w00_S 4000 w00_i32 = true := by decide +kernel
def w00_i33 : rt_It := (w00_t33, 0, [], [])
theorem w00_h33 : rt_chk w00_K w00_X w00_W [] w00_S 4000 w00_i33 = true := by decide +kernel
def w00_i34 : rt_It := (w00_t34, 0, [], [])
theorem w00_h34 : rt_chk w00_K w00_X w00_W [] w00_S 4000 w00_i34 = true := by decide +kernel
def w00_i35 : rt_It := (w00_t35, 0, [], [])
theorem w00_h35 : rt_chk w00_K w00_X w00_W [] w00_S 4000 w00_i35 = true := by decide +kernel
def w00_i36 : rt_It := (w00_t36, 0, [], [])
theorem w00_h36 : rt_chk w00_K w00_X w00_W [] w00_S 4000 w00_i36 = true := by decide +kernel
def w00_i37 : rt_It := (w00_t37, 0, [false], [(2, (3, 0), (([((0, 60), (0, 0), none, none)], [79], []), [some (.inr (.inl (79, 1))), some (.inl (0, 3, 3)), some (.inl (1, 0, 0)), none, none, none, none, none, none, none, none, none, none, none, none, none, none, none, none, none, none], []), [(1, 0, 0)])])
theorem w00_h37 : rt_chk w00_K w00_X w00_W [] w00_S 4000 w00_i37 = true := by decide +kernel
def w00_i38 : rt_It := (w00_t38, 0, [true, false], [(25, (3, 0), (([], [79, 64, 65], []), [some (.inr (.inl (79, 1))), some (.inl (0, 3, 3)), some (.inl (0, 60, 60)), none, none, none, none, none, none, none, none, none, none, none, none, none, none, none, none, none, none, none], [(1, (0, 98), .inr (.inl (64, 2))), (1, (0, 99), .inr (.inl (65, 3)))]), [(0, 3, 3), (0, 0, 0)]),
  (183, (3, 0), (([((0, 6), (0, 0), none, none)], [79, 64, 65], []), [some (.inr (.inl (79, 1))), some (.inl (0, 3, 3)), some (.inl (0, 60, 60)), some (.inl (1, 0, 0)), none, none, none, none, none, none, none, none, none, none, none, none, none, none, none, none, none, none], [(1, (0, 98), .inr (.inl (64, 2))), (1, (0, 99), .inr (.inl (65, 3)))]), [(0, 2, 2), (1, 0, 0)]),
  (231, (3, 0), (([((0, 5), (0, 0), none, none)], [79, 64, 65], []), [some (.inr (.inl (79, 1))), some (.inl (0, 3, 3)), some (.inl (0, 60, 60)), some (.inl (1, 0, 0)), none, none, none, none, none, none, none, none, none, none, none, none, none, none, none, none, none, none], [(1, (0, 98), .inr (.inl (64, 2))), (1, (0, 99), .inr (.inl (65, 3)))]), [(0, 1, 1), (1, 0, 0)]),
  (368, (3, 0), (([((0, 3), (0, 0), none, none)], [79, 64, 65], []), [some (.inr (.inl (79, 1))), some (.inl (0, 3, 3)), some (.inl (0, 60, 60)), some (.inl (1, 0, 0)), none, none, none, none, none, none, none, none, none, none, none, none, none, none, none, none, none, none], [(1, (0, 98), .inr (.inl (64, 2))), (1, (0, 99), .inr (.inl (65, 3)))]), [(0, 0, 0), (1, 0, 0)])])
theorem w00_h38 : rt_chk w00_K w00_X w00_W [w00_t37] w00_S 4000 w00_i38 = true := by decide +kernel
def w00_i39 : rt_It := (w00_t39, 0, [false], [(2, (0, 0), (([((0, 60), (0, 0), none, none)], [79], []), [some (.inr (.inl (79, 1))), some (.inl (0, 3, 3)), some (.inl (1, 0, 0)), none, none, none, none, none, none, none, none, none, none, none, none, none, none, none, none, none, none], []), [(1, 0, 0)])])
theorem w00_h39 : rt_chk w00_K w00_X w00_W [] w00_S 4000 w00_i39 = true := by decide +kernel
def w00_i40 : rt_It := (w00_t40, 0, [true, false], [(183, (3, 0), (([((0, 6), (0, 0), none, none)], [79, 64, 65], []), [some (.inr (.inl (79, 1))), some (.inl (0, 3, 3)), some (.inl (0, 60, 60)), some (.inl (1, 0, 0)), none, none, none, none, none, none, none, none, none, none, none, none, none, none, none, none, none, none], [(1, (0, 98), .inr (.inl (64, 2))), (1, (0, 99), .inr (.inl (65, 3)))]), [(0, 2, 2), (1, 0, 0)]),
  (231, (3, 0), (([((0, 5), (0, 0), none, none)], [79, 64, 65], []), [some (.inr (.inl (79, 1))), some (.inl (0, 3, 3)), some (.inl (0, 60, 60)), some (.inl (1, 0, 0)), none, none, none, none, none, none, none, none, none, none, none, none, none, none, none, none, none, none], [(1, (0, 98), .inr (.inl (64, 2))), (1, (0, 99), .inr (.inl (65, 3)))]), [(0, 1, 1), (1, 0, 0)]),
  (368, (3, 0), (([((0, 3), (0, 0), none, none)], [79, 64, 65], []), [some (.inr (.inl (79, 1))), some (.inl (0, 3, 3)), some (.inl (0, 60, 60)), some (.inl (1, 0, 0)), none, none, none, none, none, none, none, none, none, none, none, none, none, none, none, none, none, none], [(1, (0, 98), .inr (.inl (64, 2))), (1, (0, 99), .inr (.inl (65, 3)))]), [(0, 0, 0), (1, 0, 0)])])
theorem w00_h40 : rt_chk w00_K w00_X w00_W [w00_t39] w00_S 4000 w00_i40 = true := by decide +kernel
def w00_i41 : rt_It := (w00_t41, 0, [false, true], [(35, (3, 0), (([((1, 300), (0, 0), none, none), ((0, 1), (0, 0), none, none), ((0, 300), (0, 0), none, none)], [79], []), [some (.inr (.inl (79, 1))), some (.inl (1, 0, 0)), some (.inl (2, 0, 0)), some (.inl (0, 0, 0)), some (.inl (0, 0, 0)), some (.inl (3, 0, 0)), none, none, none, none, none, none, none, none, none, none, none, none, none, none, none, none], []), [(3, 0, 0), (0, 1, 1)]),
  (47, (3, 0), (([((1, 300), (0, 0), none, none), ((0, 1), (0, 0), none, none), ((0, 299), (0, 0), none, none)], [79], []), [some (.inr (.inl (79, 1))), some (.inl (1, 0, 0)), some (.inl (2, 0, 0)), some (.inl (0, 0, 0)), some (.inl (0, 0, 0)), some (.inl (3, 0, 0)), some (.inl (0, 0, 0)), some (.inl (0, 0, 0)), none, none, none, none, none, none, none, none, none, none, none, none, none, none], []), [(3, 0, 0), (0, 0, 0)])])
theorem w00_h41 : rt_chk w00_K w00_X w00_W [w00_t38, w00_t40, w00_t26] w00_S 4000 w00_i41 = true := by decide +kernel
def w00_i42 : rt_It := (w00_t42, 0, [], [])
theorem w00_h42 : rt_chk w00_K w00_X w00_W [w00_t41] w00_S 4000 w00_i42 = true := by decide +kernel
