def w03_i0 : rt_It := (w03_t0, 0, [false], [(7, (0, 0), (([((0, 4), (0, 0), none, none), ((0, 1), (0, 0), none, none), ((1, 999), (0, 0), none, none), ((0, 5), (0, 0), none, none)], [79], []), [some (.inr (.inl (79, 1))), some (.inl (1, 0, 0)), some (.inl (2, 0, 0)), some (.inl (3, 0, 0)), some (.inl (4, 0, 0)), none, none, none, none, none, none, none, none, none, none, none, none, none, none, none, none], []), [(4, 0, 0)])])
theorem w03_h0 : rt_chk w03_K w03_X w03_W [] w03_S 4000 w03_i0 = true := by decide +kernel
def w03_i1 : rt_It := (w03_t1, 0, [false], [(4, (0, 0), (([(((-2147483648), 2147483647), (0, 0), none, none), (((-2147483648), 2147483647), (0, 0), none, none), ((0, 5), (0, 0), none, none)], [79], []), [some (.inr (.inl (79, 1))), some (.inl (1, 0, 0)), some (.inl (2, 0, 0)), some (.inl (3, 0, 0)), none, none, none, none, none, none, none, none, none, none, none, none, none, none, none, none, none], []), [(3, 0, 0)])])
theorem w03_h1 : rt_chk w03_K w03_X w03_W [] w03_S 4000 w03_i1 = true := by decide +kernel
def w03_i2 : rt_It := (w03_t2, 0, [], [])
theorem w03_h2 : rt_chk w03_K w03_X w03_W [w03_t0, w03_t1] w03_S 4000 w03_i2 = true := by decide +kernel
def w03_i3 : rt_It := (w03_t3, 0, [], [])
theorem w03_h3 : rt_chk w03_K w03_X w03_W [] w03_S 4000 w03_i3 = true := by decide +kernel
def w03_i4 : rt_It := (w03_t4, 0, [], [])
theorem w03_h4 : rt_chk w03_K w03_X w03_W [] w03_S 4000 w03_i4 = true := by decide +kernel
def w03_i5 : rt_It := (w03_t5, 0, [false], [(4, (0, 0), (([(((-2147483648), 2147483647), (0, 0), none, none), ((0, 5), (0, 0), none, none)], [79], []), [some (.inr (.inl (79, 1))), some (.inl (1, 0, 0)), some (.inl (2, 0, 0)), none, none, none, none, none, none, none, none, none, none, none, none, none, none, none, none, none, none], []), [(2, 0, 0)])])
theorem w03_h5 : rt_chk w03_K w03_X w03_W [] w03_S 4000 w03_i5 = true := by decide +kernel
def w03_i6 : rt_It := (w03_t6, 0, [], [])
theorem w03_h6 : rt_chk w03_K w03_X w03_W [] w03_S 4000 w03_i6 = true := by decide +kernel
def w03_i7 : rt_It := (w03_t7, 0, [false], [(65, (0, 0), (([(((-2147483648), 59), (0, 0), none, none), ((0, 5), (0, 0), none, none)], [79, 15, 16, 17, 45, 48], []), [some (.inr (.inl (79, 1))), some (.inl (1, 0, 0)), some (.inl (2, 0, 0)), none, none, none, none, none, none, none, none, none, none, none, none, none, none, none, none, none, none], [(1, (0, 24), .inr (.inl (15, 2))), (1, (0, 25), .inr (.inl (16, 3))), (1, (0, 26), .inr (.inl (17, 4))), (1, (0, 59), .inr (.inl (45, 5))), (1, (0, 62), .inr (.inl (48, 6)))]), [(2, 0, 0)])])
theorem w03_h7 : rt_chk w03_K w03_X w03_W [w03_t6] w03_S 4000 w03_i7 = true := by decide +kernel
def w03_i8 : rt_It := (w03_t8, 0, [false], [(4, (0, 0), (([(((-2147483648), 59), (0, 0), none, none), (((-2147483648), 2147483647), (0, 0), none, none), ((0, 5), (0, 0), none, none)], [79], []), [some (.inr (.inl (79, 1))), some (.inl (1, 0, 0)), some (.inl (2, 0, 0)), some (.inl (3, 0, 0)), none, none, none, none, none, none, none, none, none, none, none, none, none, none, none, none, none], []), [(3, 0, 0)])])
theorem w03_h8 : rt_chk w03_K w03_X w03_W [] w03_S 4000 w03_i8 = true := by decide +kernel
def w03_i9 : rt_It := (w03_t9, 0, [], [])
theorem w03_h9 : rt_chk w03_K w03_X w03_W [w03_t6] w03_S 4000 w03_i9 = true := by decide +kernel
def w03_i10 : rt_It := (w03_t10, 0, [], [])
theorem w03_h10 : rt_chk w03_K w03_X w03_W [w03_t9, w03_t6, w03_t8] w03_S 4000 w03_i10 = true := by decide +kernel
def w03_i11 : rt_It := (w03_t11, 0, [], [])
theorem w03_h11 : rt_chk w03_K w03_X w03_W [] w03_S 4000 w03_i11 = true := by decide +kernel
def w03_i16 : rt_It := (w03_t16, 0, [], [])
theorem w03_h16 : rt_chk w03_K w03_X w03_W [w03_t15, w03_t14, w03_t13, w03_t12, w03_t6] w03_S 4000 w03_i16 = true := by decide +kernel
def w03_i17 : rt_It := (w03_t17, 0, [true], [(7, (0, 0), (([((4, 6), (0, 0), none, none), ((0, 4), (0, 0), none, none), (((-1), 59), (0, 0), none, none)], [79], []), [some (.inr (.inl (79, 1))), some (.inl (1, 0, 0)), some (.inl (2, 0, 0)), some (.inl (3, 0, 0)), none, none, none, none, none, none, none, none, none, none, none, none, none, none, none, none, none], []), [(3, 0, 0)])])
theorem w03_h17 : rt_chk w03_K w03_X w03_W [] w03_S 4000 w03_i17 = true := by decide +kernel
def w03_i18 : rt_It := (w03_t18, 0, [], [])
theorem w03_h18 : rt_chk w03_K w03_X w03_W [w03_t17, w03_t9, w03_t6] w03_S 4000 w03_i18 = true := by decide +kernel
def w03_i19 : rt_It := (w03_t19, 0, [], [])
theorem w03_h19 : rt_chk w03_K w03_X w03_W [w03_t17, w03_t6] w03_S 4000 w03_i19 = true := by decide +kernel
def w03_i20 : rt_It := (w03_t20, 0, [], [])
theorem w03_h20 : rt_chk w03_K w03_X w03_W [] w03_S 4000 w03_i20 = true := by decide +kernel
def w03_i21 : rt_It := (w03_t21, 0, [], [(88, (17, 0), (([((0, 59), (0, 0), none, none)], [79, 40, 42, 47], []), [some (.inr (.inl (79, 1))), some (.inl (0, 0, 0)), some (.inl (1, 0, 0))], [(1, (0, 54), .inr (.inl (40, 2))), (1, (0, 56), .inr (.inl (42, 3))), (1, (0, 61), .inr (.inl (47, 4)))]), [])])
theorem w03_h21 : rt_chk w03_K w03_X w03_W [w03_t20, w03_t19, w03_t16, w03_t18, w03_t11] w03_S 4000 w03_i21 = true := by decide +kernel
def w03_i22 : rt_It := (w03_t22, 0, [], [])
theorem w03_h22 : rt_chk w03_K w03_X w03_W [w03_t6] w03_S 4000 w03_i22 = true := by decide +kernel
def w03_i23 : rt_It := (w03_t23, 0, [false], [(42, (0, 0), (([((0, 5), (0, 0), none, none)], [79], []), [some (.inr (.inl (79, 1))), some (.inl (1, 0, 0)), none, none, none, none, none, none, none, none, none, none, none, none, none, none, none, none, none, none, none], []), [(1, 0, 0)])])
theorem w03_h23 : rt_chk w03_K w03_X w03_W [w03_t22] w03_S 4000 w03_i23 = true := by decide +kernel
def w03_i24 : rt_It := (w03_t24, 0, [], [(88, (18, 0), (([((0, 59), (0, 0), none, none)], [79, 40, 42, 47], []), [some (.inr (.inl (79, 1))), some (.inl (0, 1, 1)), some (.inl (1, 0, 0))], [(1, (0, 54), .inr (.inl (40, 2))), (1, (0, 56), .inr (.inl (42, 3))), (1, (0, 61), .inr (.inl (47, 4)))]), [])])
theorem w03_h24 : rt_chk w03_K w03_X w03_W [w03_t20, w03_t19, w03_t16, w03_t18, w03_t11] w03_S 4000 w03_i24 = true := by decide +kernel
def w03_i25 : rt_It := (w03_t25, 0, [], [(88, (19, 0), (([((0, 59), (0, 0), none, none)], [79, 40, 42, 47], []), [some (.inr (.inl (79, 1))), some (.inl (0, 2, 2)), some (.inl (1, 0, 0))], [(1, (0, 54), .inr (.inl (40, 2))), (1, (0, 56), .inr (.inl (42, 3))), (1, (0, 61), .inr (.inl (47, 4)))]), [])])
theorem w03_h25 : rt_chk w03_K w03_X w03_W [w03_t20, w03_t19, w03_t16, w03_t18, w03_t11] w03_S 4000 w03_i25 = true := by decide +kernel
def w03_i26 : rt_It := (w03_t26, 0, [], [(88, (20, 0), (([((0, 59), (0, 0), none, none)], [79, 40, 42, 47], []), [some (.inr (.inl (79, 1))), some (.inl (0, 3, 3)), some (.inl (1, 0, 0))], [(1, (0, 54), .inr (.inl (40, 2))), (1, (0, 56), .inr (.inl (42, 3))), (1, (0, 61), .inr (.inl (47, 4)))]), [])])
theorem w03_h26 : rt_chk w03_K w03_X w03_W [w03_t20, w03_t19, w03_t16, w03_t18, w03_t11] w03_S 4000 w03_i26 = true := by decide +kernel
def w03_i27 : rt_It := (w03_t27, 0, [], [(88, (21, 0), (([((0, 59), (0, 0), none, none)], [79, 40, 42, 47], []), [some (.inr (.inl (79, 1))), some (.inl (0, 4, 4)), some (.inl (1, 0, 0))], [(1, (0, 54), .inr (.inl (40, 2))), (1, (0, 56), .inr (.inl (42, 3))), (1, (0, 61), .inr (.inl (47, 4)))]), [])])
theorem w03_h27 : rt_chk w03_K w03_X w03_W [w03_t20, w03_t19, w03_t16, w03_t18, w03_t11] w03_S 4000 w03_i27 = true := by decide +kernel
def w03_i28 : rt_It := (w03_t28, 0, [true, false, true, false], [(2, (0, 0), (([((0, 3), (0, 0), none, none)], [79], []), [some (.inr (.inl (79, 1))), some (.inl (1, 0, 0)), none, none, none, none, none, none, none, none, none, none, none, none, none, none, none, none, none, none, none, none, none, none], []), [(0, 8, 8), (1, 0, 0), (0, 0, 0), (0, 0, 0)]),
  (132, (0, 0), (([((0, 6), (0, 0), none, none)], [79, 2], []), [some (.inr (.inl (79, 1))), some (.inl (1, 0, 0)), none, none, none, none, none, none, none, none, none, none, none, none, none, none, none, none, none, none, none, none, none, none], [(1, (0, 11), .inr (.inl (2, 2)))]), [(0, 7, 7), (1, 0, 0), (0, 0, 0), (0, 0, 0)]),
  (158, (0, 0), (([], [79, 2, 24], []), [some (.inr (.inl (79, 1))), some (.inl (0, 0, 0)), none, none, none, none, none, none, none, none, none, none, none, none, none, none, none, none, none, none, none, none, none, none], [(1, (0, 11), .inr (.inl (2, 2))), (1, (0, 33), .inr (.inl (24, 3)))]), [(0, 6, 6), (0, 0, 0), (0, 0, 0), (0, 0, 0)]),
  (189, (0, 0), (([((0, 5), (0, 0), none, none)], [79, 2, 3, 24], []), [some (.inr (.inl (79, 1))), some (.inl (1, 0, 0)), none, none, none, none, none, none, none, none, none, none, none, none, none, none, none, none, none, none, none, none, none, none], [(1, (0, 11), .inr (.inl (2, 2))), (1, (0, 12), .inr (.inl (3, 3))), (1, (0, 33), .inr (.inl (24, 4)))]), [(0, 0, 0), (1, 0, 0), (0, 1, 1), (0, 0, 0)]),
  (158, (0, 0), (([], [79, 2, 3, 24, 42], []), [some (.inr (.inl (79, 1))), some (.inl (0, 1, 1)), none, none, none, none, none, none, none, none, none, none, none, none, none, none, none, none, none, none, none, none, none, none], [(1, (0, 11), .inr (.inl (2, 2))), (1, (0, 12), .inr (.inl (3, 3))), (1, (0, 33), .inr (.inl (24, 4))), (1, (0, 56), .inr (.inl (42, 5)))]), [(0, 5, 5), (0, 0, 0), (0, 0, 0), (0, 0, 0)]),
  (199, (0, 0), (([((0, 4), (0, 0), none, none), ((0, 4), (0, 0), none, none)], [79, 2, 3, 24], []), [some (.inr (.inl (79, 1))), some (.inl (1, 0, 0)), some (.inl (2, 0, 0)), none, none, none, none, none, none, none, none, none, none, none, none, none, none, none, none, none, none, none, none, none], [(1, (0, 11), .inr (.inl (2, 2))), (1, (0, 12), .inr (.inl (3, 3))), (1, (0, 33), .inr (.inl (24, 4)))]), [(0, 0, 0), (1, 0, 0), (0, 0, 0), (2, 0, 0)]),
  (158, (0, 0), (([], [79, 2, 3, 24, 42], []), [some (.inr (.inl (79, 1))), some (.inl (0, 2, 2)), none, none, none, none, none, none, none, none, none, none, none, none, none, none, none, none, none, none, none, none, none, none], [(1, (0, 11), .inr (.inl (2, 2))), (1, (0, 12), .inr (.inl (3, 3))), (1, (0, 33), .inr (.inl (24, 4))), (1, (0, 56), .inr (.inl (42, 5)))]), [(0, 4, 4), (0, 0, 0), (0, 0, 0), (0, 0, 0)]),
  (158, (0, 0), (([], [79, 2, 3, 24, 42], []), [some (.inr (.inl (79, 1))), some (.inl (0, 3, 3)), none, none, none, none, none, none, none, none, none, none, none, none, none, none, none, none, none, none, none, none, none, none], [(1, (0, 11), .inr (.inl (2, 2))), (1, (0, 12), .inr (.inl (3, 3))), (1, (0, 33), .inr (.inl (24, 4))), (1, (0, 56), .inr (.inl (42, 5)))]), [(0, 3, 3), (0, 0, 0), (0, 0, 0), (0, 0, 0)]),
  (158, (0, 0), (([], [79, 2, 3, 24, 42], []), [some (.inr (.inl (79, 1))), some (.inl (0, 4, 4)), none, none, none, none, none, none, none, none, none, none, none, none, none, none, none, none, none, none, none, none, none, none], [(1, (0, 11), .inr (.inl (2, 2))), (1, (0, 12), .inr (.inl (3, 3))), (1, (0, 33), .inr (.inl (24, 4))), (1, (0, 56), .inr (.inl (42, 5)))]), [(0, 2, 2), (0, 0, 0), (0, 0, 0), (0, 0, 0)]),
  (158, (0, 0), (([], [79, 2, 3, 24, 42], []), [some (.inr (.inl (79, 1))), some (.inl (0, 5, 5)), none, none, none, none, none, none, none, none, none, none, none, none, none, none, none, none, none, none, none, none, none, none], [(1, (0, 11), .inr (.inl (2, 2))), (1, (0, 12), .inr (.inl (3, 3))), (1, (0, 33), .inr (.inl (24, 4))), (1, (0, 56), .inr (.inl (42, 5)))]), [(0, 1, 1), (0, 0, 0), (0, 0, 0), (0, 0, 0)])])
theorem w03_h28 : rt_chk w03_K w03_X w03_W [w03_t7, w03_t21, w03_t23, w03_t24, w03_t25, w03_t26, w03_t27, w03_t10, w03_t6, w03_t1] w03_S 4000 w03_i28 = true := by decide +kernel
def w03_i29 : rt_It := (w03_t29, 0, [false], [(27, (0, 0), (([((0, 500), (0, 0), none, none), ((0, 500), (0, 0), none, none)], [79], []), [some (.inr (.inl (79, 1))), some (.inl (1, 0, 0)), some (.inl (2, 0, 0)), none, none, none, none, none, none, none, none, none, none, none, none, none, none, none, none, none, none], []), [(2, 0, 0)])])
theorem w03_h29 : rt_chk w03_K w03_X w03_W [w03_t28, w03_t5] w03_S 4000 w03_i29 = true := by decide +kernel
def w03_i30 : rt_It := (w03_t30, 0, [], [])
theorem w03_h30 : rt_chk w03_K w03_X w03_W [] w03_S 4000 w03_i30 = true := by decide +kernel
def w03_i31 : rt_It := (w03_t31, 0, [], [])
theorem w03_h31 : rt_chk w03_K w03_X w03_W [] w03_S 4000 w03_i31 = true := by decide +kernel
def w03_i32 : rt_It := (w03_t32, 0, [], [])
theorem w03_h32 : rt_chk w03_K w03_X w03_W [w03_t1] w03_S 4000 w03_i32 = true := by decide +kernel
def w03_i33 : rt_It := (w03_t33, 0, [], [])
theorem w03_h33 : rt_chk w03_K w03_X w03_W [] w03_S 4000 w03_i33 = true := by decide +kernel
def w03_i34 : rt_It := (w03_t34, 0, [], [])
theorem w03_h34 : rt_chk w03_K w03_X w03_W [] w03_S 4000 w03_i34 = true := by decide +kernel
def w03_i35 : rt_It := (w03_t35, 0, [], [])
theorem w03_h35 : rt_chk w03_K w03_X w03_W [] w03_S 4000 w03_i35 = true := by decide +kernel
def w03_i36 : rt_It := (w03_t36, 0, [], [])
theorem w03_h36 : rt_chk w03_K w03_X w03_W [] w03_S 4000 w03_i36 = true := by decide +kernel
def w03_i37 : rt_It := (w03_t37, 0, [], [])
theorem w03_h37 : rt_chk w03_K w03_X w03_W [] w03_S 4000 w03_i37 = true := by decide +kernel
def w03_i38 : rt_It := (w03_t38, 0, [false], [(2, (3, 0), (([((0, 60), (0, 0), none, none)], [79], []), [some (.inr (.inl (79, 1))), some (.inl (0, 3, 3)), some (.inl (1, 0, 0)), none, none, none, none, none, none, none, none, none, none, none, none, none, none, none, none, none, none], []), [(1, 0, 0)])])
theorem w03_h38 : rt_chk w03_K w03_X w03_W [] w03_S 4000 w03_i38 = true := by decide +kernel
def w03_i39 : rt_It := (w03_t39, 0, [true, false], [(25, (3, 0), (([], [79, 64, 65], []), [some (.inr (.inl (79, 1))), some (.inl (0, 3, 3)), some (.inl (0, 60, 60)), none, none, none, none, none, none, none, none, none, none, none, none, none, none, none, none, none, none, none], [(1, (0, 98), .inr (.inl (64, 2))), (1, (0, 99), .inr (.inl (65, 3)))]), [(0, 3, 3), (0, 0, 0)]),
  (183, (3, 0), (([((0, 6), (0, 0), none, none)], [79, 64, 65], []), [some (.inr (.inl (79, 1))), some (.inl (0, 3, 3)), some (.inl (0, 60, 60)), some (.inl (1, 0, 0)), none, none, none, none, none, none, none, none, none, none, none, none, none, none, none, none, none, none], [(1, (0, 98), .inr (.inl (64, 2))), (1, (0, 99), .inr (.inl (65, 3)))]), [(0, 2, 2), (1, 0, 0)]),
  (231, (3, 0), (([((0, 5), (0, 0), none, none)], [79, 64, 65], []), [some (.inr (.inl (79, 1))), some (.inl (0, 3, 3)), some (.inl (0, 60, 60)), some (.inl (1, 0, 0)), none, none, none, none, none, none, none, none, none, none, none, none, none, none, none, none, none, none], [(1, (0, 98), .inr (.inl (64, 2))), (1, (0, 99), .inr (.inl (65, 3)))]), [(0, 1, 1), (1, 0, 0)]),
  (368, (3, 0), (([((0, 3), (0, 0), none, none)], [79, 64, 65], []), [some (.inr (.inl (79, 1))), some (.inl (0, 3, 3)), some (.inl (0, 60, 60)), some (.inl (1, 0, 0)), none, none, none, none, none, none, none, none, none, none, none, none, none, none, none, none, none, none], [(1, (0, 98), .inr (.inl (64, 2))), (1, (0, 99), .inr (.inl (65, 3)))]), [(0, 0, 0), (1, 0, 0)])])
theorem w03_h39 : rt_chk w03_K w03_X w03_W [w03_t38] w03_S 4000 w03_i39 = true := by decide +kernel
