def wX_i0 : rt_It := (wX_t0, 0, [true], [(3, (0, 0), (([(((-2147483648), 2147483647), (0, 0), none, none), (((-8), 24), (0, 0), none, none)], [0], []), [some (.inr (.inl (0, 1))), some (.inl (1, 0, 0)), some (.inl (2, 0, 0)), none, none, none, none, none, none, none, none, none, none, none, none, none, none, none, none, none, none], []), [(2, 0, 0)])])
theorem wX_h0 : rt_chk wX_K wX_X wX_W [] wX_S 3000 wX_i0 = true := by decide +kernel
def wX_i1 : rt_It := (wX_t1, 0, [], [])
theorem wX_h1 : rt_chk wX_K wX_X wX_W [wX_t0] wX_S 3000 wX_i1 = true := by decide +kernel
def wX_i2 : rt_It := (wX_t2, 0, [], [])
theorem wX_h2 : rt_chk wX_K wX_X wX_W [] wX_S 3000 wX_i2 = true := by decide +kernel
def wX_i3 : rt_It := (wX_t3, 0, [false], [(5, (0, 0), (([(((-1), 0), (0, 0), none, none), ((0, 60), (0, 0), none, none)], [19], []), [some (.inr (.inl (19, 1))), some (.inl (1, 0, 0)), some (.inl (2, 0, 0)), some (.inl (0, 60, 60)), none, none, none, none, none, none, none, none, none, none, none, none, none, none, none, none, none], []), [(2, 0, 0)])])
theorem wX_h3 : rt_chk wX_K wX_X wX_W [] wX_S 3000 wX_i3 = true := by decide +kernel
def wX_i4 : rt_It := (wX_t4, 0, [false], [(5, (0, 0), (([((0, 60), (0, 0), none, none)], [23], []), [some (.inr (.inl (23, 1))), some (.inl (0, (-1), (-1))), some (.inl (1, 0, 0)), some (.inl (0, 60, 60)), none, none, none, none, none, none, none, none, none, none, none, none, none, none, none, none, none], []), [(1, 0, 0)])])
theorem wX_h4 : rt_chk wX_K wX_X wX_W [] wX_S 3000 wX_i4 = true := by decide +kernel
def wX_i5 : rt_It := (wX_t5, 0, [false], [(5, (0, 0), (([((0, 5), (0, 0), none, none)], [24], []), [some (.inr (.inl (24, 1))), some (.inl (0, 0, 0)), some (.inl (1, 0, 0)), some (.inl (0, 5, 5)), none, none, none, none, none, none, none, none, none, none, none, none, none, none, none, none, none], []), [(1, 0, 0)])])
theorem wX_h5 : rt_chk wX_K wX_X wX_W [] wX_S 3000 wX_i5 = true := by decide +kernel
def wX_i6 : rt_It := (wX_t6, 0, [false], [(60, (0, 0), (([((0, 4), (0, 0), none, none)], [3, 19, 19], []), [some (.inr (.inl (3, 1))), some (.inl (1, 0, 0)), none, none, none, none, none, none, none, none, none, none, none, none, none, none, none, none, none, none, none], [(1, (0, 2), .inr (.inl (19, 2))), (1, (0, 4), .inr (.inl (19, 3)))]), [(1, 0, 0)])])
theorem wX_h6 : rt_chk wX_K wX_X wX_W [wX_t4, wX_t5, wX_t3] wX_S 3000 wX_i6 = true := by decide +kernel
def wX_i7 : rt_It := (wX_t7, 0, [false], [(5, (0, 0), (([((0, 6), (0, 0), none, none)], [22], []), [some (.inr (.inl (22, 1))), some (.inl (0, 0, 0)), some (.inl (1, 0, 0)), some (.inl (0, 6, 6)), none, none, none, none, none, none, none, none, none, none, none, none, none, none, none, none, none], []), [(1, 0, 0)])])
theorem wX_h7 : rt_chk wX_K wX_X wX_W [] wX_S 3000 wX_i7 = true := by decide +kernel
def wX_i8 : rt_It := (wX_t8, 0, [false], [(5, (0, 0), (([((0, 8), (0, 0), none, none)], [28], []), [some (.inr (.inl (28, 1))), some (.inl (0, 0, 0)), some (.inl (1, 0, 0)), some (.inl (0, 8, 8)), none, none, none, none, none, none, none, none, none, none, none, none, none, none, none, none, none], []), [(1, 0, 0)])])
theorem wX_h8 : rt_chk wX_K wX_X wX_W [] wX_S 3000 wX_i8 = true := by decide +kernel
def wX_i9 : rt_It := (wX_t9, 0, [true, false], [(32, (0, 0), (([((0, 5), (0, 0), none, none)], [6, 3], []), [some (.inr (.inl (6, 1))), some (.inr (.inl (3, 2))), some (.inl (1, 0, 0)), none, none, none, none, none, none, none, none, none, none, none, none, none, none, none, none, none, none, none], []), [(0, 1, 1), (1, 0, 0)]),
  (60, (0, 0), (([((0, 3), (0, 0), none, none)], [6, 3], []), [some (.inr (.inl (6, 1))), some (.inr (.inl (3, 2))), some (.inl (1, 0, 0)), none, none, none, none, none, none, none, none, none, none, none, none, none, none, none, none, none, none, none], []), [(0, 0, 0), (1, 0, 0)])])
theorem wX_h9 : rt_chk wX_K wX_X wX_W [wX_t7, wX_t8] wX_S 3000 wX_i9 = true := by decide +kernel
def wX_i10 : rt_It := (wX_t10, 0, [false], [(16, (5, 0), (([((0, 1599), (0, 0), none, none)], [2, 12], []), [some (.inr (.inl (2, 1))), none, none, none, none, none, none, none, none, none, none, none, none, none, none, none, none, none, none, none, none], [(1, (0, 0), .inr (.inl (12, 2))), (1, (0, 2), .inl (1, 0, 0))]), [(1, 0, 0)])])
theorem wX_h10 : rt_chk wX_K wX_X wX_W [] wX_S 3000 wX_i10 = true := by decide +kernel
def wX_i11 : rt_It := (wX_t11, 0, [false], [(16, (5, 0), (([((0, 1599), (0, 0), none, none)], [2, 12], []), [some (.inr (.inl (2, 1))), none, none, none, none, none, none, none, none, none, none, none, none, none, none, none, none, none, none, none, none], [(1, (0, 0), .inr (.inl (12, 2))), (1, (0, 2), .inl (1, 0, 0))]), [(1, 0, 0)])])
theorem wX_h11 : rt_chk wX_K wX_X wX_W [] wX_S 3000 wX_i11 = true := by decide +kernel
def wX_i12 : rt_It := (wX_t12, 0, [false], [(7, (5, 0), (([(((-2147483648), 2147483647), (0, 0), none, none), ((0, 200), (0, 0), none, none)], [], []), [some (.inr (.inr (some 0))), none, some (.inl (1, 0, 0)), some (.inr (.inr (some 0))), none, some (.inl (2, 0, 0)), none, none, none, none, none, none, none, none, none, none, none, none, none, none, none], []), [(2, 0, 0)])])
theorem wX_h12 : rt_chk wX_K wX_X wX_W [] wX_S 3000 wX_i12 = true := by decide +kernel
def wX_i13 : rt_It := (wX_t13, 0, [false], [(11, (5, 0), (([((0, 1599), (0, 0), none, none)], [2, 12], []), [some (.inr (.inl (2, 1))), none, none, none, none, none, none, none, none, none, none, none, none, none, none, none, none, none, none, none, none], [(1, (0, 0), .inr (.inl (12, 2))), (1, (0, 2), .inl (1, 0, 0))]), [(1, 0, 0)])])
theorem wX_h13 : rt_chk wX_K wX_X wX_W [wX_t10, wX_t11, wX_t12] wX_S 3000 wX_i13 = true := by decide +kernel
def wX_i14 : rt_It := (wX_t14, 1, [], [])
theorem wX_h14 : rt_chk wX_K wX_X wX_W [wX_t13] wX_S 3000 wX_i14 = true := by decide +kernel
def wX_i15 : rt_It := (wX_t15, 0, [], [])
theorem wX_h15 : rt_chk wX_K wX_X wX_W [] wX_S 3000 wX_i15 = true := by decide +kernel
def wX_i16 : rt_It := (wX_t16, 0, [], [])
theorem wX_h16 : rt_chk wX_K wX_X wX_W [] wX_S 3000 wX_i16 = true := by decide +kernel
def wX_i17 : rt_It := (wX_t17, 0, [], [])
theorem wX_h17 : rt_chk wX_K wX_X wX_W [wX_t16] wX_S 3000 wX_i17 = true := by decide +kernel
def wX_i18 : rt_It := (wX_t18, 0, [false], [(2, (5, 0), (([((0, 3), (0, 0), none, none), ((0, 3), (0, 0), none, none)], [1, 15, 2, 3, 12], []), [some (.inr (.inl (1, 1))), some (.inr (.inl (15, 2))), some (.inl (1, 0, 0)), some (.inl (2, 0, 0)), none, none, none, none, none, none, none, none, none, none, none, none, none, none, none, none, none], [(1, (0, 0), .inr (.inl (2, 3))), (1, (0, 1), .inr (.inl (3, 4))), (3, (0, 0), .inr (.inl (12, 5)))]), [(2, 0, 0)])])
theorem wX_h18 : rt_chk wX_K wX_X wX_W [] wX_S 3000 wX_i18 = true := by decide +kernel
def wX_i19 : rt_It := (wX_t19, 0, [], [])
theorem wX_h19 : rt_chk wX_K wX_X wX_W [wX_t18, wX_t17, wX_t13] wX_S 3000 wX_i19 = true := by decide +kernel
def wX_i20 : rt_It := (wX_t20, 0, [], [])
theorem wX_h20 : rt_chk wX_K wX_X wX_W [wX_t13] wX_S 3000 wX_i20 = true := by decide +kernel
def wX_i21 : rt_It := (wX_t21, 0, [], [])
theorem wX_h21 : rt_chk wX_K wX_X wX_W [wX_t17, wX_t13] wX_S 3000 wX_i21 = true := by decide +kernel
def wX_i22 : rt_It := (wX_t22, 0, [], [])
theorem wX_h22 : rt_chk wX_K wX_X wX_W [wX_t17] wX_S 3000 wX_i22 = true := by decide +kernel
def wX_i23 : rt_It := (wX_t23, 0, [], [])
theorem wX_h23 : rt_chk wX_K wX_X wX_W [wX_t22, wX_t13] wX_S 3000 wX_i23 = true := by decide +kernel
def wX_i24 : rt_It := (wX_t24, 0, [], [])
theorem wX_h24 : rt_chk wX_K wX_X wX_W [wX_t23, wX_t21] wX_S 3000 wX_i24 = true := by decide +kernel
def wX_i25 : rt_It := (wX_t25, 0, [], [])
theorem wX_h25 : rt_chk wX_K wX_X wX_W [wX_t17] wX_S 3000 wX_i25 = true := by decide +kernel
