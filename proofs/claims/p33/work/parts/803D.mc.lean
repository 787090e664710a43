def w03_i83 : rt_It := (w03_t83, 0, [true, false], [(183, (13, 0), (([((0, 6), (0, 0), none, none)], [79, 64, 65], []), [some (.inr (.inl (79, 1))), some (.inl (0, 2, 2)), some (.inl (0, 40, 40)), some (.inl (1, 0, 0)), none, none, none, none, none, none, none, none, none, none, none, none, none, none, none, none, none, none], [(1, (0, 98), .inr (.inl (64, 2))), (1, (0, 99), .inr (.inl (65, 3)))]), [(0, 2, 2), (1, 0, 0)]),
  (231, (13, 0), (([((0, 5), (0, 0), none, none)], [79, 64, 65], []), [some (.inr (.inl (79, 1))), some (.inl (0, 2, 2)), some (.inl (0, 40, 40)), some (.inl (1, 0, 0)), none, none, none, none, none, none, none, none, none, none, none, none, none, none, none, none, none, none], [(1, (0, 98), .inr (.inl (64, 2))), (1, (0, 99), .inr (.inl (65, 3)))]), [(0, 1, 1), (1, 0, 0)]),
  (368, (13, 0), (([((0, 3), (0, 0), none, none)], [79, 64, 65], []), [some (.inr (.inl (79, 1))), some (.inl (0, 2, 2)), some (.inl (0, 40, 40)), some (.inl (1, 0, 0)), none, none, none, none, none, none, none, none, none, none, none, none, none, none, none, none, none, none], [(1, (0, 98), .inr (.inl (64, 2))), (1, (0, 99), .inr (.inl (65, 3)))]), [(0, 0, 0), (1, 0, 0)])])
theorem w03_h83 : rt_chk w03_K w03_X w03_W [w03_t82] w03_S 4000 w03_i83 = true := by decide +kernel
def w03_i84 : rt_It := (w03_t84, 0, [], [])
theorem w03_h84 : rt_chk w03_K w03_X w03_W [w03_t83] w03_S 4000 w03_i84 = true := by decide +kernel
def w03_i85 : rt_It := (w03_t85, 0, [], [])
theorem w03_h85 : rt_chk w03_K w03_X w03_W [] w03_S 4000 w03_i85 = true := by decide +kernel
def w03_i86 : rt_It := (w03_t86, 0, [], [])
theorem w03_h86 : rt_chk w03_K w03_X w03_W [] w03_S 4000 w03_i86 = true := by decide +kernel
def w03_i87 : rt_It := (w03_t87, 0, [], [])
theorem w03_h87 : rt_chk w03_K w03_X w03_W [] w03_S 4000 w03_i87 = true := by decide +kernel
def w03_i88 : rt_It := (w03_t88, 0, [], [])
theorem w03_h88 : rt_chk w03_K w03_X w03_W [] w03_S 4000 w03_i88 = true := by decide +kernel
def w03_i89 : rt_It := (w03_t89, 0, [], [])
theorem w03_h89 : rt_chk w03_K w03_X w03_W [] w03_S 4000 w03_i89 = true := by decide +kernel
def w03_i90 : rt_It := (w03_t90, 0, [], [])
theorem w03_h90 : rt_chk w03_K w03_X w03_W [] w03_S 4000 w03_i90 = true := by decide +kernel
def w03_i91 : rt_It := (w03_t91, 0, [], [])
theorem w03_h91 : rt_chk w03_K w03_X w03_W [] w03_S 4000 w03_i91 = true := by decide +kernel
def w03_i92 : rt_It := (w03_t92, 0, [false], [(18, (22, 0), (([(((-2147483648), 2147483647), (0, 0), none, none), (((-2147483648), 2147483647), (0, 0), none, none), (((-2147483648), 2147483647), (0, 0), none, none), (((-2147483648), 2147483647), (0, 0), none, none), (((-2147483648), 2147483647), (0, 0), none, none), ((0, 20), (0, 0), none, none), ((0, 1580), (0, 0), none, none)], [79], []), [some (.inr (.inl (79, 1))), some (.inl (1, 0, 0)), some (.inl (2, 0, 0)), some (.inl (3, 0, 0)), some (.inl (4, 0, 0)), some (.inl (5, 0, 0)), some (.inl (6, 0, 0)), none, none, none, none, none, none, none, none, none, none, none, none, none, none], [(1, (0, 2), .inl (7, 0, 0))]), [(6, 0, 0)])])
theorem w03_h92 : rt_chk w03_K w03_X w03_W [] w03_S 4000 w03_i92 = true := by decide +kernel
def w03_i93 : rt_It := (w03_t93, 0, [], [])
theorem w03_h93 : rt_chk w03_K w03_X w03_W [] w03_S 4000 w03_i93 = true := by decide +kernel
def w03_i94 : rt_It := (w03_t94, 1, [], [])
theorem w03_h94 : rt_chk w03_K w03_X w03_W [] w03_S 4000 w03_i94 = true := by decide +kernel
def w03_i95 : rt_It := (w03_t95, 1, [], [])
theorem w03_h95 : rt_chk w03_K w03_X w03_W [w03_t94] w03_S 4000 w03_i95 = true := by decide +kernel
def w03_i96 : rt_It := (w03_t96, 0, [], [])
theorem w03_h96 : rt_chk w03_K w03_X w03_W [] w03_S 4000 w03_i96 = true := by decide +kernel
def w03_i99 : rt_It := (w03_t99, 0, [false], [(24, (36, 0), (([((0, 2), (0, 0), none, none), ((0, 2), (0, 0), none, none)], [79, 12], []), [some (.inr (.inl (79, 1))), some (.inr (.inl (12, 2))), some (.inl (0, 3, 3)), some (.inl (1, 0, 0)), some (.inl (2, 0, 0)), none, none, none, none, none, none, none, none, none, none, none, none, none, none, none, none], []), [(2, 0, 0)])])
theorem w03_h99 : rt_chk w03_K w03_X w03_W [w03_t95, w03_t98, w03_t94] w03_S 4000 w03_i99 = true := by decide +kernel
def w03_i100 : rt_It := (w03_t100, 0, [], [])
theorem w03_h100 : rt_chk w03_K w03_X w03_W [w03_t98, w03_t95] w03_S 4000 w03_i100 = true := by decide +kernel
def w03_i101 : rt_It := (w03_t101, 0, [], [])
theorem w03_h101 : rt_chk w03_K w03_X w03_W [w03_t97, w03_t95, w03_t94] w03_S 4000 w03_i101 = true := by decide +kernel
def w03_i102 : rt_It := (w03_t102, 0, [], [])
theorem w03_h102 : rt_chk w03_K w03_X w03_W [w03_t101, w03_t100] w03_S 4000 w03_i102 = true := by decide +kernel
def w03_i103 : rt_It := (w03_t103, 0, [], [])
theorem w03_h103 : rt_chk w03_K w03_X w03_W [w03_t97, w03_t95, w03_t94] w03_S 4000 w03_i103 = true := by decide +kernel
def w03_i104 : rt_It := (w03_t104, 0, [], [])
theorem w03_h104 : rt_chk w03_K w03_X w03_W [w03_t97, w03_t95, w03_t94] w03_S 4000 w03_i104 = true := by decide +kernel
def w03_i105 : rt_It := (w03_t105, 0, [], [])
theorem w03_h105 : rt_chk w03_K w03_X w03_W [w03_t104, w03_t100] w03_S 4000 w03_i105 = true := by decide +kernel
def w03_i106 : rt_It := (w03_t106, 0, [], [])
theorem w03_h106 : rt_chk w03_K w03_X w03_W [w03_t97, w03_t95, w03_t94] w03_S 4000 w03_i106 = true := by decide +kernel
def w03_i107 : rt_It := (w03_t107, 0, [], [])
theorem w03_h107 : rt_chk w03_K w03_X w03_W [w03_t106, w03_t100] w03_S 4000 w03_i107 = true := by decide +kernel
def w03_i108 : rt_It := (w03_t108, 0, [], [])
theorem w03_h108 : rt_chk w03_K w03_X w03_W [w03_t97, w03_t95, w03_t94] w03_S 4000 w03_i108 = true := by decide +kernel
def w03_i109 : rt_It := (w03_t109, 0, [], [])
theorem w03_h109 : rt_chk w03_K w03_X w03_W [w03_t108, w03_t100] w03_S 4000 w03_i109 = true := by decide +kernel
def w03_i110 : rt_It := (w03_t110, 0, [], [])
theorem w03_h110 : rt_chk w03_K w03_X w03_W [w03_t97, w03_t95, w03_t94] w03_S 4000 w03_i110 = true := by decide +kernel
def w03_i111 : rt_It := (w03_t111, 0, [], [])
theorem w03_h111 : rt_chk w03_K w03_X w03_W [w03_t97, w03_t95, w03_t94] w03_S 4000 w03_i111 = true := by decide +kernel
def w03_i112 : rt_It := (w03_t112, 0, [], [])
theorem w03_h112 : rt_chk w03_K w03_X w03_W [w03_t97, w03_t95, w03_t94] w03_S 4000 w03_i112 = true := by decide +kernel
def w03_i113 : rt_It := (w03_t113, 0, [true, false], [(80, (23, 0), (([((2, 2), (0, 0), none, none)], [79, 2, 12, 14, 15], []), [some (.inr (.inl (79, 1))), some (.inl (0, 5, 5)), none, none, none, none, none, none, none, none, none, none, none, none, none, none, none, none, none, none, none, none], [(1, (0, 11), .inr (.inl (2, 2))), (1, (0, 21), .inr (.inl (12, 3))), (1, (0, 23), .inr (.inl (14, 4))), (1, (0, 24), .inr (.inl (15, 5))), (2, (0, 1), .inl (1, 0, 0))]), [(0, 3, 3), (0, 0, 0)]),
  (80, (23, 0), (([((1, 1), (0, 0), none, none)], [79, 2, 12, 14, 15], []), [some (.inr (.inl (79, 1))), some (.inl (0, 4, 4)), none, none, none, none, none, none, none, none, none, none, none, none, none, none, none, none, none, none, none, none], [(1, (0, 11), .inr (.inl (2, 2))), (1, (0, 21), .inr (.inl (12, 3))), (1, (0, 23), .inr (.inl (14, 4))), (1, (0, 24), .inr (.inl (15, 5))), (2, (0, 1), .inl (1, 0, 0))]), [(0, 7, 7), (0, 0, 0)]),
  (80, (23, 0), (([((0, 0), (0, 0), none, none)], [79, 2, 12, 14, 15], []), [some (.inr (.inl (79, 1))), some (.inl (0, 3, 3)), none, none, none, none, none, none, none, none, none, none, none, none, none, none, none, none, none, none, none, none], [(1, (0, 11), .inr (.inl (2, 2))), (1, (0, 21), .inr (.inl (12, 3))), (1, (0, 23), .inr (.inl (14, 4))), (1, (0, 24), .inr (.inl (15, 5))), (2, (0, 1), .inl (1, 0, 0))]), [(0, 11, 11), (0, 0, 0)]),
  (189, (23, 0), (([((0, 1600), (0, 0), none, none), ((9, 258), (0, 0), none, none), ((0, 59), (0, 0), none, none), ((2, 2), (0, 0), none, none)], [79, 2, 12, 14, 15, 16], []), [some (.inr (.inl (79, 1))), some (.inl (0, 5, 5)), some (.inl (1, 0, 0)), some (.inl (2, 0, 0)), some (.inl (0, 0, 0)), some (.inl (3, 0, 0)), none, none, none, none, none, none, none, none, none, none, none, none, none, none, none, none], [(1, (0, 6), .inl (1, 0, 0)), (1, (0, 11), .inr (.inl (2, 2))), (1, (0, 21), .inr (.inl (12, 3))), (1, (0, 23), .inr (.inl (14, 4))), (1, (0, 24), .inr (.inl (15, 5))), (1, (0, 25), .inr (.inl (16, 6))), (2, (0, 1), .inl (4, 0, 0)), (6, (0, 5), .inl (3, 0, 0))]), [(0, 2, 2), (0, 0, 0)]),
  (189, (23, 0), (([((0, 1600), (0, 0), none, none), ((9, 258), (0, 0), none, none), ((0, 60), (0, 0), none, none), ((0, 59), (0, 0), none, none), ((2, 2), (0, 0), none, none)], [79, 2, 12, 14, 15, 16], []), [some (.inr (.inl (79, 1))), some (.inl (0, 5, 5)), some (.inl (1, 0, 0)), some (.inl (2, 0, 0)), some (.inl (0, 1, 1)), some (.inl (3, 0, 0)), none, none, none, none, none, none, none, none, none, none, none, none, none, none, none, none], [(1, (0, 6), .inl (1, 0, 0)), (1, (0, 9), .inl (4, 0, 0)), (1, (0, 11), .inr (.inl (2, 2))), (1, (0, 21), .inr (.inl (12, 3))), (1, (0, 23), .inr (.inl (14, 4))), (1, (0, 24), .inr (.inl (15, 5))), (1, (0, 25), .inr (.inl (16, 6))), (2, (0, 1), .inl (5, 0, 0))]), [(0, 1, 1), (3, 0, 0)]),
  (189, (23, 0), (([((0, 1600), (0, 0), none, none), ((9, 258), (0, 0), none, none), ((0, 59), (0, 0), none, none), ((1, 1), (0, 0), none, none)], [79, 2, 12, 14, 15, 16], []), [some (.inr (.inl (79, 1))), some (.inl (0, 4, 4)), some (.inl (1, 0, 0)), some (.inl (2, 0, 0)), some (.inl (0, 0, 0)), some (.inl (3, 0, 0)), none, none, none, none, none, none, none, none, none, none, none, none, none, none, none, none], [(1, (0, 6), .inl (1, 0, 0)), (1, (0, 11), .inr (.inl (2, 2))), (1, (0, 21), .inr (.inl (12, 3))), (1, (0, 23), .inr (.inl (14, 4))), (1, (0, 24), .inr (.inl (15, 5))), (1, (0, 25), .inr (.inl (16, 6))), (2, (0, 1), .inl (4, 0, 0)), (6, (0, 4), .inl (3, 0, 0))]), [(0, 6, 6), (0, 0, 0)]),
  (189, (23, 0), (([((0, 1600), (0, 0), none, none), ((9, 258), (0, 0), none, none), ((0, 60), (0, 0), none, none), ((0, 59), (0, 0), none, none), ((1, 1), (0, 0), none, none)], [79, 2, 12, 14, 15, 16], []), [some (.inr (.inl (79, 1))), some (.inl (0, 4, 4)), some (.inl (1, 0, 0)), some (.inl (2, 0, 0)), some (.inl (0, 1, 1)), some (.inl (3, 0, 0)), none, none, none, none, none, none, none, none, none, none, none, none, none, none, none, none], [(1, (0, 6), .inl (1, 0, 0)), (1, (0, 9), .inl (4, 0, 0)), (1, (0, 11), .inr (.inl (2, 2))), (1, (0, 21), .inr (.inl (12, 3))), (1, (0, 23), .inr (.inl (14, 4))), (1, (0, 24), .inr (.inl (15, 5))), (1, (0, 25), .inr (.inl (16, 6))), (2, (0, 1), .inl (5, 0, 0))]), [(0, 5, 5), (3, 0, 0)]),
  (189, (23, 0), (([((0, 1600), (0, 0), none, none), ((9, 258), (0, 0), none, none), ((0, 59), (0, 0), none, none), ((0, 0), (0, 0), none, none)], [79, 2, 12, 14, 15, 16], []), [some (.inr (.inl (79, 1))), some (.inl (0, 3, 3)), some (.inl (1, 0, 0)), some (.inl (2, 0, 0)), some (.inl (0, 0, 0)), some (.inl (3, 0, 0)), none, none, none, none, none, none, none, none, none, none, none, none, none, none, none, none], [(1, (0, 6), .inl (1, 0, 0)), (1, (0, 11), .inr (.inl (2, 2))), (1, (0, 21), .inr (.inl (12, 3))), (1, (0, 23), .inr (.inl (14, 4))), (1, (0, 24), .inr (.inl (15, 5))), (1, (0, 25), .inr (.inl (16, 6))), (2, (0, 1), .inl (4, 0, 0)), (6, (0, 3), .inl (3, 0, 0))]), [(0, 10, 10), (0, 0, 0)]),
  (189, (23, 0), (([((0, 1600), (0, 0), none, none), ((9, 258), (0, 0), none, none), ((0, 60), (0, 0), none, none), ((0, 59), (0, 0), none, none), ((0, 0), (0, 0), none, none)], [79, 2, 12, 14, 15, 16], []), [some (.inr (.inl (79, 1))), some (.inl (0, 3, 3)), some (.inl (1, 0, 0)), some (.inl (2, 0, 0)), some (.inl (0, 1, 1)), some (.inl (3, 0, 0)), none, none, none, none, none, none, none, none, none, none, none, none, none, none, none, none], [(1, (0, 6), .inl (1, 0, 0)), (1, (0, 9), .inl (4, 0, 0)), (1, (0, 11), .inr (.inl (2, 2))), (1, (0, 21), .inr (.inl (12, 3))), (1, (0, 23), .inr (.inl (14, 4))), (1, (0, 24), .inr (.inl (15, 5))), (1, (0, 25), .inr (.inl (16, 6))), (2, (0, 1), .inl (5, 0, 0))]), [(0, 9, 9), (3, 0, 0)]),
  (287, (23, 0), (([((0, 1600), (0, 0), none, none), ((9, 258), (0, 0), none, none), ((0, 1), (0, 0), none, none), ((0, 60), (0, 0), none, none), ((2, 2), (0, 0), none, none)], [79, 2, 12, 14, 15, 16, 17, 18], []), [some (.inr (.inl (79, 1))), some (.inl (0, 5, 5)), some (.inl (1, 0, 0)), some (.inl (2, 0, 0)), some (.inl (3, 0, 0)), some (.inl (4, 0, 0)), none, none, none, none, none, none, none, none, none, none, none, none, none, none, none, none], [(1, (0, 11), .inr (.inl (2, 2))), (1, (0, 21), .inr (.inl (12, 3))), (1, (0, 23), .inr (.inl (14, 4))), (1, (0, 24), .inr (.inl (15, 5))), (1, (0, 25), .inr (.inl (16, 6))), (1, (0, 26), .inr (.inl (17, 7))), (1, (0, 27), .inr (.inl (18, 8))), (2, (0, 1), .inl (5, 0, 0))]), [(0, 0, 0), (4, 0, 0)]),
  (287, (23, 0), (([((0, 1600), (0, 0), none, none), ((9, 258), (0, 0), none, none), ((0, 1), (0, 0), none, none), ((0, 60), (0, 0), none, none), ((1, 1), (0, 0), none, none)], [79, 2, 12, 14, 15, 16, 17, 18], []), [some (.inr (.inl (79, 1))), some (.inl (0, 4, 4)), some (.inl (1, 0, 0)), some (.inl (2, 0, 0)), some (.inl (3, 0, 0)), some (.inl (4, 0, 0)), none, none, none, none, none, none, none, none, none, none, none, none, none, none, none, none], [(1, (0, 11), .inr (.inl (2, 2))), (1, (0, 21), .inr (.inl (12, 3))), (1, (0, 23), .inr (.inl (14, 4))), (1, (0, 24), .inr (.inl (15, 5))), (1, (0, 25), .inr (.inl (16, 6))), (1, (0, 26), .inr (.inl (17, 7))), (1, (0, 27), .inr (.inl (18, 8))), (2, (0, 1), .inl (5, 0, 0))]), [(0, 4, 4), (4, 0, 0)]),
  (287, (23, 0), (([((0, 1600), (0, 0), none, none), ((9, 258), (0, 0), none, none), ((0, 1), (0, 0), none, none), ((0, 60), (0, 0), none, none), ((0, 0), (0, 0), none, none)], [79, 2, 12, 14, 15, 16, 17, 18], []), [some (.inr (.inl (79, 1))), some (.inl (0, 3, 3)), some (.inl (1, 0, 0)), some (.inl (2, 0, 0)), some (.inl (3, 0, 0)), some (.inl (4, 0, 0)), none, none, none, none, none, none, none, none, none, none, none, none, none, none, none, none], [(1, (0, 11), .inr (.inl (2, 2))), (1, (0, 21), .inr (.inl (12, 3))), (1, (0, 23), .inr (.inl (14, 4))), (1, (0, 24), .inr (.inl (15, 5))), (1, (0, 25), .inr (.inl (16, 6))), (1, (0, 26), .inr (.inl (17, 7))), (1, (0, 27), .inr (.inl (18, 8))), (2, (0, 1), .inl (5, 0, 0))]), [(0, 8, 8), (4, 0, 0)])])
theorem w03_h113 : rt_chk w03_K w03_X w03_W [w03_t102, w03_t107, w03_t105, w03_t109, w03_t100, w03_t99, w03_t103, w03_t110, w03_t94] w03_S 4000 w03_i113 = true := by decide +kernel
def w03_i115 : rt_It := (w03_t115, 0, [], [])
theorem w03_h115 : rt_chk w03_K w03_X w03_W [w03_t97, w03_t95, w03_t94] w03_S 4000 w03_i115 = true := by decide +kernel
def w03_i116 : rt_It := (w03_t116, 0, [false], [(24, (36, 0), (([((0, 5), (0, 0), none, none), ((0, 5), (0, 0), none, none)], [79, 34], []), [some (.inr (.inl (79, 1))), some (.inr (.inl (34, 2))), some (.inl (0, 6, 6)), some (.inl (1, 0, 0)), some (.inl (2, 0, 0)), none, none, none, none, none, none, none, none, none, none, none, none, none, none, none, none], []), [(2, 0, 0)])])
theorem w03_h116 : rt_chk w03_K w03_X w03_W [w03_t95, w03_t98, w03_t94] w03_S 4000 w03_i116 = true := by decide +kernel
def w03_i117 : rt_It := (w03_t117, 0, [false], [(2, (24, 0), (([((0, 3), (0, 0), none, none)], [79], []), [some (.inr (.inl (79, 1))), some (.inl (1, 0, 0)), none, none, none, none, none, none, none, none, none, none, none, none, none, none, none, none, none, none, none], []), [(1, 0, 0)])])
theorem w03_h117 : rt_chk w03_K w03_X w03_W [] w03_S 4000 w03_i117 = true := by decide +kernel
def w03_i118 : rt_It := (w03_t118, 0, [], [])
theorem w03_h118 : rt_chk w03_K w03_X w03_W [w03_t97, w03_t95, w03_t94] w03_S 4000 w03_i118 = true := by decide +kernel
def w03_i119 : rt_It := (w03_t119, 0, [], [])
theorem w03_h119 : rt_chk w03_K w03_X w03_W [w03_t100, w03_t118] w03_S 4000 w03_i119 = true := by decide +kernel
def w03_i120 : rt_It := (w03_t120, 0, [], [])
theorem w03_h120 : rt_chk w03_K w03_X w03_W [w03_t97, w03_t117, w03_t95, w03_t109, w03_t100, w03_t116, w03_t94, w03_t119] w03_S 4000 w03_i120 = true := by decide +kernel
