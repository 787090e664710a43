def w00_i97 : rt_It := (w00_t97, 0, [], [(24, (36, 0), (([], [79, 12], []), [some (.inr (.inl (79, 1))), some (.inr (.inl (12, 2))), some (.inl (0, 3, 3)), some (.inl (0, 0, 0)), some (.inl (0, 0, 0)), none], []), [])])
theorem w00_h97 : rt_chk w00_K w00_X w00_W [w00_t93, w00_t96] w00_S 4000 w00_i97 = true := by decide +kernel
def w00_i98 : rt_It := (w00_t98, 0, [], [])
theorem w00_h98 : rt_chk w00_K w00_X w00_W [w00_t96, w00_t93] w00_S 4000 w00_i98 = true := by decide +kernel
def w00_i99 : rt_It := (w00_t99, 0, [], [])
theorem w00_h99 : rt_chk w00_K w00_X w00_W [w00_t95, w00_t93, w00_t92] w00_S 4000 w00_i99 = true := by decide +kernel
def w00_i100 : rt_It := (w00_t100, 0, [], [])
theorem w00_h100 : rt_chk w00_K w00_X w00_W [w00_t99, w00_t98] w00_S 4000 w00_i100 = true := by decide +kernel
def w00_i101 : rt_It := (w00_t101, 0, [], [])
theorem w00_h101 : rt_chk w00_K w00_X w00_W [w00_t95, w00_t93, w00_t92] w00_S 4000 w00_i101 = true := by decide +kernel
def w00_i102 : rt_It := (w00_t102, 0, [], [])
theorem w00_h102 : rt_chk w00_K w00_X w00_W [w00_t95, w00_t93, w00_t92] w00_S 4000 w00_i102 = true := by decide +kernel
def w00_i103 : rt_It := (w00_t103, 0, [], [])
theorem w00_h103 : rt_chk w00_K w00_X w00_W [w00_t102, w00_t98] w00_S 4000 w00_i103 = true := by decide +kernel
def w00_i104 : rt_It := (w00_t104, 0, [], [])
theorem w00_h104 : rt_chk w00_K w00_X w00_W [w00_t95, w00_t93, w00_t92] w00_S 4000 w00_i104 = true := by decide +kernel
def w00_i105 : rt_It := (w00_t105, 0, [], [])
theorem w00_h105 : rt_chk w00_K w00_X w00_W [w00_t104, w00_t98] w00_S 4000 w00_i105 = true := by decide +kernel
def w00_i106 : rt_It := (w00_t106, 0, [], [])
theorem w00_h106 : rt_chk w00_K w00_X w00_W [w00_t95, w00_t93, w00_t92] w00_S 4000 w00_i106 = true := by decide +kernel
def w00_i107 : rt_It := (w00_t107, 0, [], [])
theorem w00_h107 : rt_chk w00_K w00_X w00_W [w00_t106, w00_t98] w00_S 4000 w00_i107 = true := by decide +kernel
def w00_i108 : rt_It := (w00_t108, 0, [], [])
theorem w00_h108 : rt_chk w00_K w00_X w00_W [w00_t95, w00_t93, w00_t92] w00_S 4000 w00_i108 = true := by decide +kernel
def w00_i109 : rt_It := (w00_t109, 0, [], [])
theorem w00_h109 : rt_chk w00_K w00_X w00_W [w00_t95, w00_t93, w00_t92] w00_S 4000 w00_i109 = true := by decide +kernel
def w00_i110 : rt_It := (w00_t110, 0, [], [])
theorem w00_h110 : rt_chk w00_K w00_X w00_W [w00_t95, w00_t93, w00_t92] w00_S 4000 w00_i110 = true := by decide +kernel
def w00_i111 : rt_It := (w00_t111, 0, [true, false], [(80, (34, 0), (([], [79, 2, 12, 14, 15], []), [some (.inr (.inl (79, 1))), some (.inl (0, 3, 3)), none, none, none, none, none, none, none, none, none, none, none, none, none, none, none, none, none, none, none, none], [(1, (0, 11), .inr (.inl (2, 2))), (1, (0, 21), .inr (.inl (12, 3))), (1, (0, 23), .inr (.inl (14, 4))), (1, (0, 24), .inr (.inl (15, 5))), (2, (0, 1), .inl (0, 0, 0))]), [(0, 3, 3), (0, 0, 0)]),
  (189, (34, 0), (([((0, 1600), (0, 0), none, none), ((9, 258), (0, 0), none, none), ((0, 59), (0, 0), none, none)], [79, 2, 12, 14, 15, 16], []), [some (.inr (.inl (79, 1))), some (.inl (0, 3, 3)), some (.inl (1, 0, 0)), some (.inl (2, 0, 0)), some (.inl (0, 0, 0)), some (.inl (3, 0, 0)), none, none, none, none, none, none, none, none, none, none, none, none, none, none, none, none], [(1, (0, 6), .inl (1, 0, 0)), (1, (0, 11), .inr (.inl (2, 2))), (1, (0, 21), .inr (.inl (12, 3))), (1, (0, 23), .inr (.inl (14, 4))), (1, (0, 24), .inr (.inl (15, 5))), (1, (0, 25), .inr (.inl (16, 6))), (2, (0, 1), .inl (0, 0, 0)), (6, (0, 3), .inl (3, 0, 0))]), [(0, 2, 2), (0, 0, 0)]),
  (189, (34, 0), (([((0, 1600), (0, 0), none, none), ((9, 258), (0, 0), none, none), ((0, 60), (0, 0), none, none), ((0, 59), (0, 0), none, none)], [79, 2, 12, 14, 15, 16], []), [some (.inr (.inl (79, 1))), some (.inl (0, 3, 3)), some (.inl (1, 0, 0)), some (.inl (2, 0, 0)), some (.inl (0, 1, 1)), some (.inl (3, 0, 0)), none, none, none, none, none, none, none, none, none, none, none, none, none, none, none, none], [(1, (0, 6), .inl (1, 0, 0)), (1, (0, 9), .inl (4, 0, 0)), (1, (0, 11), .inr (.inl (2, 2))), (1, (0, 21), .inr (.inl (12, 3))), (1, (0, 23), .inr (.inl (14, 4))), (1, (0, 24), .inr (.inl (15, 5))), (1, (0, 25), .inr (.inl (16, 6))), (2, (0, 1), .inl (0, 0, 0))]), [(0, 1, 1), (3, 0, 0)]),
  (287, (34, 0), (([((0, 1600), (0, 0), none, none), ((9, 258), (0, 0), none, none), ((0, 1), (0, 0), none, none), ((0, 60), (0, 0), none, none)], [79, 2, 12, 14, 15, 16, 17, 18], []), [some (.inr (.inl (79, 1))), some (.inl (0, 3, 3)), some (.inl (1, 0, 0)), some (.inl (2, 0, 0)), some (.inl (3, 0, 0)), some (.inl (4, 0, 0)), none, none, none, none, none, none, none, none, none, none, none, none, none, none, none, none], [(1, (0, 11), .inr (.inl (2, 2))), (1, (0, 21), .inr (.inl (12, 3))), (1, (0, 23), .inr (.inl (14, 4))), (1, (0, 24), .inr (.inl (15, 5))), (1, (0, 25), .inr (.inl (16, 6))), (1, (0, 26), .inr (.inl (17, 7))), (1, (0, 27), .inr (.inl (18, 8))), (2, (0, 1), .inl (0, 0, 0))]), [(0, 0, 0), (4, 0, 0)])])
theorem w00_h111 : rt_chk w00_K w00_X w00_W [w00_t97, w00_t100, w00_t105, w00_t103, w00_t107, w00_t98, w00_t101, w00_t108, w00_t92] w00_S 4000 w00_i111 = true := by decide +kernel
def w00_i113 : rt_It := (w00_t113, 0, [], [])
theorem w00_h113 : rt_chk w00_K w00_X w00_W [w00_t95, w00_t93, w00_t92] w00_S 4000 w00_i113 = true := by decide +kernel
def w00_i114 : rt_It := (w00_t114, 0, [], [(24, (36, 0), (([], [79, 34], []), [some (.inr (.inl (79, 1))), some (.inr (.inl (34, 2))), some (.inl (0, 6, 6)), some (.inl (0, 0, 0)), some (.inl (0, 0, 0)), none], []), [])])
theorem w00_h114 : rt_chk w00_K w00_X w00_W [w00_t93, w00_t96] w00_S 4000 w00_i114 = true := by decide +kernel
def w00_i115 : rt_It := (w00_t115, 0, [], [(2, (24, 0), (([], [79], []), [some (.inr (.inl (79, 1))), some (.inl (0, 0, 0))], []), [])])
theorem w00_h115 : rt_chk w00_K w00_X w00_W [] w00_S 4000 w00_i115 = true := by decide +kernel
def w00_i116 : rt_It := (w00_t116, 0, [], [])
theorem w00_h116 : rt_chk w00_K w00_X w00_W [w00_t114, w00_t115, w00_t93, w00_t98, w00_t92] w00_S 4000 w00_i116 = true := by decide +kernel
def w00_i117 : rt_It := (w00_t117, 0, [], [])
theorem w00_h117 : rt_chk w00_K w00_X w00_W [w00_t113, w00_t98] w00_S 4000 w00_i117 = true := by decide +kernel
def w00_i118 : rt_It := (w00_t118, 0, [], [])
theorem w00_h118 : rt_chk w00_K w00_X w00_W [w00_t102, w00_t117, w00_t92] w00_S 4000 w00_i118 = true := by decide +kernel
def w00_i119 : rt_It := (w00_t119, 0, [], [])
theorem w00_h119 : rt_chk w00_K w00_X w00_W [w00_t95, w00_t93, w00_t92] w00_S 4000 w00_i119 = true := by decide +kernel
def w00_i120 : rt_It := (w00_t120, 0, [false], [(24, (36, 0), (([((0, 4), (0, 0), none, none), ((0, 4), (0, 0), none, none)], [79, 13], []), [some (.inr (.inl (79, 1))), some (.inr (.inl (13, 2))), some (.inl (0, 5, 5)), some (.inl (1, 0, 0)), some (.inl (2, 0, 0)), none, none, none, none, none, none, none, none, none, none, none, none, none, none, none, none], []), [(2, 0, 0)])])
theorem w00_h120 : rt_chk w00_K w00_X w00_W [w00_t93, w00_t96, w00_t92] w00_S 4000 w00_i120 = true := by decide +kernel
def w00_i121 : rt_It := (w00_t121, 0, [], [])
theorem w00_h121 : rt_chk w00_K w00_X w00_W [w00_t103, w00_t117, w00_t120] w00_S 4000 w00_i121 = true := by decide +kernel
def w00_i122 : rt_It := (w00_t122, 0, [], [])
theorem w00_h122 : rt_chk w00_K w00_X w00_W [w00_t95, w00_t93, w00_t92] w00_S 4000 w00_i122 = true := by decide +kernel
def w00_i123 : rt_It := (w00_t123, 0, [false], [(37, (23, 0), (([((0, 59), (0, 0), none, none), ((0, 59), (0, 0), none, none), (((-9), 9), (0, 0), none, none), ((0, 60), (0, 0), none, none)], [79], []), [some (.inr (.inl (79, 1))), some (.inl (1, 0, 0)), some (.inl (2, 0, 0)), some (.inl (3, 0, 0)), some (.inl (4, 0, 0)), none, none, none, none, none, none, none, none, none, none, none, none, none, none, none, none], []), [(4, 0, 0)])])
theorem w00_h123 : rt_chk w00_K w00_X w00_W [w00_t102, w00_t122, w00_t98, w00_t101] w00_S 4000 w00_i123 = true := by decide +kernel
def w00_i124 : rt_It := (w00_t124, 1, [], [])
theorem w00_h124 : rt_chk w00_K w00_X w00_W [w00_t116, w00_t111, w00_t112, w00_t121, w00_t95, w00_t93, w00_t113, w00_t106, w00_t119, w00_t123, w00_t98, w00_t118] w00_S 4000 w00_i124 = true := by decide +kernel
