def wX_i102 : rt_It := (wX_t102, 0, [false], [(7, (0, 0), (([((0, 1600), (0, 0), none, none)], [1, 2, 3, 12], []), [some (.inr (.inl (1, 1))), some (.inl (0, 2, 2)), some (.inl (1, 0, 0)), none, none, none, none, none, none, none, none, none, none, none, none, none, none, none, none, none, none], [(1, (0, 0), .inr (.inl (2, 2))), (1, (0, 1), .inr (.inl (3, 3))), (2, (0, 0), .inr (.inl (12, 4)))]), [(1, 0, 0)])])
theorem wX_h102 : rt_chk wX_K wX_X wX_W [wX_t101, wX_t13] wX_S 3000 wX_i102 = true := by decide +kernel
def wX_i103 : rt_It := (wX_t103, 0, [false], [(7, (0, 0), (([((0, 1600), (0, 0), none, none)], [1, 2, 3, 12], []), [some (.inr (.inl (1, 1))), some (.inl (0, 2, 2)), some (.inl (1, 0, 0)), none, none, none, none, none, none, none, none, none, none, none, none, none, none, none, none, none, none], [(1, (0, 0), .inr (.inl (2, 2))), (1, (0, 1), .inr (.inl (3, 3))), (2, (0, 0), .inr (.inl (12, 4)))]), [(1, 0, 0)])])
theorem wX_h103 : rt_chk wX_K wX_X wX_W [wX_t102, wX_t13] wX_S 3000 wX_i103 = true := by decide +kernel
def wX_i104 : rt_It := (wX_t104, 0, [], [])
theorem wX_h104 : rt_chk wX_K wX_X wX_W [wX_t103, wX_t13] wX_S 3000 wX_i104 = true := by decide +kernel
def wX_i105 : rt_It := (wX_t105, 0, [], [])
theorem wX_h105 : rt_chk wX_K wX_X wX_W [wX_t98, wX_t104, wX_t13] wX_S 3000 wX_i105 = true := by decide +kernel
def wX_i106 : rt_It := (wX_t106, 0, [false], [(7, (0, 0), (([((0, 1600), (0, 0), none, none)], [1, 2, 3, 12], []), [some (.inr (.inl (1, 1))), some (.inl (0, 2, 2)), some (.inl (1, 0, 0)), none, none, none, none, none, none, none, none, none, none, none, none, none, none, none, none, none, none], [(1, (0, 0), .inr (.inl (2, 2))), (1, (0, 1), .inr (.inl (3, 3))), (2, (0, 0), .inr (.inl (12, 4)))]), [(1, 0, 0)])])
theorem wX_h106 : rt_chk wX_K wX_X wX_W [wX_t105, wX_t13] wX_S 3000 wX_i106 = true := by decide +kernel
def wX_i107 : rt_It := (wX_t107, 0, [false], [(7, (0, 0), (([((0, 1600), (0, 0), none, none)], [1, 2, 3, 12], []), [some (.inr (.inl (1, 1))), some (.inl (0, 2, 2)), some (.inl (1, 0, 0)), none, none, none, none, none, none, none, none, none, none, none, none, none, none, none, none, none, none], [(1, (0, 0), .inr (.inl (2, 2))), (1, (0, 1), .inr (.inl (3, 3))), (2, (0, 0), .inr (.inl (12, 4)))]), [(1, 0, 0)])])
theorem wX_h107 : rt_chk wX_K wX_X wX_W [wX_t106, wX_t13] wX_S 3000 wX_i107 = true := by decide +kernel
def wX_i108 : rt_It := (wX_t108, 0, [], [])
theorem wX_h108 : rt_chk wX_K wX_X wX_W [wX_t63, wX_t107, wX_t65, wX_t17, wX_t62, wX_t13] wX_S 3000 wX_i108 = true := by decide +kernel
def wX_i109 : rt_It := (wX_t109, 0, [false], [(7, (0, 0), (([((0, 1600), (0, 0), none, none)], [1, 2, 3, 12], []), [some (.inr (.inl (1, 1))), some (.inl (0, 1, 1)), some (.inl (1, 0, 0)), none, none, none, none, none, none, none, none, none, none, none, none, none, none, none, none, none, none], [(1, (0, 0), .inr (.inl (2, 2))), (1, (0, 1), .inr (.inl (3, 3))), (2, (0, 0), .inr (.inl (12, 4)))]), [(1, 0, 0)])])
theorem wX_h109 : rt_chk wX_K wX_X wX_W [wX_t108, wX_t13] wX_S 3000 wX_i109 = true := by decide +kernel
def wX_i110 : rt_It := (wX_t110, 0, [false], [(7, (0, 0), (([((0, 1600), (0, 0), none, none)], [1, 2, 3, 12], []), [some (.inr (.inl (1, 1))), some (.inl (0, 1, 1)), some (.inl (1, 0, 0)), none, none, none, none, none, none, none, none, none, none, none, none, none, none, none, none, none, none], [(1, (0, 0), .inr (.inl (2, 2))), (1, (0, 1), .inr (.inl (3, 3))), (2, (0, 0), .inr (.inl (12, 4)))]), [(1, 0, 0)])])
theorem wX_h110 : rt_chk wX_K wX_X wX_W [wX_t109, wX_t13] wX_S 3000 wX_i110 = true := by decide +kernel
def wX_i111 : rt_It := (wX_t111, 0, [], [])
theorem wX_h111 : rt_chk wX_K wX_X wX_W [wX_t110, wX_t13] wX_S 3000 wX_i111 = true := by decide +kernel
