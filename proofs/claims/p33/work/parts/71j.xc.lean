def wX_i136 : rt_It := (wX_t136, 0, [false], [(4, (0, 0), (([(((-1), 4), (0, 0), none, none), ((0, 5), (0, 0), none, none)], [9, 3, 6], []), [some (.inr (.inl (9, 1))), some (.inl (1, 0, 0)), some (.inl (2, 0, 0)), none, none, none, none, none, none, none, none, none, none, none, none, none, none, none, none, none, none], [(1, (0, 0), .inr (.inl (3, 2))), (1, (0, 1), .inr (.inl (6, 3)))]), [(2, 0, 0)])])
theorem wX_h136 : rt_chk wX_K wX_X wX_W [] wX_S 3000 wX_i136 = true := by decide +kernel
def wX_i137 : rt_It := (wX_t137, 0, [], [])
theorem wX_h137 : rt_chk wX_K wX_X wX_W [wX_t128] wX_S 3000 wX_i137 = true := by decide +kernel
def wX_i138 : rt_It := (wX_t138, 0, [false], [(21, (0, 0), (([((0, 4), (0, 0), none, none), (((-1), 1), (0, 0), none, none), (((-2147483648), 2147483647), (0, 0), none, none), ((1, 999), (0, 0), none, none), ((0, 5), (0, 0), none, none)], [9, 3, 6, 26], []), [some (.inr (.inl (9, 1))), some (.inl (1, 0, 0)), some (.inl (2, 0, 0)), some (.inl (3, 0, 0)), some (.inl (4, 0, 0)), some (.inl (5, 0, 0)), none, none, none, none, none, none, none, none, none, none, none, none, none, none, none], [(1, (0, 0), .inr (.inl (3, 2))), (1, (0, 1), .inr (.inl (6, 3))), (3, (0, 1), .inr (.inl (26, 4)))]), [(5, 0, 0)])])
theorem wX_h138 : rt_chk wX_K wX_X wX_W [] wX_S 3000 wX_i138 = true := by decide +kernel
def wX_i139 : rt_It := (wX_t139, 0, [], [])
theorem wX_h139 : rt_chk wX_K wX_X wX_W [] wX_S 3000 wX_i139 = true := by decide +kernel
def wX_i140 : rt_It := (wX_t140, 0, [false], [(28, (0, 0), (([(((-2147483648), 2147483647), (0, 0), none, none), ((0, 4), (0, 0), none, none), (((-2147483648), 2147483647), (0, 0), none, none), (((-2147483648), 2147483647), (0, 0), none, none), ((0, 41), (0, 0), none, none), (((-2147483648), 2147483647), (0, 0), none, none)], [9, 5, 3, 6, 5], []), [some (.inr (.inl (9, 1))), some (.inl (1, 0, 0)), some (.inl (2, 0, 0)), some (.inl (3, 0, 0)), some (.inr (.inl (5, 2))), some (.inl (4, 0, 0)), some (.inl (5, 0, 0)), some (.inl (6, 0, 0)), none, none, none, none, none, none, none, none, none, none, none, none, none], [(1, (0, 0), .inr (.inl (3, 3))), (1, (0, 1), .inr (.inl (6, 4))), (3, (0, 17), .inr (.inl (5, 5)))]), [(6, 0, 0)])])
theorem wX_h140 : rt_chk wX_K wX_X wX_W [wX_t138, wX_t126, wX_t139] wX_S 3000 wX_i140 = true := by decide +kernel
def wX_i141 : rt_It := (wX_t141, 0, [], [])
theorem wX_h141 : rt_chk wX_K wX_X wX_W [wX_t128, wX_t140] wX_S 3000 wX_i141 = true := by decide +kernel
def wX_i142 : rt_It := (wX_t142, 0, [], [])
theorem wX_h142 : rt_chk wX_K wX_X wX_W [wX_t128, wX_t132] wX_S 3000 wX_i142 = true := by decide +kernel
def wX_i143 : rt_It := (wX_t143, 0, [false], [(37, (1, 0), (([((0, 5), (0, 0), none, none)], [9, 3, 6], []), [some (.inr (.inl (9, 1))), some (.inr (.inl (3, 2))), some (.inr (.inl (6, 3))), some (.inl (1, 0, 0)), none, none, none, none, none, none, none, none, none, none, none, none, none, none, none, none, none], [(1, (0, 0), .inr (.inl (3, 2))), (1, (0, 1), .inr (.inl (6, 3)))]), [(1, 0, 0)])])
theorem wX_h143 : rt_chk wX_K wX_X wX_W [wX_t129, wX_t130, wX_t133, wX_t135, wX_t134, wX_t136, wX_t141, wX_t142, wX_t137, wX_t128] wX_S 3000 wX_i143 = true := by decide +kernel
