def wX_i112 : rt_It := (wX_t112, 0, [], [])
theorem wX_h112 : rt_chk wX_K wX_X wX_W [wX_t105, wX_t111, wX_t13] wX_S 3000 wX_i112 = true := by decide +kernel
def wX_i113 : rt_It := (wX_t113, 0, [false], [(7, (0, 0), (([((0, 1600), (0, 0), none, none)], [1, 2, 3, 12], []), [some (.inr (.inl (1, 1))), some (.inl (0, 1, 1)), some (.inl (1, 0, 0)), none, none, none, none, none, none, none, none, none, none, none, none, none, none, none, none, none, none], [(1, (0, 0), .inr (.inl (2, 2))), (1, (0, 1), .inr (.inl (3, 3))), (2, (0, 0), .inr (.inl (12, 4)))]), [(1, 0, 0)])])
theorem wX_h113 : rt_chk wX_K wX_X wX_W [wX_t112, wX_t13] wX_S 3000 wX_i113 = true := by decide +kernel
def wX_i114 : rt_It := (wX_t114, 0, [false], [(7, (0, 0), (([((0, 1600), (0, 0), none, none)], [1, 2, 3, 12], []), [some (.inr (.inl (1, 1))), some (.inl (0, 1, 1)), some (.inl (1, 0, 0)), none, none, none, none, none, none, none, none, none, none, none, none, none, none, none, none, none, none], [(1, (0, 0), .inr (.inl (2, 2))), (1, (0, 1), .inr (.inl (3, 3))), (2, (0, 0), .inr (.inl (12, 4)))]), [(1, 0, 0)])])
theorem wX_h114 : rt_chk wX_K wX_X wX_W [wX_t113, wX_t13] wX_S 3000 wX_i114 = true := by decide +kernel
def wX_i115 : rt_It := (wX_t115, 0, [], [])
theorem wX_h115 : rt_chk wX_K wX_X wX_W [wX_t63, wX_t114, wX_t65, wX_t17, wX_t62, wX_t13] wX_S 3000 wX_i115 = true := by decide +kernel
def wX_i116 : rt_It := (wX_t116, 0, [false], [(7, (0, 0), (([((0, 1600), (0, 0), none, none)], [1, 2, 3, 12], []), [some (.inr (.inl (1, 1))), some (.inl (0, 0, 0)), some (.inl (1, 0, 0)), none, none, none, none, none, none, none, none, none, none, none, none, none, none, none, none, none, none], [(1, (0, 0), .inr (.inl (2, 2))), (1, (0, 1), .inr (.inl (3, 3))), (2, (0, 0), .inr (.inl (12, 4)))]), [(1, 0, 0)])])
theorem wX_h116 : rt_chk wX_K wX_X wX_W [wX_t115, wX_t13] wX_S 3000 wX_i116 = true := by decide +kernel
def wX_i117 : rt_It := (wX_t117, 0, [false], [(7, (0, 0), (([((0, 1600), (0, 0), none, none)], [1, 2, 3, 12], []), [some (.inr (.inl (1, 1))), some (.inl (0, 0, 0)), some (.inl (1, 0, 0)), none, none, none, none, none, none, none, none, none, none, none, none, none, none, none, none, none, none], [(1, (0, 0), .inr (.inl (2, 2))), (1, (0, 1), .inr (.inl (3, 3))), (2, (0, 0), .inr (.inl (12, 4)))]), [(1, 0, 0)])])
theorem wX_h117 : rt_chk wX_K wX_X wX_W [wX_t116, wX_t13] wX_S 3000 wX_i117 = true := by decide +kernel
def wX_i118 : rt_It := (wX_t118, 0, [], [])
theorem wX_h118 : rt_chk wX_K wX_X wX_W [wX_t117, wX_t13] wX_S 3000 wX_i118 = true := by decide +kernel
def wX_i119 : rt_It := (wX_t119, 0, [], [])
theorem wX_h119 : rt_chk wX_K wX_X wX_W [wX_t112, wX_t118, wX_t13] wX_S 3000 wX_i119 = true := by decide +kernel
def wX_i120 : rt_It := (wX_t120, 0, [false], [(7, (0, 0), (([((0, 1600), (0, 0), none, none)], [1, 2, 3, 12], []), [some (.inr (.inl (1, 1))), some (.inl (0, 0, 0)), some (.inl (1, 0, 0)), none, none, none, none, none, none, none, none, none, none, none, none, none, none, none, none, none, none], [(1, (0, 0), .inr (.inl (2, 2))), (1, (0, 1), .inr (.inl (3, 3))), (2, (0, 0), .inr (.inl (12, 4)))]), [(1, 0, 0)])])
theorem wX_h120 : rt_chk wX_K wX_X wX_W [wX_t119, wX_t13] wX_S 3000 wX_i120 = true := by decide +kernel
def wX_i121 : rt_It := (wX_t121, 0, [false], [(7, (0, 0), (([((0, 1600), (0, 0), none, none)], [1, 2, 3, 12], []), [some (.inr (.inl (1, 1))), some (.inl (0, 0, 0)), some (.inl (1, 0, 0)), none, none, none, none, none, none, none, none, none, none, none, none, none, none, none, none, none, none], [(1, (0, 0), .inr (.inl (2, 2))), (1, (0, 1), .inr (.inl (3, 3))), (2, (0, 0), .inr (.inl (12, 4)))]), [(1, 0, 0)])])
theorem wX_h121 : rt_chk wX_K wX_X wX_W [wX_t120, wX_t13] wX_S 3000 wX_i121 = true := by decide +kernel
def wX_i122 : rt_It := (wX_t122, 0, [], [])
theorem wX_h122 : rt_chk wX_K wX_X wX_W [wX_t40, wX_t32, wX_t38, wX_t25, wX_t20, wX_t121, wX_t50, wX_t55, wX_t61, wX_t36, wX_t52, wX_t17, wX_t62, wX_t21, wX_t15, wX_t13] wX_S 3000 wX_i122 = true := by decide +kernel
