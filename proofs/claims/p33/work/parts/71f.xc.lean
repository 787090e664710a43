def wX_i91 : rt_It := (wX_t91, 0, [], [])
theorem wX_h91 : rt_chk wX_K wX_X wX_W [wX_t84, wX_t90, wX_t13] wX_S 3000 wX_i91 = true := by decide +kernel
def wX_i92 : rt_It := (wX_t92, 0, [false], [(7, (0, 0), (([((0, 1600), (0, 0), none, none)], [1, 2, 3, 12], []), [some (.inr (.inl (1, 1))), some (.inl (0, 4, 4)), some (.inl (1, 0, 0)), none, none, none, none, none, none, none, none, none, none, none, none, none, none, none, none, none, none], [(1, (0, 0), .inr (.inl (2, 2))), (1, (0, 1), .inr (.inl (3, 3))), (2, (0, 0), .inr (.inl (12, 4)))]), [(1, 0, 0)])])
theorem wX_h92 : rt_chk wX_K wX_X wX_W [wX_t91, wX_t13] wX_S 3000 wX_i92 = true := by decide +kernel
def wX_i93 : rt_It := (wX_t93, 0, [false], [(7, (0, 0), (([((0, 1600), (0, 0), none, none)], [1, 2, 3, 12], []), [some (.inr (.inl (1, 1))), some (.inl (0, 4, 4)), some (.inl (1, 0, 0)), none, none, none, none, none, none, none, none, none, none, none, none, none, none, none, none, none, none], [(1, (0, 0), .inr (.inl (2, 2))), (1, (0, 1), .inr (.inl (3, 3))), (2, (0, 0), .inr (.inl (12, 4)))]), [(1, 0, 0)])])
theorem wX_h93 : rt_chk wX_K wX_X wX_W [wX_t92, wX_t13] wX_S 3000 wX_i93 = true := by decide +kernel
def wX_i94 : rt_It := (wX_t94, 0, [], [])
theorem wX_h94 : rt_chk wX_K wX_X wX_W [wX_t63, wX_t93, wX_t65, wX_t17, wX_t62, wX_t13] wX_S 3000 wX_i94 = true := by decide +kernel
def wX_i95 : rt_It := (wX_t95, 0, [false], [(7, (0, 0), (([((0, 1600), (0, 0), none, none)], [1, 2, 3, 12], []), [some (.inr (.inl (1, 1))), some (.inl (0, 3, 3)), some (.inl (1, 0, 0)), none, none, none, none, none, none, none, none, none, none, none, none, none, none, none, none, none, none], [(1, (0, 0), .inr (.inl (2, 2))), (1, (0, 1), .inr (.inl (3, 3))), (2, (0, 0), .inr (.inl (12, 4)))]), [(1, 0, 0)])])
theorem wX_h95 : rt_chk wX_K wX_X wX_W [wX_t94, wX_t13] wX_S 3000 wX_i95 = true := by decide +kernel
def wX_i96 : rt_It := (wX_t96, 0, [false], [(7, (0, 0), (([((0, 1600), (0, 0), none, none)], [1, 2, 3, 12], []), [some (.inr (.inl (1, 1))), some (.inl (0, 3, 3)), some (.inl (1, 0, 0)), none, none, none, none, none, none, none, none, none, none, none, none, none, none, none, none, none, none], [(1, (0, 0), .inr (.inl (2, 2))), (1, (0, 1), .inr (.inl (3, 3))), (2, (0, 0), .inr (.inl (12, 4)))]), [(1, 0, 0)])])
theorem wX_h96 : rt_chk wX_K wX_X wX_W [wX_t95, wX_t13] wX_S 3000 wX_i96 = true := by decide +kernel
def wX_i97 : rt_It := (wX_t97, 0, [], [])
theorem wX_h97 : rt_chk wX_K wX_X wX_W [wX_t96, wX_t13] wX_S 3000 wX_i97 = true := by decide +kernel
def wX_i98 : rt_It := (wX_t98, 0, [], [])
theorem wX_h98 : rt_chk wX_K wX_X wX_W [wX_t91, wX_t97, wX_t13] wX_S 3000 wX_i98 = true := by decide +kernel
def wX_i99 : rt_It := (wX_t99, 0, [false], [(7, (0, 0), (([((0, 1600), (0, 0), none, none)], [1, 2, 3, 12], []), [some (.inr (.inl (1, 1))), some (.inl (0, 3, 3)), some (.inl (1, 0, 0)), none, none, none, none, none, none, none, none, none, none, none, none, none, none, none, none, none, none], [(1, (0, 0), .inr (.inl (2, 2))), (1, (0, 1), .inr (.inl (3, 3))), (2, (0, 0), .inr (.inl (12, 4)))]), [(1, 0, 0)])])
theorem wX_h99 : rt_chk wX_K wX_X wX_W [wX_t98, wX_t13] wX_S 3000 wX_i99 = true := by decide +kernel
def wX_i100 : rt_It := (wX_t100, 0, [false], [(7, (0, 0), (([((0, 1600), (0, 0), none, none)], [1, 2, 3, 12], []), [some (.inr (.inl (1, 1))), some (.inl (0, 3, 3)), some (.inl (1, 0, 0)), none, none, none, none, none, none, none, none, none, none, none, none, none, none, none, none, none, none], [(1, (0, 0), .inr (.inl (2, 2))), (1, (0, 1), .inr (.inl (3, 3))), (2, (0, 0), .inr (.inl (12, 4)))]), [(1, 0, 0)])])
theorem wX_h100 : rt_chk wX_K wX_X wX_W [wX_t99, wX_t13] wX_S 3000 wX_i100 = true := by decide +kernel
def wX_i101 : rt_It := (wX_t101, 0, [], [])
theorem wX_h101 : rt_chk wX_K wX_X wX_W [wX_t63, wX_t100, wX_t65, wX_t17, wX_t62, wX_t13] wX_S 3000 wX_i101 = true := by decide +kernel
