def wX_i70 : rt_It := (wX_t70, 0, [], [])
theorem wX_h70 : rt_chk wX_K wX_X wX_W [wX_t69, wX_t17] wX_S 3000 wX_i70 = true := by decide +kernel
def wX_i71 : rt_It := (wX_t71, 0, [false], [(7, (0, 0), (([((0, 1600), (0, 0), none, none)], [1, 2, 3, 12], []), [some (.inr (.inl (1, 1))), some (.inl (0, 7, 7)), some (.inl (1, 0, 0)), none, none, none, none, none, none, none, none, none, none, none, none, none, none, none, none, none, none], [(1, (0, 0), .inr (.inl (2, 2))), (1, (0, 1), .inr (.inl (3, 3))), (2, (0, 0), .inr (.inl (12, 4)))]), [(1, 0, 0)])])
theorem wX_h71 : rt_chk wX_K wX_X wX_W [wX_t70, wX_t13] wX_S 3000 wX_i71 = true := by decide +kernel
def wX_i72 : rt_It := (wX_t72, 0, [false], [(7, (0, 0), (([((0, 1600), (0, 0), none, none)], [1, 2, 3, 12], []), [some (.inr (.inl (1, 1))), some (.inl (0, 7, 7)), some (.inl (1, 0, 0)), none, none, none, none, none, none, none, none, none, none, none, none, none, none, none, none, none, none], [(1, (0, 0), .inr (.inl (2, 2))), (1, (0, 1), .inr (.inl (3, 3))), (2, (0, 0), .inr (.inl (12, 4)))]), [(1, 0, 0)])])
theorem wX_h72 : rt_chk wX_K wX_X wX_W [wX_t71, wX_t13] wX_S 3000 wX_i72 = true := by decide +kernel
def wX_i73 : rt_It := (wX_t73, 0, [], [])
theorem wX_h73 : rt_chk wX_K wX_X wX_W [wX_t63, wX_t72, wX_t65, wX_t17, wX_t62, wX_t13] wX_S 3000 wX_i73 = true := by decide +kernel
def wX_i74 : rt_It := (wX_t74, 0, [false], [(7, (0, 0), (([((0, 1600), (0, 0), none, none)], [1, 2, 3, 12], []), [some (.inr (.inl (1, 1))), some (.inl (0, 6, 6)), some (.inl (1, 0, 0)), none, none, none, none, none, none, none, none, none, none, none, none, none, none, none, none, none, none], [(1, (0, 0), .inr (.inl (2, 2))), (1, (0, 1), .inr (.inl (3, 3))), (2, (0, 0), .inr (.inl (12, 4)))]), [(1, 0, 0)])])
theorem wX_h74 : rt_chk wX_K wX_X wX_W [wX_t73, wX_t13] wX_S 3000 wX_i74 = true := by decide +kernel
def wX_i75 : rt_It := (wX_t75, 0, [false], [(7, (0, 0), (([((0, 1600), (0, 0), none, none)], [1, 2, 3, 12], []), [some (.inr (.inl (1, 1))), some (.inl (0, 6, 6)), some (.inl (1, 0, 0)), none, none, none, none, none, none, none, none, none, none, none, none, none, none, none, none, none, none], [(1, (0, 0), .inr (.inl (2, 2))), (1, (0, 1), .inr (.inl (3, 3))), (2, (0, 0), .inr (.inl (12, 4)))]), [(1, 0, 0)])])
theorem wX_h75 : rt_chk wX_K wX_X wX_W [wX_t74, wX_t13] wX_S 3000 wX_i75 = true := by decide +kernel
def wX_i76 : rt_It := (wX_t76, 0, [], [])
theorem wX_h76 : rt_chk wX_K wX_X wX_W [wX_t75, wX_t13] wX_S 3000 wX_i76 = true := by decide +kernel
def wX_i77 : rt_It := (wX_t77, 0, [], [])
theorem wX_h77 : rt_chk wX_K wX_X wX_W [wX_t70, wX_t76, wX_t13] wX_S 3000 wX_i77 = true := by decide +kernel
def wX_i78 : rt_It := (wX_t78, 0, [false], [(7, (0, 0), (([((0, 1600), (0, 0), none, none)], [1, 2, 3, 12], []), [some (.inr (.inl (1, 1))), some (.inl (0, 6, 6)), some (.inl (1, 0, 0)), none, none, none, none, none, none, none, none, none, none, none, none, none, none, none, none, none, none], [(1, (0, 0), .inr (.inl (2, 2))), (1, (0, 1), .inr (.inl (3, 3))), (2, (0, 0), .inr (.inl (12, 4)))]), [(1, 0, 0)])])
theorem wX_h78 : rt_chk wX_K wX_X wX_W [wX_t77, wX_t13] wX_S 3000 wX_i78 = true := by decide +kernel
def wX_i79 : rt_It := (wX_t79, 0, [false], [(7, (0, 0), (([((0, 1600), (0, 0), none, none)], [1, 2, 3, 12], []), [some (.inr (.inl (1, 1))), some (.inl (0, 6, 6)), some (.inl (1, 0, 0)), none, none, none, none, none, none, none, none, none, none, none, none, none, none, none, none, none, none], [(1, (0, 0), .inr (.inl (2, 2))), (1, (0, 1), .inr (.inl (3, 3))), (2, (0, 0), .inr (.inl (12, 4)))]), [(1, 0, 0)])])
theorem wX_h79 : rt_chk wX_K wX_X wX_W [wX_t78, wX_t13] wX_S 3000 wX_i79 = true := by decide +kernel
def wX_i80 : rt_It := (wX_t80, 0, [], [])
theorem wX_h80 : rt_chk wX_K wX_X wX_W [wX_t63, wX_t79, wX_t65, wX_t17, wX_t62, wX_t13] wX_S 3000 wX_i80 = true := by decide +kernel
