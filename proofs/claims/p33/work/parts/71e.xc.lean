def wX_i81 : rt_It := (wX_t81, 0, [false], [(7, (0, 0), (([((0, 1600), (0, 0), none, none)], [1, 2, 3, 12], []), [some (.inr (.inl (1, 1))), some (.inl (0, 5, 5)), some (.inl (1, 0, 0)), none, none, none, none, none, none, none, none, none, none, none, none, none, none, none, none, none, none], [(1, (0, 0), .inr (.inl (2, 2))), (1, (0, 1), .inr (.inl (3, 3))), (2, (0, 0), .inr (.inl (12, 4)))]), [(1, 0, 0)])])
theorem wX_h81 : rt_chk wX_K wX_X wX_W [wX_t80, wX_t13] wX_S 3000 wX_i81 = true := by decide +kernel
def wX_i82 : rt_It := (wX_t82, 0, [false], [(7, (0, 0), (([((0, 1600), (0, 0), none, none)], [1, 2, 3, 12], []), [some (.inr (.inl (1, 1))), some (.inl (0, 5, 5)), some (.inl (1, 0, 0)), none, none, none, none, none, none, none, none, none, none, none, none, none, none, none, none, none, none], [(1, (0, 0), .inr (.inl (2, 2))), (1, (0, 1), .inr (.inl (3, 3))), (2, (0, 0), .inr (.inl (12, 4)))]), [(1, 0, 0)])])
theorem wX_h82 : rt_chk wX_K wX_X wX_W [wX_t81, wX_t13] wX_S 3000 wX_i82 = true := by decide +kernel
def wX_i83 : rt_It := (wX_t83, 0, [], [])
theorem wX_h83 : rt_chk wX_K wX_X wX_W [wX_t82, wX_t13] wX_S 3000 wX_i83 = true := by decide +kernel
def wX_i84 : rt_It := (wX_t84, 0, [], [])
theorem wX_h84 : rt_chk wX_K wX_X wX_W [wX_t77, wX_t83, wX_t13] wX_S 3000 wX_i84 = true := by decide +kernel
def wX_i85 : rt_It := (wX_t85, 0, [false], [(7, (0, 0), (([((0, 1600), (0, 0), none, none)], [1, 2, 3, 12], []), [some (.inr (.inl (1, 1))), some (.inl (0, 5, 5)), some (.inl (1, 0, 0)), none, none, none, none, none, none, none, none, none, none, none, none, none, none, none, none, none, none], [(1, (0, 0), .inr (.inl (2, 2))), (1, (0, 1), .inr (.inl (3, 3))), (2, (0, 0), .inr (.inl (12, 4)))]), [(1, 0, 0)])])
theorem wX_h85 : rt_chk wX_K wX_X wX_W [wX_t84, wX_t13] wX_S 3000 wX_i85 = true := by decide +kernel
def wX_i86 : rt_It := (wX_t86, 0, [false], [(7, (0, 0), (([((0, 1600), (0, 0), none, none)], [1, 2, 3, 12], []), [some (.inr (.inl (1, 1))), some (.inl (0, 5, 5)), some (.inl (1, 0, 0)), none, none, none, none, none, none, none, none, none, none, none, none, none, none, none, none, none, none], [(1, (0, 0), .inr (.inl (2, 2))), (1, (0, 1), .inr (.inl (3, 3))), (2, (0, 0), .inr (.inl (12, 4)))]), [(1, 0, 0)])])
theorem wX_h86 : rt_chk wX_K wX_X wX_W [wX_t85, wX_t13] wX_S 3000 wX_i86 = true := by decide +kernel
def wX_i87 : rt_It := (wX_t87, 0, [], [])
theorem wX_h87 : rt_chk wX_K wX_X wX_W [wX_t63, wX_t86, wX_t65, wX_t17, wX_t62, wX_t13] wX_S 3000 wX_i87 = true := by decide +kernel
def wX_i88 : rt_It := (wX_t88, 0, [false], [(7, (0, 0), (([((0, 1600), (0, 0), none, none)], [1, 2, 3, 12], []), [some (.inr (.inl (1, 1))), some (.inl (0, 4, 4)), some (.inl (1, 0, 0)), none, none, none, none, none, none, none, none, none, none, none, none, none, none, none, none, none, none], [(1, (0, 0), .inr (.inl (2, 2))), (1, (0, 1), .inr (.inl (3, 3))), (2, (0, 0), .inr (.inl (12, 4)))]), [(1, 0, 0)])])
theorem wX_h88 : rt_chk wX_K wX_X wX_W [wX_t87, wX_t13] wX_S 3000 wX_i88 = true := by decide +kernel
def wX_i89 : rt_It := (wX_t89, 0, [false], [(7, (0, 0), (([((0, 1600), (0, 0), none, none)], [1, 2, 3, 12], []), [some (.inr (.inl (1, 1))), some (.inl (0, 4, 4)), some (.inl (1, 0, 0)), none, none, none, none, none, none, none, none, none, none, none, none, none, none, none, none, none, none], [(1, (0, 0), .inr (.inl (2, 2))), (1, (0, 1), .inr (.inl (3, 3))), (2, (0, 0), .inr (.inl (12, 4)))]), [(1, 0, 0)])])
theorem wX_h89 : rt_chk wX_K wX_X wX_W [wX_t88, wX_t13] wX_S 3000 wX_i89 = true := by decide +kernel
def wX_i90 : rt_It := (wX_t90, 0, [], [])
theorem wX_h90 : rt_chk wX_K wX_X wX_W [wX_t89, wX_t13] wX_S 3000 wX_i90 = true := by decide +kernel
