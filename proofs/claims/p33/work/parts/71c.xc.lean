def wX_i56 : rt_It := (wX_t56, 0, [], [])
theorem wX_h56 : rt_chk wX_K wX_X wX_W [wX_t17] wX_S 3000 wX_i56 = true := by decide +kernel
def wX_i57 : rt_It := (wX_t57, 0, [], [])
theorem wX_h57 : rt_chk wX_K wX_X wX_W [wX_t56, wX_t13] wX_S 3000 wX_i57 = true := by decide +kernel
def wX_i58 : rt_It := (wX_t58, 0, [], [])
theorem wX_h58 : rt_chk wX_K wX_X wX_W [wX_t21, wX_t57] wX_S 3000 wX_i58 = true := by decide +kernel
def wX_i59 : rt_It := (wX_t59, 0, [], [])
theorem wX_h59 : rt_chk wX_K wX_X wX_W [wX_t17] wX_S 3000 wX_i59 = true := by decide +kernel
def wX_i60 : rt_It := (wX_t60, 0, [false], [(7, (0, 0), (([(((-1), 59), (0, 0), none, none), (((-1), 59), (0, 0), none, none), (((-9999), 9999), (0, 0), none, none), ((0, 60), (0, 0), none, none)], [3], []), [some (.inr (.inl (3, 1))), some (.inl (1, 0, 0)), some (.inl (2, 0, 0)), some (.inl (3, 0, 0)), some (.inl (4, 0, 0)), none, none, none, none, none, none, none, none, none, none, none, none, none, none, none, none], []), [(4, 0, 0)])])
theorem wX_h60 : rt_chk wX_K wX_X wX_W [] wX_S 3000 wX_i60 = true := by decide +kernel
def wX_i61 : rt_It := (wX_t61, 0, [], [])
theorem wX_h61 : rt_chk wX_K wX_X wX_W [wX_t26, wX_t59, wX_t20, wX_t58, wX_t16, wX_t13, wX_t60] wX_S 3000 wX_i61 = true := by decide +kernel
def wX_i62 : rt_It := (wX_t62, 0, [], [])
theorem wX_h62 : rt_chk wX_K wX_X wX_W [wX_t17, wX_t13] wX_S 3000 wX_i62 = true := by decide +kernel
def wX_i63 : rt_It := (wX_t63, 0, [], [])
theorem wX_h63 : rt_chk wX_K wX_X wX_W [wX_t17, wX_t13] wX_S 3000 wX_i63 = true := by decide +kernel
def wX_i64 : rt_It := (wX_t64, 0, [], [])
theorem wX_h64 : rt_chk wX_K wX_X wX_W [wX_t17] wX_S 3000 wX_i64 = true := by decide +kernel
def wX_i65 : rt_It := (wX_t65, 0, [], [])
theorem wX_h65 : rt_chk wX_K wX_X wX_W [wX_t64, wX_t13] wX_S 3000 wX_i65 = true := by decide +kernel
def wX_i66 : rt_It := (wX_t66, 0, [], [])
theorem wX_h66 : rt_chk wX_K wX_X wX_W [wX_t63, wX_t65, wX_t17, wX_t13] wX_S 3000 wX_i66 = true := by decide +kernel
def wX_i67 : rt_It := (wX_t67, 0, [false], [(7, (0, 0), (([((0, 1600), (0, 0), none, none)], [1, 2, 3, 12], []), [some (.inr (.inl (1, 1))), some (.inl (0, 7, 7)), some (.inl (1, 0, 0)), none, none, none, none, none, none, none, none, none, none, none, none, none, none, none, none, none, none], [(1, (0, 0), .inr (.inl (2, 2))), (1, (0, 1), .inr (.inl (3, 3))), (2, (0, 0), .inr (.inl (12, 4)))]), [(1, 0, 0)])])
theorem wX_h67 : rt_chk wX_K wX_X wX_W [wX_t66, wX_t13] wX_S 3000 wX_i67 = true := by decide +kernel
def wX_i68 : rt_It := (wX_t68, 0, [false], [(7, (0, 0), (([((0, 1600), (0, 0), none, none)], [1, 2, 3, 12], []), [some (.inr (.inl (1, 1))), some (.inl (0, 7, 7)), some (.inl (1, 0, 0)), none, none, none, none, none, none, none, none, none, none, none, none, none, none, none, none, none, none], [(1, (0, 0), .inr (.inl (2, 2))), (1, (0, 1), .inr (.inl (3, 3))), (2, (0, 0), .inr (.inl (12, 4)))]), [(1, 0, 0)])])
theorem wX_h68 : rt_chk wX_K wX_X wX_W [wX_t67, wX_t13] wX_S 3000 wX_i68 = true := by decide +kernel
def wX_i69 : rt_It := (wX_t69, 0, [], [])
theorem wX_h69 : rt_chk wX_K wX_X wX_W [wX_t68, wX_t13] wX_S 3000 wX_i69 = true := by decide +kernel
