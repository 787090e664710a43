def w11_i125 : rt_It := (w11_t125, 0, [], [])
theorem w11_h125 : rt_chk w11_K w11_X w11_W [w11_t105, w11_t121, w11_t124] w11_S 4000 w11_i125 = true := by decide +kernel
def w11_i126 : rt_It := (w11_t126, 0, [], [])
theorem w11_h126 : rt_chk w11_K w11_X w11_W [w11_t97, w11_t95, w11_t94] w11_S 4000 w11_i126 = true := by decide +kernel
def w11_i127 : rt_It := (w11_t127, 0, [false], [(37, (23, 0), (([((0, 59), (0, 0), none, none), ((0, 59), (0, 0), none, none), (((-9), 9), (0, 0), none, none), ((0, 60), (0, 0), none, none)], [79], []), [some (.inr (.inl (79, 1))), some (.inl (1, 0, 0)), some (.inl (2, 0, 0)), some (.inl (3, 0, 0)), some (.inl (4, 0, 0)), none, none, none, none, none, none, none, none, none, none, none, none, none, none, none, none], []), [(4, 0, 0)])])
theorem w11_h127 : rt_chk w11_K w11_X w11_W [w11_t104, w11_t126, w11_t100, w11_t103] w11_S 4000 w11_i127 = true := by decide +kernel
def w11_i128 : rt_It := (w11_t128, 1, [], [])
theorem w11_h128 : rt_chk w11_K w11_X w11_W [w11_t113, w11_t114, w11_t125, w11_t120, w11_t97, w11_t95, w11_t115, w11_t108, w11_t123, w11_t127, w11_t100, w11_t122] w11_S 4000 w11_i128 = true := by decide +kernel
