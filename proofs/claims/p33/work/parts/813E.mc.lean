def w13_i121 : rt_It := (w13_t121, 0, [], [])
theorem w13_h121 : rt_chk w13_K w13_X w13_W [w13_t115, w13_t100] w13_S 4000 w13_i121 = true := by decide +kernel
def w13_i122 : rt_It := (w13_t122, 0, [], [])
theorem w13_h122 : rt_chk w13_K w13_X w13_W [w13_t104, w13_t121, w13_t94] w13_S 4000 w13_i122 = true := by decide +kernel
def w13_i123 : rt_It := (w13_t123, 0, [], [])
theorem w13_h123 : rt_chk w13_K w13_X w13_W [w13_t97, w13_t95, w13_t94] w13_S 4000 w13_i123 = true := by decide +kernel
def w13_i124 : rt_It := (w13_t124, 0, [false], [(24, (36, 0), (([((0, 4), (0, 0), none, none), ((0, 4), (0, 0), none, none)], [79, 13], []), [some (.inr (.inl (79, 1))), some (.inr (.inl (13, 2))), some (.inl (0, 0, 0)), some (.inl (1, 0, 0)), some (.inl (2, 0, 0)), none, none, none, none, none, none, none, none, none, none, none, none, none, none, none, none], []), [(2, 0, 0)])])
theorem w13_h124 : rt_chk w13_K w13_X w13_W [w13_t95, w13_t98, w13_t94] w13_S 4000 w13_i124 = true := by decide +kernel
def w13_i125 : rt_It := (w13_t125, 0, [], [])
theorem w13_h125 : rt_chk w13_K w13_X w13_W [w13_t105, w13_t121, w13_t124] w13_S 4000 w13_i125 = true := by decide +kernel
def w13_i126 : rt_It := (w13_t126, 0, [], [])
theorem w13_h126 : rt_chk w13_K w13_X w13_W [w13_t97, w13_t95, w13_t94] w13_S 4000 w13_i126 = true := by decide +kernel
def w13_i127 : rt_It := (w13_t127, 0, [false], [(37, (23, 0), (([((0, 59), (0, 0), none, none), ((0, 59), (0, 0), none, none), (((-9), 9), (0, 0), none, none), ((0, 60), (0, 0), none, none)], [79], []), [some (.inr (.inl (79, 1))), some (.inl (1, 0, 0)), some (.inl (2, 0, 0)), some (.inl (3, 0, 0)), some (.inl (4, 0, 0)), none, none, none, none, none, none, none, none, none, none, none, none, none, none, none, none], []), [(4, 0, 0)])])
theorem w13_h127 : rt_chk w13_K w13_X w13_W [w13_t104, w13_t126, w13_t100, w13_t103] w13_S 4000 w13_i127 = true := by decide +kernel
def w13_i128 : rt_It := (w13_t128, 1, [], [])
theorem w13_h128 : rt_chk w13_K w13_X w13_W [w13_t113, w13_t114, w13_t125, w13_t120, w13_t97, w13_t95, w13_t115, w13_t108, w13_t123, w13_t127, w13_t100, w13_t122] w13_S 4000 w13_i128 = true := by decide +kernel
