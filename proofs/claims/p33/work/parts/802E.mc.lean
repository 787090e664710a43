def w02_i121 : rt_It := (w02_t121, 0, [], [])
theorem w02_h121 : rt_chk w02_K w02_X w02_W [w02_t115, w02_t100] w02_S 4000 w02_i121 = true := by decide +kernel
def w02_i122 : rt_It := (w02_t122, 0, [], [])
theorem w02_h122 : rt_chk w02_K w02_X w02_W [w02_t104, w02_t121, w02_t94] w02_S 4000 w02_i122 = true := by decide +kernel
def w02_i123 : rt_It := (w02_t123, 0, [], [])
theorem w02_h123 : rt_chk w02_K w02_X w02_W [w02_t97, w02_t95, w02_t94] w02_S 4000 w02_i123 = true := by decide +kernel
def w02_i124 : rt_It := (w02_t124, 0, [false], [(24, (36, 0), (([((0, 4), (0, 0), none, none), ((0, 4), (0, 0), none, none)], [79, 13], []), [some (.inr (.inl (79, 1))), some (.inr (.inl (13, 2))), some (.inl (0, 5, 5)), some (.inl (1, 0, 0)), some (.inl (2, 0, 0)), none, none, none, none, none, none, none, none, none, none, none, none, none, none, none, none], []), [(2, 0, 0)])])
theorem w02_h124 : rt_chk w02_K w02_X w02_W [w02_t95, w02_t98, w02_t94] w02_S 4000 w02_i124 = true := by decide +kernel
def w02_i125 : rt_It := (w02_t125, 0, [], [])
theorem w02_h125 : rt_chk w02_K w02_X w02_W [w02_t105, w02_t121, w02_t124] w02_S 4000 w02_i125 = true := by decide +kernel
def w02_i126 : rt_It := (w02_t126, 0, [], [])
theorem w02_h126 : rt_chk w02_K w02_X w02_W [w02_t97, w02_t95, w02_t94] w02_S 4000 w02_i126 = true := by decide +kernel
def w02_i127 : rt_It := (w02_t127, 0, [false], [(37, (23, 0), (([((0, 59), (0, 0), none, none), ((0, 59), (0, 0), none, none), (((-9), 9), (0, 0), none, none), ((0, 60), (0, 0), none, none)], [79], []), [some (.inr (.inl (79, 1))), some (.inl (1, 0, 0)), some (.inl (2, 0, 0)), some (.inl (3, 0, 0)), some (.inl (4, 0, 0)), none, none, none, none, none, none, none, none, none, none, none, none, none, none, none, none], []), [(4, 0, 0)])])
theorem w02_h127 : rt_chk w02_K w02_X w02_W [w02_t104, w02_t126, w02_t100, w02_t103] w02_S 4000 w02_i127 = true := by decide +kernel
def w02_i128 : rt_It := (w02_t128, 1, [], [])
theorem w02_h128 : rt_chk w02_K w02_X w02_W [w02_t113, w02_t114, w02_t125, w02_t120, w02_t97, w02_t95, w02_t115, w02_t108, w02_t123, w02_t127, w02_t100, w02_t122] w02_S 4000 w02_i128 = true := by decide +kernel
