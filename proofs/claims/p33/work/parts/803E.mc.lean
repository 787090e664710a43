def w03_i121 : rt_It := (w03_t121, 0, [], [])
theorem w03_h121 : rt_chk w03_K w03_X w03_W [w03_t115, w03_t100] w03_S 4000 w03_i121 = true := by decide +kernel
def w03_i122 : rt_It := (w03_t122, 0, [], [])
theorem w03_h122 : rt_chk w03_K w03_X w03_W [w03_t104, w03_t121, w03_t94] w03_S 4000 w03_i122 = true := by decide +kernel
def w03_i123 : rt_It := (w03_t123, 0, [], [])
theorem w03_h123 : rt_chk w03_K w03_X w03_W [w03_t97, w03_t95, w03_t94] w03_S 4000 w03_i123 = true := by decide +kernel
def w03_i124 : rt_It := (w03_t124, 0, [false], [(24, (36, 0), (([((0, 4), (0, 0), none, none), ((0, 4), (0, 0), none, none)], [79, 13], []), [some (.inr (.inl (79, 1))), some (.inr (.inl (13, 2))), some (.inl (0, 5, 5)), some (.inl (1, 0, 0)), some (.inl (2, 0, 0)), none, none, none, none, none, none, none, none, none, none, none, none, none, none, none, none], []), [(2, 0, 0)])])
theorem w03_h124 : rt_chk w03_K w03_X w03_W [w03_t95, w03_t98, w03_t94] w03_S 4000 w03_i124 = true := by decide +kernel
def w03_i125 : rt_It := (w03_t125, 0, [], [])
theorem w03_h125 : rt_chk w03_K w03_X w03_W [w03_t105, w03_t121, w03_t124] w03_S 4000 w03_i125 = true := by decide +kernel
def w03_i126 : rt_It := (w03_t126, 0, [], [])
theorem w03_h126 : rt_chk w03_K w03_X w03_W [w03_t97, w03_t95, w03_t94] w03_S 4000 w03_i126 = true := by decide +kernel
def w03_i127 : rt_It := (w03_t127, 0, [false], [(37, (23, 0), (([((0, 59), (0, 0), none, none), ((0, 59), (0, 0), none, none), (((-9), 9), (0, 0), none, none), ((0, 60), (0, 0), none, none)], [79], []), [some (.inr (.inl (79, 1))), some (.inl (1, 0, 0)), some (.inl (2, 0, 0)), some (.inl (3, 0, 0)), some (.inl (4, 0, 0)), none, none, none, none, none, none, none, none, none, none, none, none, none, none, none, none], []), [(4, 0, 0)])])
theorem w03_h127 : rt_chk w03_K w03_X w03_W [w03_t104, w03_t126, w03_t100, w03_t103] w03_S 4000 w03_i127 = true := by decide +kernel
def w03_i128 : rt_It := (w03_t128, 1, [], [])
theorem w03_h128 : rt_chk w03_K w03_X w03_W [w03_t113, w03_t114, w03_t125, w03_t120, w03_t97, w03_t95, w03_t115, w03_t108, w03_t123, w03_t127, w03_t100, w03_t122] w03_S 4000 w03_i128 = true := by decide +kernel
