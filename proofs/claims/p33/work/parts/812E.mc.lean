def w12_i121 : rt_It := (w12_t121, 0, [], [])
theorem w12_h121 : rt_chk w12_K w12_X w12_W [w12_t115, w12_t100] w12_S 4000 w12_i121 = true := by decide +kernel
def w12_i122 : rt_It := (w12_t122, 0, [], [])
theorem w12_h122 : rt_chk w12_K w12_X w12_W [w12_t104, w12_t121, w12_t94] w12_S 4000 w12_i122 = true := by decide +kernel
def w12_i123 : rt_It := (w12_t123, 0, [], [])
theorem w12_h123 : rt_chk w12_K w12_X w12_W [w12_t97, w12_t95, w12_t94] w12_S 4000 w12_i123 = true := by decide +kernel
def w12_i124 : rt_It := (w12_t124, 0, [false], [(24, (36, 0), (([((0, 4), (0, 0), none, none), ((0, 4), (0, 0), none, none)], [79, 13], []), [some (.inr (.inl (79, 1))), some (.inr (.inl (13, 2))), some (.inl (0, 0, 0)), some (.inl (1, 0, 0)), some (.inl (2, 0, 0)), none, none, none, none, none, none, none, none, none, none, none, none, none, none, none, none], []), [(2, 0, 0)])])
theorem w12_h124 : rt_chk w12_K w12_X w12_W [w12_t95, w12_t98, w12_t94] w12_S 4000 w12_i124 = true := by decide +kernel
def w12_i125 : rt_It := (w12_t125, 0, [], [])
theorem w12_h125 : rt_chk w12_K w12_X w12_W [w12_t105, w12_t121, w12_t124] w12_S 4000 w12_i125 = true := by decide +kernel
def w12_i126 : rt_It := (w12_t126, 0, [], [])
theorem w12_h126 : rt_chk w12_K w12_X w12_W [w12_t97, w12_t95, w12_t94] w12_S 4000 w12_i126 = true := by decide +kernel
def w12_i127 : rt_It := (w12_t127, 0, [false], [(37, (23, 0), (([((0, 59), (0, 0), none, none), ((0, 59), (0, 0), none, none), (((-9), 9), (0, 0), none, none), ((0, 60), (0, 0), none, none)], [79], []), [some (.inr (.inl (79, 1))), some (.inl (1, 0, 0)), some (.inl (2, 0, 0)), some (.inl (3, 0, 0)), some (.inl (4, 0, 0)), none, none, none, none, none, none, none, none, none, none, none, none, none, none, none, none], []), [(4, 0, 0)])])
theorem w12_h127 : rt_chk w12_K w12_X w12_W [w12_t104, w12_t126, w12_t100, w12_t103] w12_S 4000 w12_i127 = true := by decide +kernel
def w12_i128 : rt_It := (w12_t128, 1, [], [])
theorem w12_h128 : rt_chk w12_K w12_X w12_W [w12_t113, w12_t114, w12_t125, w12_t120, w12_t97, w12_t95, w12_t115, w12_t108, w12_t123, w12_t127, w12_t100, w12_t122] w12_S 4000 w12_i128 = true := by decide +kernel
