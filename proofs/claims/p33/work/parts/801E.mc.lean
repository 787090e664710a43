def w01_i125 : rt_It := (w01_t125, 0, [], [])
theorem w01_h125 : rt_chk w01_K w01_X w01_W [w01_t105, w01_t121, w01_t124] w01_S 4000 w01_i125 = true := by decide +kernel
def w01_i126 : rt_It := (w01_t126, 0, [], [])
theorem w01_h126 : rt_chk w01_K w01_X w01_W [w01_t97, w01_t95, w01_t94] w01_S 4000 w01_i126 = true := by decide +kernel
def w01_i127 : rt_It := (w01_t127, 0, [false], [(37, (23, 0), (([((0, 59), (0, 0), none, none), ((0, 59), (0, 0), none, none), (((-9), 9), (0, 0), none, none), ((0, 60), (0, 0), none, none)], [79], []), [some (.inr (.inl (79, 1))), some (.inl (1, 0, 0)), some (.inl (2, 0, 0)), some (.inl (3, 0, 0)), some (.inl (4, 0, 0)), none, none, none, none, none, none, none, none, none, none, none, none, none, none, none, none], []), [(4, 0, 0)])])
theorem w01_h127 : rt_chk w01_K w01_X w01_W [w01_t104, w01_t126, w01_t100, w01_t103] w01_S 4000 w01_i127 = true := by decide +kernel
def w01_i128 : rt_It := (w01_t128, 1, [], [])
theorem w01_h128 : rt_chk w01_K w01_X w01_W [w01_t113, w01_t114, w01_t125, w01_t120, w01_t97, w01_t95, w01_t115, w01_t108, w01_t123, w01_t127, w01_t100, w01_t122] w01_S 4000 w01_i128 = true := by decide +kernel
