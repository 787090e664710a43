def wX_i164 : rt_It := (wX_t164, 0, [], [])
theorem wX_h164 : rt_chk wX_K wX_X wX_W [wX_t163] wX_S 3000 wX_i164 = true := by decide +kernel
def wX_i165 : rt_It := (wX_t165, 0, [false], [(2, (1, 0), (([((0, 59), (0, 0), none, none), ((1, 61), (0, 0), none, none)], [10, 3], []), [some (.inr (.inl (10, 1))), some (.inr (.inl (3, 2))), some (.inl (1, 0, 0)), some (.inl (2, 0, 0)), none, none, none, none, none, none, none, none, none, none, none, none, none, none, none, none, none], []), [(2, 0, 0)])])
theorem wX_h165 : rt_chk wX_K wX_X wX_W [wX_t163] wX_S 3000 wX_i165 = true := by decide +kernel
def wX_i166 : rt_It := (wX_t166, 0, [], [])
theorem wX_h166 : rt_chk wX_K wX_X wX_W [wX_t165] wX_S 3000 wX_i166 = true := by decide +kernel
def wX_i167 : rt_It := (wX_t167, 0, [false], [(16, (1, 0), (([(((-2147483648), 2147483647), (0, 0), none, none), ((0, 500), (0, 0), none, none)], [10, 3, 6, 6], []), [some (.inr (.inl (10, 1))), some (.inr (.inl (3, 2))), some (.inr (.inl (6, 3))), some (.inl (1, 0, 0)), some (.inl (2, 0, 0)), none, none, none, none, none, none, none, none, none, none, none, none, none, none, none, none], [(1, (0, 1), .inr (.inl (6, 4)))]), [(2, 0, 0)])])
theorem wX_h167 : rt_chk wX_K wX_X wX_W [wX_t153, wX_t143] wX_S 3000 wX_i167 = true := by decide +kernel
def wX_i168 : rt_It := (wX_t168, 0, [], [])
theorem wX_h168 : rt_chk wX_K wX_X wX_W [wX_t167] wX_S 3000 wX_i168 = true := by decide +kernel
def wX_i169 : rt_It := (wX_t169, 0, [false, true, false], [(4, (1, 0), (([(((-2147483648), 2147483647), (0, 0), none, none), ((0, 5), (0, 0), none, none)], [10, 3], []), [some (.inr (.inl (10, 1))), some (.inr (.inl (3, 2))), some (.inl (1, 0, 0)), some (.inl (2, 0, 0)), none, none, none, none, none, none, none, none, none, none, none, none, none, none, none, none, none, none, none], []), [(2, 0, 0), (0, 1, 1), (0, 0, 0)]),
  (17, (1, 0), (([(((-2147483648), 2147483647), (0, 0), none, none), ((0, 4), (0, 0), none, none), ((1, 5), (0, 0), none, none)], [10, 3], []), [some (.inr (.inl (10, 1))), some (.inr (.inl (3, 2))), some (.inl (1, 0, 0)), some (.inl (2, 0, 0)), some (.inl (3, 0, 0)), none, none, none, none, none, none, none, none, none, none, none, none, none, none, none, none, none, none], []), [(2, 0, 0), (0, 0, 0), (3, 0, 0)])])
theorem wX_h169 : rt_chk wX_K wX_X wX_W [] wX_S 3000 wX_i169 = true := by decide +kernel
def wX_i170 : rt_It := (wX_t170, 0, [false], [(41, (1, 0), (([(((-1), 4), (0, 0), none, none), ((0, 20), (0, 0), none, none), ((1, 300), (0, 0), none, none), (((-2147483648), 2147483647), (0, 0), none, none), ((0, 300), (0, 0), none, none)], [10, 3, 6, 6], []), [some (.inr (.inl (10, 1))), some (.inr (.inl (3, 2))), some (.inr (.inl (6, 3))), some (.inl (1, 0, 0)), some (.inl (2, 0, 0)), some (.inl (3, 0, 0)), some (.inl (4, 0, 0)), some (.inl (5, 0, 0)), none, none, none, none, none, none, none, none, none, none, none, none, none], [(1, (0, 1), .inr (.inl (6, 4)))]), [(5, 0, 0)])])
theorem wX_h170 : rt_chk wX_K wX_X wX_W [wX_t153, wX_t143, wX_t169] wX_S 3000 wX_i170 = true := by decide +kernel
def wX_i171 : rt_It := (wX_t171, 0, [], [])
theorem wX_h171 : rt_chk wX_K wX_X wX_W [wX_t170] wX_S 3000 wX_i171 = true := by decide +kernel
def wX_i172 : rt_It := (wX_t172, 0, [false], [(46, (1, 0), (([((0, 4), (0, 0), none, none), ((0, 1), (0, 0), none, none), (((-1), 20), (0, 0), none, none), (((-1), 2147483647), (0, 0), none, none), ((0, 21), (0, 0), none, none)], [0, 3, 6, 26], []), [some (.inr (.inl (0, 1))), some (.inl (1, 0, 0)), some (.inl (2, 0, 0)), some (.inl (3, 0, 0)), some (.inl (4, 0, 0)), some (.inl (5, 0, 0)), none, none, none, none, none, none, none, none, none, none, none, none, none, none, none], [(1, (0, 3), .inr (.inl (3, 2))), (1, (0, 5), .inr (.inl (6, 3))), (3, (0, 1), .inr (.inl (26, 4)))]), [(5, 0, 0)])])
theorem wX_h172 : rt_chk wX_K wX_X wX_W [wX_t170] wX_S 3000 wX_i172 = true := by decide +kernel
def wX_i173 : rt_It := (wX_t173, 0, [], [])
theorem wX_h173 : rt_chk wX_K wX_X wX_W [wX_t156] wX_S 3000 wX_i173 = true := by decide +kernel
def wX_i174 : rt_It := (wX_t174, 0, [false], [(16, (1, 0), (([((0, 59), (0, 0), none, none), ((0, 599), (0, 0), none, none), (((-2147483648), 2147483647), (0, 0), none, none), ((0, 2147483647), (0, 0), none, none), ((0, 500), (0, 0), none, none)], [10, 3], []), [some (.inr (.inl (10, 1))), some (.inr (.inl (3, 2))), some (.inl (1, 0, 0)), some (.inl (2, 0, 0)), some (.inl (3, 0, 0)), some (.inl (4, 0, 0)), some (.inl (5, 0, 0)), none, none, none, none, none, none, none, none, none, none, none, none, none, none], []), [(5, 0, 0)])])
theorem wX_h174 : rt_chk wX_K wX_X wX_W [] wX_S 3000 wX_i174 = true := by decide +kernel
def wX_i175 : rt_It := (wX_t175, 0, [], [])
theorem wX_h175 : rt_chk wX_K wX_X wX_W [wX_t174] wX_S 3000 wX_i175 = true := by decide +kernel
def wX_i176 : rt_It := (wX_t176, 0, [false], [(26, (0, 0), (([((0, 4), (0, 0), none, none), (((-2147483648), 2147483647), (0, 0), none, none), (((-2147483648), 2147483647), (0, 0), none, none), ((0, 5), (0, 0), none, none)], [0, 3, 6, 26], []), [some (.inr (.inl (0, 1))), some (.inl (1, 0, 0)), some (.inl (2, 0, 0)), some (.inl (3, 0, 0)), some (.inl (4, 0, 0)), none, none, none, none, none, none, none, none, none, none, none, none, none, none, none, none], [(1, (0, 3), .inr (.inl (3, 2))), (1, (0, 5), .inr (.inl (6, 3))), (3, (0, 1), .inr (.inl (26, 4)))]), [(4, 0, 0)])])
theorem wX_h176 : rt_chk wX_K wX_X wX_W [] wX_S 3000 wX_i176 = true := by decide +kernel
def wX_i177 : rt_It := (wX_t177, 0, [false], [(2, (1, 0), (([(((-2147483648), 2147483647), (0, 0), none, none), ((0, 5), (0, 0), none, none)], [0], []), [some (.inr (.inl (0, 1))), some (.inl (1, 0, 0)), some (.inl (2, 0, 0)), none, none, none, none, none, none, none, none, none, none, none, none, none, none, none, none, none, none], []), [(2, 0, 0)])])
theorem wX_h177 : rt_chk wX_K wX_X wX_W [wX_t176] wX_S 3000 wX_i177 = true := by decide +kernel
def wX_i178 : rt_It := (wX_t178, 0, [], [])
theorem wX_h178 : rt_chk wX_K wX_X wX_W [] wX_S 3000 wX_i178 = true := by decide +kernel
def wX_i179 : rt_It := (wX_t179, 0, [], [])
theorem wX_h179 : rt_chk wX_K wX_X wX_W [] wX_S 3000 wX_i179 = true := by decide +kernel
def wX_i180 : rt_It := (wX_t180, 0, [], [])
theorem wX_h180 : rt_chk wX_K wX_X wX_W [wX_t179] wX_S 3000 wX_i180 = true := by decide +kernel
def wX_i181 : rt_It := (wX_t181, 0, [], [])
theorem wX_h181 : rt_chk wX_K wX_X wX_W [] wX_S 3000 wX_i181 = true := by decide +kernel
def wX_i183 : rt_It := (wX_t183, 0, [false], [(2, (0, 0), (([(((-2147483648), 2147483647), (0, 0), none, none), ((0, 60), (0, 0), none, none)], [11], []), [some (.inr (.inl (11, 1))), some (.inl (1, 0, 0)), some (.inl (2, 0, 0)), none, none, none, none, none, none, none, none, none, none, none, none, none, none, none, none, none, none], []), [(2, 0, 0)])])
theorem wX_h183 : rt_chk wX_K wX_X wX_W [] wX_S 3000 wX_i183 = true := by decide +kernel
