def wX_i144 : rt_It := (wX_t144, 0, [false], [(29, (1, 0), (([((0, 500), (0, 0), none, none), ((0, 500), (0, 0), none, none)], [0, 6], []), [some (.inr (.inl (0, 1))), some (.inl (1, 0, 0)), some (.inl (2, 0, 0)), none, none, none, none, none, none, none, none, none, none, none, none, none, none, none, none, none, none], [(1, (0, 5), .inr (.inl (6, 2)))]), [(2, 0, 0)])])
theorem wX_h144 : rt_chk wX_K wX_X wX_W [wX_t143, wX_t125] wX_S 3000 wX_i144 = true := by decide +kernel
def wX_i145 : rt_It := (wX_t145, 0, [], [])
theorem wX_h145 : rt_chk wX_K wX_X wX_W [] wX_S 3000 wX_i145 = true := by decide +kernel
def wX_i146 : rt_It := (wX_t146, 0, [], [])
theorem wX_h146 : rt_chk wX_K wX_X wX_W [] wX_S 3000 wX_i146 = true := by decide +kernel
def wX_i147 : rt_It := (wX_t147, 0, [], [])
theorem wX_h147 : rt_chk wX_K wX_X wX_W [wX_t126] wX_S 3000 wX_i147 = true := by decide +kernel
def wX_i148 : rt_It := (wX_t148, 0, [], [])
theorem wX_h148 : rt_chk wX_K wX_X wX_W [] wX_S 3000 wX_i148 = true := by decide +kernel
def wX_i149 : rt_It := (wX_t149, 0, [], [])
theorem wX_h149 : rt_chk wX_K wX_X wX_W [] wX_S 3000 wX_i149 = true := by decide +kernel
def wX_i150 : rt_It := (wX_t150, 0, [], [])
theorem wX_h150 : rt_chk wX_K wX_X wX_W [] wX_S 3000 wX_i150 = true := by decide +kernel
def wX_i151 : rt_It := (wX_t151, 0, [], [])
theorem wX_h151 : rt_chk wX_K wX_X wX_W [] wX_S 3000 wX_i151 = true := by decide +kernel
def wX_i152 : rt_It := (wX_t152, 0, [], [])
theorem wX_h152 : rt_chk wX_K wX_X wX_W [] wX_S 3000 wX_i152 = true := by decide +kernel
def wX_i153 : rt_It := (wX_t153, 0, [false], [(50, (0, 0), (([((0, 5), (0, 0), none, none)], [6, 6], []), [some (.inr (.inl (6, 1))), some (.inr (.inl (6, 2))), some (.inl (1, 0, 0)), none, none, none, none, none, none, none, none, none, none, none, none, none, none, none, none, none, none], []), [(1, 0, 0)])])
theorem wX_h153 : rt_chk wX_K wX_X wX_W [] wX_S 3000 wX_i153 = true := by decide +kernel
def wX_i154 : rt_It := (wX_t154, 0, [true, false], [(31, (1, 0), (([(((-2147483648), 2147483647), (0, 0), none, none)], [10, 3, 6, 6], []), [some (.inr (.inl (10, 1))), some (.inr (.inl (3, 2))), some (.inr (.inl (6, 3))), some (.inl (1, 0, 0)), some (.inl (0, (-1), (-1))), some (.inl (0, 1, 1)), none, none, none, none, none, none, none, none, none, none, none, none, none, none, none, none], [(1, (0, 1), .inr (.inl (6, 4)))]), [(0, 0, 0), (0, 0, 0)]),
  (31, (1, 0), (([((0, 5), (0, 0), none, none), (((-2147483648), 2147483647), (0, 0), none, none), ((1, 501), (0, 0), none, none)], [10, 3, 6, 6, 22], []), [some (.inr (.inl (10, 1))), some (.inr (.inl (3, 2))), some (.inr (.inl (6, 3))), some (.inl (1, 0, 0)), some (.inl (2, 0, 0)), some (.inl (3, 0, 0)), none, none, none, none, none, none, none, none, none, none, none, none, none, none, none, none], [(1, (0, 1), .inr (.inl (6, 4))), (2, (0, 14), .inr (.inl (22, 5)))]), [(0, 1, 1), (3, 0, 0)])])
theorem wX_h154 : rt_chk wX_K wX_X wX_W [wX_t153, wX_t143] wX_S 3000 wX_i154 = true := by decide +kernel
def wX_i155 : rt_It := (wX_t155, 0, [], [])
theorem wX_h155 : rt_chk wX_K wX_X wX_W [wX_t154] wX_S 3000 wX_i155 = true := by decide +kernel
def wX_i156 : rt_It := (wX_t156, 0, [false, true, false], [(21, (1, 0), (([((1, 300), (0, 0), none, none), ((0, 300), (0, 0), none, none)], [10, 3, 6, 6], []), [some (.inr (.inl (10, 1))), some (.inr (.inl (3, 2))), some (.inr (.inl (6, 3))), some (.inl (1, 0, 0)), some (.inl (2, 0, 0)), none, none, none, none, none, none, none, none, none, none, none, none, none, none, none, none, none, none], [(1, (0, 1), .inr (.inl (6, 4)))]), [(2, 0, 0), (0, 1, 1), (0, 0, 0)]),
  (33, (1, 0), (([((1, 300), (0, 0), none, none), ((0, 299), (0, 0), none, none), (((-2147483648), 2147483647), (0, 0), none, none), ((0, 3), (0, 0), none, none)], [10, 3, 6, 6], []), [some (.inr (.inl (10, 1))), some (.inr (.inl (3, 2))), some (.inr (.inl (6, 3))), some (.inl (1, 0, 0)), some (.inl (2, 0, 0)), some (.inl (3, 0, 0)), some (.inl (4, 0, 0)), none, none, none, none, none, none, none, none, none, none, none, none, none, none, none, none], [(1, (0, 1), .inr (.inl (6, 4)))]), [(2, 0, 0), (0, 0, 0), (4, 0, 0)])])
theorem wX_h156 : rt_chk wX_K wX_X wX_W [wX_t153, wX_t143, wX_t126] wX_S 3000 wX_i156 = true := by decide +kernel
def wX_i157 : rt_It := (wX_t157, 0, [], [])
theorem wX_h157 : rt_chk wX_K wX_X wX_W [wX_t156] wX_S 3000 wX_i157 = true := by decide +kernel
def wX_i158 : rt_It := (wX_t158, 0, [false], [(17, (1, 0), (([((1, 99), (0, 0), none, none), (((-2147483648), 2147483647), (0, 0), none, none), ((0, 5), (0, 0), none, none)], [0], []), [some (.inr (.inl (0, 1))), some (.inl (1, 0, 0)), some (.inl (2, 0, 0)), some (.inl (3, 0, 0)), none, none, none, none, none, none, none, none, none, none, none, none, none, none, none, none, none], []), [(3, 0, 0)])])
theorem wX_h158 : rt_chk wX_K wX_X wX_W [] wX_S 3000 wX_i158 = true := by decide +kernel
def wX_i159 : rt_It := (wX_t159, 0, [false], [(4, (1, 0), (([(((-2147483648), 2147483647), (0, 0), none, none), ((0, 5), (0, 0), none, none)], [0], []), [some (.inr (.inl (0, 1))), some (.inl (1, 0, 0)), some (.inl (2, 0, 0)), none, none, none, none, none, none, none, none, none, none, none, none, none, none, none, none, none, none], []), [(2, 0, 0)])])
theorem wX_h159 : rt_chk wX_K wX_X wX_W [] wX_S 3000 wX_i159 = true := by decide +kernel
def wX_i160 : rt_It := (wX_t160, 0, [], [])
theorem wX_h160 : rt_chk wX_K wX_X wX_W [] wX_S 3000 wX_i160 = true := by decide +kernel
def wX_i161 : rt_It := (wX_t161, 0, [], [])
theorem wX_h161 : rt_chk wX_K wX_X wX_W [wX_t140] wX_S 3000 wX_i161 = true := by decide +kernel
def wX_i162 : rt_It := (wX_t162, 0, [], [])
theorem wX_h162 : rt_chk wX_K wX_X wX_W [] wX_S 3000 wX_i162 = true := by decide +kernel
def wX_i163 : rt_It := (wX_t163, 0, [false], [(12, (1, 0), (([((0, 59), (0, 0), none, none), (((-60), 60), (0, 0), none, none), ((0, 599), (0, 0), none, none), (((-2147483648), 2147483647), (0, 0), none, none), ((1, 501), (0, 0), none, none)], [10, 3], []), [some (.inr (.inl (10, 1))), some (.inr (.inl (3, 2))), some (.inl (1, 0, 0)), some (.inl (2, 0, 0)), some (.inl (3, 0, 0)), some (.inl (4, 0, 0)), some (.inl (5, 0, 0)), none, none, none, none, none, none, none, none, none, none, none, none, none, none], []), [(5, 0, 0)])])
theorem wX_h163 : rt_chk wX_K wX_X wX_W [] wX_S 3000 wX_i163 = true := by decide +kernel
