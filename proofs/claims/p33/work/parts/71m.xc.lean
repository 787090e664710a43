def wX_i184 : rt_It := (wX_t184, 0, [false], [(4, (0, 0), (([(((-2147483648), 2147483647), (0, 0), none, none), (((-2147483648), 2147483647), (0, 0), none, none), ((0, 60), (0, 0), none, none)], [11], []), [some (.inr (.inl (11, 1))), some (.inl (1, 0, 0)), some (.inl (2, 0, 0)), some (.inl (3, 0, 0)), none, none, none, none, none, none, none, none, none, none, none, none, none, none, none, none, none], []), [(3, 0, 0)])])
theorem wX_h184 : rt_chk wX_K wX_X wX_W [] wX_S 3000 wX_i184 = true := by decide +kernel
def wX_i185 : rt_It := (wX_t185, 0, [false, true, false], [(10, (1, 0), (([((0, 201), (0, 0), none, none)], [10, 3, 34, 6], []), [some (.inr (.inl (10, 1))), some (.inr (.inl (3, 2))), some (.inr (.inl (34, 3))), some (.inl (1, 0, 0)), none, none, none, none, none, none, none, none, none, none, none, none, none, none, none, none, none, none, none], [(1, (0, 1), .inr (.inl (6, 4)))]), [(1, 0, 0), (0, 1, 1), (0, 0, 0)]),
  (32, (1, 0), (([((0, 200), (0, 0), none, none), ((0, 5), (0, 0), none, none)], [10, 3, 34, 9, 6], []), [some (.inr (.inl (10, 1))), some (.inr (.inl (3, 2))), some (.inr (.inl (34, 3))), some (.inl (1, 0, 0)), some (.inl (2, 0, 0)), none, none, none, none, none, none, none, none, none, none, none, none, none, none, none, none, none, none], [(1, (0, 0), .inr (.inl (9, 4))), (1, (0, 1), .inr (.inl (6, 5)))]), [(1, 0, 0), (0, 0, 0), (2, 0, 0)])])
theorem wX_h185 : rt_chk wX_K wX_X wX_W [wX_t9, wX_t143] wX_S 3000 wX_i185 = true := by decide +kernel
def wX_i186 : rt_It := (wX_t186, 0, [], [])
theorem wX_h186 : rt_chk wX_K wX_X wX_W [wX_t185, wX_t184, wX_t183] wX_S 3000 wX_i186 = true := by decide +kernel
def wX_i187 : rt_It := (wX_t187, 0, [false], [(6, (0, 0), (([((0, 4), (0, 0), none, none), (((-2147483648), 2147483647), (0, 0), none, none), ((0, 201), (0, 0), none, none), (((-1), 59), (0, 0), none, none), ((0, 60), (0, 0), none, none)], [11], []), [some (.inr (.inl (11, 1))), some (.inl (1, 0, 0)), some (.inl (2, 0, 0)), some (.inl (3, 0, 0)), some (.inl (4, 0, 0)), some (.inl (5, 0, 0)), none, none, none, none, none, none, none, none, none, none, none, none, none, none, none], []), [(5, 0, 0)])])
theorem wX_h187 : rt_chk wX_K wX_X wX_W [] wX_S 3000 wX_i187 = true := by decide +kernel
def wX_i188 : rt_It := (wX_t188, 0, [], [])
theorem wX_h188 : rt_chk wX_K wX_X wX_W [wX_t187] wX_S 3000 wX_i188 = true := by decide +kernel
def wX_i189 : rt_It := (wX_t189, 0, [], [])
theorem wX_h189 : rt_chk wX_K wX_X wX_W [wX_t188] wX_S 3000 wX_i189 = true := by decide +kernel
def wX_i190 : rt_It := (wX_t190, 0, [], [])
theorem wX_h190 : rt_chk wX_K wX_X wX_W [wX_t153] wX_S 3000 wX_i190 = true := by decide +kernel
def wX_i191 : rt_It := (wX_t191, 0, [], [])
theorem wX_h191 : rt_chk wX_K wX_X wX_W [wX_t153] wX_S 3000 wX_i191 = true := by decide +kernel
def wX_i192 : rt_It := (wX_t192, 0, [], [])
theorem wX_h192 : rt_chk wX_K wX_X wX_W [] wX_S 3000 wX_i192 = true := by decide +kernel
