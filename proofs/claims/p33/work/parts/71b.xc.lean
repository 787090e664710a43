def wX_i26 : rt_It := (wX_t26, 0, [], [])
theorem wX_h26 : rt_chk wX_K wX_X wX_W [wX_t25, wX_t13] wX_S 3000 wX_i26 = true := by decide +kernel
def wX_i27 : rt_It := (wX_t27, 0, [], [])
theorem wX_h27 : rt_chk wX_K wX_X wX_W [wX_t26, wX_t21] wX_S 3000 wX_i27 = true := by decide +kernel
def wX_i28 : rt_It := (wX_t28, 0, [], [])
theorem wX_h28 : rt_chk wX_K wX_X wX_W [wX_t17] wX_S 3000 wX_i28 = true := by decide +kernel
def wX_i29 : rt_It := (wX_t29, 0, [], [])
theorem wX_h29 : rt_chk wX_K wX_X wX_W [wX_t28, wX_t13] wX_S 3000 wX_i29 = true := by decide +kernel
def wX_i30 : rt_It := (wX_t30, 0, [], [])
theorem wX_h30 : rt_chk wX_K wX_X wX_W [wX_t29, wX_t21] wX_S 3000 wX_i30 = true := by decide +kernel
def wX_i31 : rt_It := (wX_t31, 0, [], [])
theorem wX_h31 : rt_chk wX_K wX_X wX_W [wX_t17] wX_S 3000 wX_i31 = true := by decide +kernel
def wX_i32 : rt_It := (wX_t32, 0, [], [])
theorem wX_h32 : rt_chk wX_K wX_X wX_W [wX_t31, wX_t13] wX_S 3000 wX_i32 = true := by decide +kernel
def wX_i33 : rt_It := (wX_t33, 0, [], [])
theorem wX_h33 : rt_chk wX_K wX_X wX_W [wX_t32, wX_t21] wX_S 3000 wX_i33 = true := by decide +kernel
def wX_i34 : rt_It := (wX_t34, 0, [], [])
theorem wX_h34 : rt_chk wX_K wX_X wX_W [wX_t17] wX_S 3000 wX_i34 = true := by decide +kernel
def wX_i35 : rt_It := (wX_t35, 0, [false], [(19, (0, 0), (([((0, 2), (0, 0), none, none), (((-1), 60), (0, 0), none, none)], [3, 18], []), [some (.inr (.inl (3, 1))), some (.inl (1, 0, 0)), some (.inl (2, 0, 0)), none, none, none, none, none, none, none, none, none, none, none, none, none, none, none, none, none, none], [(1, (0, 1), .inr (.inl (18, 2)))]), [(2, 0, 0)])])
theorem wX_h35 : rt_chk wX_K wX_X wX_W [] wX_S 3000 wX_i35 = true := by decide +kernel
def wX_i36 : rt_It := (wX_t36, 0, [false], [(109, (0, 0), (([((0, 2), (0, 0), none, none), (((-1), 60), (0, 0), none, none)], [1, 4, 2, 3, 15, 12, 18], []), [some (.inr (.inl (1, 1))), some (.inl (1, 0, 0)), some (.inr (.inl (4, 2))), some (.inl (2, 0, 0)), none, none, none, none, none, none, none, none, none, none, none, none, none, none, none, none, none], [(1, (0, 0), .inr (.inl (2, 3))), (1, (0, 1), .inr (.inl (3, 4))), (1, (0, 2), .inr (.inl (15, 5))), (3, (0, 0), .inr (.inl (12, 6))), (4, (0, 0), .inl (1, 0, 0)), (4, (0, 1), .inr (.inl (18, 7)))]), [(2, 0, 0)])])
theorem wX_h36 : rt_chk wX_K wX_X wX_W [wX_t24, wX_t30, wX_t20, wX_t19, wX_t17, wX_t27, wX_t33, wX_t21, wX_t34, wX_t35] wX_S 3000 wX_i36 = true := by decide +kernel
def wX_i37 : rt_It := (wX_t37, 0, [], [])
theorem wX_h37 : rt_chk wX_K wX_X wX_W [wX_t17] wX_S 3000 wX_i37 = true := by decide +kernel
def wX_i38 : rt_It := (wX_t38, 0, [], [])
theorem wX_h38 : rt_chk wX_K wX_X wX_W [wX_t37, wX_t13] wX_S 3000 wX_i38 = true := by decide +kernel
def wX_i39 : rt_It := (wX_t39, 0, [], [])
theorem wX_h39 : rt_chk wX_K wX_X wX_W [wX_t17] wX_S 3000 wX_i39 = true := by decide +kernel
def wX_i40 : rt_It := (wX_t40, 0, [], [])
theorem wX_h40 : rt_chk wX_K wX_X wX_W [wX_t39, wX_t13] wX_S 3000 wX_i40 = true := by decide +kernel
def wX_i41 : rt_It := (wX_t41, 0, [false], [(2, (5, 0), (([((0, 5), (0, 0), none, none), ((0, 5), (0, 0), none, none)], [1, 17, 2, 3, 12], []), [some (.inr (.inl (1, 1))), some (.inr (.inl (17, 2))), some (.inl (1, 0, 0)), some (.inl (2, 0, 0)), none, none, none, none, none, none, none, none, none, none, none, none, none, none, none, none, none], [(1, (0, 0), .inr (.inl (2, 3))), (1, (0, 1), .inr (.inl (3, 4))), (3, (0, 0), .inr (.inl (12, 5)))]), [(2, 0, 0)])])
theorem wX_h41 : rt_chk wX_K wX_X wX_W [] wX_S 3000 wX_i41 = true := by decide +kernel
def wX_i42 : rt_It := (wX_t42, 0, [], [])
theorem wX_h42 : rt_chk wX_K wX_X wX_W [wX_t17, wX_t41, wX_t13] wX_S 3000 wX_i42 = true := by decide +kernel
def wX_i43 : rt_It := (wX_t43, 0, [], [])
theorem wX_h43 : rt_chk wX_K wX_X wX_W [wX_t18, wX_t17, wX_t13] wX_S 3000 wX_i43 = true := by decide +kernel
def wX_i44 : rt_It := (wX_t44, 0, [], [])
theorem wX_h44 : rt_chk wX_K wX_X wX_W [wX_t17] wX_S 3000 wX_i44 = true := by decide +kernel
def wX_i45 : rt_It := (wX_t45, 0, [], [])
theorem wX_h45 : rt_chk wX_K wX_X wX_W [wX_t44, wX_t13] wX_S 3000 wX_i45 = true := by decide +kernel
def wX_i46 : rt_It := (wX_t46, 0, [], [])
theorem wX_h46 : rt_chk wX_K wX_X wX_W [wX_t45, wX_t21] wX_S 3000 wX_i46 = true := by decide +kernel
def wX_i47 : rt_It := (wX_t47, 0, [], [])
theorem wX_h47 : rt_chk wX_K wX_X wX_W [wX_t17] wX_S 3000 wX_i47 = true := by decide +kernel
def wX_i48 : rt_It := (wX_t48, 0, [], [])
theorem wX_h48 : rt_chk wX_K wX_X wX_W [wX_t47, wX_t13] wX_S 3000 wX_i48 = true := by decide +kernel
def wX_i49 : rt_It := (wX_t49, 0, [], [])
theorem wX_h49 : rt_chk wX_K wX_X wX_W [wX_t21, wX_t48] wX_S 3000 wX_i49 = true := by decide +kernel
def wX_i50 : rt_It := (wX_t50, 0, [], [])
theorem wX_h50 : rt_chk wX_K wX_X wX_W [wX_t43, wX_t46, wX_t42, wX_t33, wX_t21, wX_t49] wX_S 3000 wX_i50 = true := by decide +kernel
def wX_i51 : rt_It := (wX_t51, 0, [], [])
theorem wX_h51 : rt_chk wX_K wX_X wX_W [wX_t38, wX_t21] wX_S 3000 wX_i51 = true := by decide +kernel
def wX_i52 : rt_It := (wX_t52, 0, [], [])
theorem wX_h52 : rt_chk wX_K wX_X wX_W [wX_t25, wX_t20, wX_t17, wX_t51] wX_S 3000 wX_i52 = true := by decide +kernel
def wX_i53 : rt_It := (wX_t53, 0, [false], [(2, (5, 0), (([((0, 4), (0, 0), none, none), ((0, 4), (0, 0), none, none)], [1, 16, 2, 3, 12], []), [some (.inr (.inl (1, 1))), some (.inr (.inl (16, 2))), some (.inl (1, 0, 0)), some (.inl (2, 0, 0)), none, none, none, none, none, none, none, none, none, none, none, none, none, none, none, none, none], [(1, (0, 0), .inr (.inl (2, 3))), (1, (0, 1), .inr (.inl (3, 4))), (3, (0, 0), .inr (.inl (12, 5)))]), [(2, 0, 0)])])
theorem wX_h53 : rt_chk wX_K wX_X wX_W [] wX_S 3000 wX_i53 = true := by decide +kernel
def wX_i54 : rt_It := (wX_t54, 0, [], [])
theorem wX_h54 : rt_chk wX_K wX_X wX_W [wX_t17, wX_t53, wX_t13] wX_S 3000 wX_i54 = true := by decide +kernel
def wX_i55 : rt_It := (wX_t55, 0, [], [])
theorem wX_h55 : rt_chk wX_K wX_X wX_W [wX_t51, wX_t54, wX_t27] wX_S 3000 wX_i55 = true := by decide +kernel
