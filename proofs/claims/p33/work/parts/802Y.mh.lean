/-! The reference, bank 0, 2 ropes: what is by hand -/
theorem w02_goC : rt_cuts mg_S (rt_run w02_K w02_X [w02_t96] w02_S 3000 2 209 (rt_pcs mg_C) true (rt_arr w02_W mg_S true mg_C) (rt_tgv w02_W [mg_T1, mg_T2])) mg_C = true := by decide +kernel
theorem w02_goE : rt_run w02_K w02_X [w02_t96] w02_S 3000 2 209 (rt_pcs mg_C) false (rt_arr w02_W mg_S false mg_C) (rt_tgv w02_W [mg_T1, mg_T2]) mg_E = true := by decide +kernel
theorem w02_cm0 : mc_chk w02_K w02_X w02_W [w02_t2, w02_t3] w02_S 3000 12 0 = true := by decide +kernel
theorem w02_ct0 : mc_ty w02_K 0 0 = true := by decide +kernel
theorem w02_ce0 : rt_run w02_K w02_X [w02_t2, w02_t3] w02_S 3000 12 190 [10] false (rt_tgl 0 w02_W [mc_T0 0]) rt_kf2 (mc_S0 w02_t12.2.2.1.1 [some (.inr (.inl (79, 1))), some (.inl (0, 0, 0)), some (.inl (1, 0, 0))] w02_t12.2.2.1.2.2) = true := by decide +kernel
theorem w02_cm1 : mc_chk w02_K w02_X w02_W [w02_t2, w02_t3] w02_S 3000 12 1 = true := by decide +kernel
theorem w02_ct1 : mc_ty w02_K 1 0 = true := by decide +kernel
theorem w02_ce1 : rt_run w02_K w02_X [w02_t2, w02_t3] w02_S 3000 12 190 [10] false (rt_tgl 0 w02_W [mc_T0 1]) rt_kf2 (mc_S0 w02_t13.2.2.1.1 [some (.inr (.inl (79, 1))), some (.inl (0, 1, 1)), some (.inl (1, 0, 0))] w02_t13.2.2.1.2.2) = true := by decide +kernel
theorem w02_cm2 : mc_chk w02_K w02_X w02_W [w02_t2, w02_t3] w02_S 3000 12 2 = true := by decide +kernel
theorem w02_ct2 : mc_ty w02_K 2 0 = true := by decide +kernel
theorem w02_ce2 : rt_run w02_K w02_X [w02_t2, w02_t3] w02_S 3000 12 190 [10] false (rt_tgl 0 w02_W [mc_T0 2]) rt_kf2 (mc_S0 w02_t14.2.2.1.1 [some (.inr (.inl (79, 1))), some (.inl (0, 2, 2)), some (.inl (1, 0, 0))] w02_t14.2.2.1.2.2) = true := by decide +kernel
theorem w02_cm3 : mc_chk w02_K w02_X w02_W [w02_t2, w02_t3] w02_S 3000 12 3 = true := by decide +kernel
theorem w02_ct3 : mc_ty w02_K 3 0 = true := by decide +kernel
theorem w02_ce3 : rt_run w02_K w02_X [w02_t2, w02_t3] w02_S 3000 12 190 [10] false (rt_tgl 0 w02_W [mc_T0 3]) rt_kf2 (mc_S0 w02_t15.2.2.1.1 [some (.inr (.inl (79, 1))), some (.inl (0, 3, 3)), some (.inl (1, 0, 0))] w02_t15.2.2.1.2.2) = true := by decide +kernel
