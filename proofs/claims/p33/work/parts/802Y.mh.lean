/-! The reference, bank 0, 2 ropes: what is by hand -/
theorem w02_goC : rt_cuts mg_S (rt_run w02_K w02_X [w02_t96] w02_S 3000 2 209 (rt_pcs mg_C) true (rt_arr w02_W mg_S true mg_C) (rt_tgv w02_W [mg_T1, mg_T2])) mg_C = true := by decide +kernel
theorem w02_goE : rt_run w02_K w02_X [w02_t96] w02_S 3000 2 209 (rt_pcs mg_C) false (rt_arr w02_W mg_S false mg_C) (rt_tgv w02_W [mg_T1, mg_T2]) mg_E = true := by decide +kernel
theorem w02_cm0 : mc_chk w02_K w02_X w02_W [w02_t2, w02_t3] w02_S 3000 12 0 = true := by decide +kernel
theorem w02_ct0 : mc_ty w02_K 0 0 = true := by decide +kernel
theorem w02_ce0 : rt_run w02_K w02_X [w02_t2, w02_t3] w02_S 3000 12 190 [10] false (rt_tgl 0 w02_W [mc_T0 0]) rt_kf2 (mc_S0 w02_t12.2.2.1.1 [some (.inr (.inl (79, 1))), some (.inl (0, 0, 0)), some (.inl (1, 0, 0))] w02_t12.2.2.1.2.2) = true := by decide +kernel
theorem w02_cm1 : mc_chk w02_K w02_X w02_W [w02_t2, w02_t3] w02_S 3000 12 1 = true := by decide +kernel
theorem w02_ct1 : mc_ty w02_K 1 0 = true := by decide +kernel
theorem w02_ce1 : rt_run w02_K w02_X [w02_t2, w02_t3] w02_S 3000 12 190 [10] false (rt_tgl 0 w02_W [mc_T0 1]) rt_kf2 (mc_S0 w02_t13.2.2.1.1 [some (.inr (.inl (79, 1))), some (.inl (0, 1, 1)), some (.inl (1, 0, 0))] w02_t13.2.2.1.2.2) = true := by decide +kernel
theorem w02_cm2 : mc_chk w02_K w02_X w02_W [w02_t2, w02_t3] w02_S 3000 12 2 = true := by decide +kernel
theorem w02_ct2 : mc_ty w02_K 2 0 = true := by decide +kernel
theorem w02_ce2 : rt_run w02_K w02_X [w02_t2, w02_t3] w02_S 3000 12 190 [10] false (rt_tgl 0 w02_W [mc_T0 2]) rt_kf2 (mc_S0 w02_t14.2.2.1.1 [some (.inr (.inl (79, 1))), some (.inl (0, 2, 2)), some (.inl (1, 0, 0))] w02_t14.2.2.1.2.2) = true := by decide +kernel
theorem w02_cm3 : mc_chk w02_K w02_X w02_W [w02_t2, w02_t3] w02_S 3000 12 3 = true := by decide +kernel
theorem w02_ct3 : mc_ty w02_K 3 0 = true := by decide +kernel
theorem w02_ce3 : rt_run w02_K w02_X [w02_t2, w02_t3] w02_S 3000 12 190 [10] false (rt_tgl 0 w02_W [mc_T0 3]) rt_kf2 (mc_S0 w02_t15.2.2.1.1 [some (.inr (.inl (79, 1))), some (.inl (0, 3, 3)), some (.inl (1, 0, 0))] w02_t15.2.2.1.2.2) = true := by decide +kernel
def w02_CS : List rt_Co := [w02_t97, w02_t98, w02_t95, w02_t94]
theorem w02_ok : rt_all1 (fun b => b) (mp_L w02_K 1) = true := by decide +kernel
theorem w02_qk : rt_all1 (fun b => b) (mq_L w02_K) = true := by decide +kernel
theorem w02_rk : rt_all1 (fun b => b) (mr_L w02_K) = true := by decide +kernel
theorem w02_f4 : mIn w02_K 32 0 4 0 0 = true := by decide +kernel
theorem w02_mu : mu_chk w02_K w02_X w02_W w02_CS w02_S 3000 8 1 = true := by decide +kernel
theorem w02_mi : mi_chk w02_K w02_X w02_W w02_S 3000 2 = true := by decide +kernel
theorem w02_mb : rt_all1 (fun b => b) (mb_L0 w02_K w02_X w02_W w02_CS w02_S 3000 8 1) = true := by decide +kernel
theorem w02_me : rt_all1 (fun b => b) (me_L0 w02_K w02_X w02_W w02_CS w02_S 3000 10 1) = true := by decide +kernel
theorem w02_mr0 : mr_chk w02_K w02_X w02_W w02_CS w02_S 3000 12 1 0 = true := by decide +kernel
theorem w02_mr1 : mr_chk w02_K w02_X w02_W w02_CS w02_S 3000 12 1 1 = true := by decide +kernel
theorem w02_mr2 : mr_chk w02_K w02_X w02_W w02_CS w02_S 3000 12 1 2 = true := by decide +kernel
theorem w02_mr3 : mr_chk w02_K w02_X w02_W w02_CS w02_S 3000 12 1 3 = true := by decide +kernel
theorem w02_mr : ∀ c, c < 4 → mr_chk w02_K w02_X w02_W w02_CS w02_S 3000 12 1 c = true
  | 0, _ => w02_mr0
  | 1, _ => w02_mr1
  | 2, _ => w02_mr2
  | 3, _ => w02_mr3
  | c + 4, h => by omega
