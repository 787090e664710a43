/-! The reference, bank 0, 3 ropes: what is by hand -/
theorem w03_goC : rt_cuts mg_S (rt_run w03_K w03_X [w03_t96] w03_S 3000 2 209 (rt_pcs mg_C) true (rt_arr w03_W mg_S true mg_C) (rt_tgv w03_W [mg_T1, mg_T2])) mg_C = true := by decide +kernel
theorem w03_goE : rt_run w03_K w03_X [w03_t96] w03_S 3000 2 209 (rt_pcs mg_C) false (rt_arr w03_W mg_S false mg_C) (rt_tgv w03_W [mg_T1, mg_T2]) mg_E = true := by decide +kernel
theorem w03_cm0 : mc_chk w03_K w03_X w03_W [w03_t2, w03_t3] w03_S 3000 12 0 = true := by decide +kernel
theorem w03_ct0 : mc_ty w03_K 0 0 = true := by decide +kernel
theorem w03_ce0 : rt_run w03_K w03_X [w03_t2, w03_t3] w03_S 3000 12 190 [10] false (rt_tgl 0 w03_W [mc_T0 0]) rt_kf2 (mc_S0 w03_t12.2.2.1.1 [some (.inr (.inl (79, 1))), some (.inl (0, 0, 0)), some (.inl (1, 0, 0))] w03_t12.2.2.1.2.2) = true := by decide +kernel
theorem w03_cm1 : mc_chk w03_K w03_X w03_W [w03_t2, w03_t3] w03_S 3000 12 1 = true := by decide +kernel
theorem w03_ct1 : mc_ty w03_K 1 0 = true := by decide +kernel
theorem w03_ce1 : rt_run w03_K w03_X [w03_t2, w03_t3] w03_S 3000 12 190 [10] false (rt_tgl 0 w03_W [mc_T0 1]) rt_kf2 (mc_S0 w03_t13.2.2.1.1 [some (.inr (.inl (79, 1))), some (.inl (0, 1, 1)), some (.inl (1, 0, 0))] w03_t13.2.2.1.2.2) = true := by decide +kernel
theorem w03_cm2 : mc_chk w03_K w03_X w03_W [w03_t2, w03_t3] w03_S 3000 12 2 = true := by decide +kernel
theorem w03_ct2 : mc_ty w03_K 2 0 = true := by decide +kernel
theorem w03_ce2 : rt_run w03_K w03_X [w03_t2, w03_t3] w03_S 3000 12 190 [10] false (rt_tgl 0 w03_W [mc_T0 2]) rt_kf2 (mc_S0 w03_t14.2.2.1.1 [some (.inr (.inl (79, 1))), some (.inl (0, 2, 2)), some (.inl (1, 0, 0))] w03_t14.2.2.1.2.2) = true := by decide +kernel
theorem w03_cm3 : mc_chk w03_K w03_X w03_W [w03_t2, w03_t3] w03_S 3000 12 3 = true := by decide +kernel
theorem w03_ct3 : mc_ty w03_K 3 0 = true := by decide +kernel
theorem w03_ce3 : rt_run w03_K w03_X [w03_t2, w03_t3] w03_S 3000 12 190 [10] false (rt_tgl 0 w03_W [mc_T0 3]) rt_kf2 (mc_S0 w03_t15.2.2.1.1 [some (.inr (.inl (79, 1))), some (.inl (0, 3, 3)), some (.inl (1, 0, 0))] w03_t15.2.2.1.2.2) = true := by decide +kernel
def w03_CS : List rt_Co := [w03_t97, w03_t98, w03_t95, w03_t94]
theorem w03_ok : rt_all1 (fun b => b) (mp_L w03_K 1) = true := by decide +kernel
theorem w03_qk : rt_all1 (fun b => b) (mq_L w03_K) = true := by decide +kernel
theorem w03_rk : rt_all1 (fun b => b) (mr_L w03_K) = true := by decide +kernel
theorem w03_f4 : mIn w03_K 32 0 4 0 0 = true := by decide +kernel
theorem w03_mu : mu_chk w03_K w03_X w03_W w03_CS w03_S 3000 8 1 = true := by decide +kernel
theorem w03_mi : mi_chk w03_K w03_X w03_W w03_S 3000 2 = true := by decide +kernel
theorem w03_mb : rt_all1 (fun b => b) (mb_L0 w03_K w03_X w03_W w03_CS w03_S 3000 8 1) = true := by decide +kernel
theorem w03_me : rt_all1 (fun b => b) (me_L0 w03_K w03_X w03_W w03_CS w03_S 3000 10 1) = true := by decide +kernel
theorem w03_mr0 : mr_chk w03_K w03_X w03_W w03_CS w03_S 3000 12 1 0 = true := by decide +kernel
theorem w03_mr1 : mr_chk w03_K w03_X w03_W w03_CS w03_S 3000 12 1 1 = true := by decide +kernel
theorem w03_mr2 : mr_chk w03_K w03_X w03_W w03_CS w03_S 3000 12 1 2 = true := by decide +kernel
theorem w03_mr3 : mr_chk w03_K w03_X w03_W w03_CS w03_S 3000 12 1 3 = true := by decide +kernel
theorem w03_mr : ∀ c, c < 4 → mr_chk w03_K w03_X w03_W w03_CS w03_S 3000 12 1 c = true
  | 0, _ => w03_mr0
  | 1, _ => w03_mr1
  | 2, _ => w03_mr2
  | 3, _ => w03_mr3
  | c + 4, h => by omega
