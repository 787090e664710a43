/-! The reference, bank 0, 1 ropes: what is by hand -/
theorem w01_goC : rt_cuts mg_S (rt_run w01_K w01_X [w01_t96] w01_S 3000 2 209 (rt_pcs mg_C) true (rt_arr w01_W mg_S true mg_C) (rt_tgv w01_W [mg_T1, mg_T2])) mg_C = true := by decide +kernel
theorem w01_goE : rt_run w01_K w01_X [w01_t96] w01_S 3000 2 209 (rt_pcs mg_C) false (rt_arr w01_W mg_S false mg_C) (rt_tgv w01_W [mg_T1, mg_T2]) mg_E = true := by decide +kernel
theorem w01_cm0 : mc_chk w01_K w01_X w01_W [w01_t2, w01_t3] w01_S 3000 12 0 = true := by decide +kernel
theorem w01_ct0 : mc_ty w01_K 0 0 = true := by decide +kernel
theorem w01_ce0 : rt_run w01_K w01_X [w01_t2, w01_t3] w01_S 3000 12 190 [10] false (rt_tgl 0 w01_W [mc_T0 0]) rt_kf2 (mc_S0 w01_t12.2.2.1.1 [some (.inr (.inl (79, 1))), some (.inl (0, 0, 0)), some (.inl (1, 0, 0))] w01_t12.2.2.1.2.2) = true := by decide +kernel
theorem w01_cm1 : mc_chk w01_K w01_X w01_W [w01_t2, w01_t3] w01_S 3000 12 1 = true := by decide +kernel
theorem w01_ct1 : mc_ty w01_K 1 0 = true := by decide +kernel
theorem w01_ce1 : rt_run w01_K w01_X [w01_t2, w01_t3] w01_S 3000 12 190 [10] false (rt_tgl 0 w01_W [mc_T0 1]) rt_kf2 (mc_S0 w01_t13.2.2.1.1 [some (.inr (.inl (79, 1))), some (.inl (0, 1, 1)), some (.inl (1, 0, 0))] w01_t13.2.2.1.2.2) = true := by decide +kernel
theorem w01_cm2 : mc_chk w01_K w01_X w01_W [w01_t2, w01_t3] w01_S 3000 12 2 = true := by decide +kernel
theorem w01_ct2 : mc_ty w01_K 2 0 = true := by decide +kernel
theorem w01_ce2 : rt_run w01_K w01_X [w01_t2, w01_t3] w01_S 3000 12 190 [10] false (rt_tgl 0 w01_W [mc_T0 2]) rt_kf2 (mc_S0 w01_t14.2.2.1.1 [some (.inr (.inl (79, 1))), some (.inl (0, 2, 2)), some (.inl (1, 0, 0))] w01_t14.2.2.1.2.2) = true := by decide +kernel
theorem w01_cm3 : mc_chk w01_K w01_X w01_W [w01_t2, w01_t3] w01_S 3000 12 3 = true := by decide +kernel
theorem w01_ct3 : mc_ty w01_K 3 0 = true := by decide +kernel
theorem w01_ce3 : rt_run w01_K w01_X [w01_t2, w01_t3] w01_S 3000 12 190 [10] false (rt_tgl 0 w01_W [mc_T0 3]) rt_kf2 (mc_S0 w01_t15.2.2.1.1 [some (.inr (.inl (79, 1))), some (.inl (0, 3, 3)), some (.inl (1, 0, 0))] w01_t15.2.2.1.2.2) = true := by decide +kernel
def w01_CS : List rt_Co := [w01_t97, w01_t98, w01_t95, w01_t94]
theorem w01_ok : rt_all1 (fun b => b) (mp_L w01_K 1) = true := by decide +kernel
theorem w01_qk : rt_all1 (fun b => b) (mq_L w01_K) = true := by decide +kernel
theorem w01_rk : rt_all1 (fun b => b) (mr_L w01_K) = true := by decide +kernel
theorem w01_f4 : mIn w01_K 32 0 4 0 0 = true := by decide +kernel
theorem w01_mu : mu_chk w01_K w01_X w01_W w01_CS w01_S 3000 8 1 = true := by decide +kernel
theorem w01_mi : mi_chk w01_K w01_X w01_W w01_S 3000 2 = true := by decide +kernel
theorem w01_mb : rt_all1 (fun b => b) (mb_L0 w01_K w01_X w01_W w01_CS w01_S 3000 8 1) = true := by decide +kernel
theorem w01_me : rt_all1 (fun b => b) (me_L0 w01_K w01_X w01_W w01_CS w01_S 3000 10 1) = true := by decide +kernel
theorem w01_mr0 : mr_chk w01_K w01_X w01_W w01_CS w01_S 3000 12 1 0 = true := by decide +kernel
theorem w01_mr1 : mr_chk w01_K w01_X w01_W w01_CS w01_S 3000 12 1 1 = true := by decide +kernel
theorem w01_mr2 : mr_chk w01_K w01_X w01_W w01_CS w01_S 3000 12 1 2 = true := by decide +kernel
theorem w01_mr3 : mr_chk w01_K w01_X w01_W w01_CS w01_S 3000 12 1 3 = true := by decide +kernel
theorem w01_mr : ∀ c, c < 4 → mr_chk w01_K w01_X w01_W w01_CS w01_S 3000 12 1 c = true
  | 0, _ => w01_mr0
  | 1, _ => w01_mr1
  | 2, _ => w01_mr2
  | 3, _ => w01_mr3
  | c + 4, h => by omega
