/-! The reference, bank 1, 3 ropes: what is by hand -/
theorem w13_goC : rt_cuts mg_S (rt_run w13_K w13_X [w13_t96] w13_S 3000 2 209 (rt_pcs mg_C) true (rt_arr w13_W mg_S true mg_C) (rt_tgv w13_W [mg_T1, mg_T2])) mg_C = true := by decide +kernel
theorem w13_goE : rt_run w13_K w13_X [w13_t96] w13_S 3000 2 209 (rt_pcs mg_C) false (rt_arr w13_W mg_S false mg_C) (rt_tgv w13_W [mg_T1, mg_T2]) mg_E = true := by decide +kernel
theorem w13_cm4 : mc_chk w13_K w13_X w13_W [w13_t2, w13_t3] w13_S 3000 12 4 = true := by decide +kernel
theorem w13_ct4 : mc_ty w13_K 4 1 = true := by decide +kernel
theorem w13_ce4 : rt_run w13_K w13_X [w13_t2, w13_t3] w13_S 3000 12 190 [10] false (rt_tgl 0 w13_W [mc_T0 4]) rt_kf2 (mc_S0 w13_t12.2.2.1.1 [some (.inr (.inl (79, 1))), some (.inl (0, 4, 4)), some (.inl (1, 0, 0))] w13_t12.2.2.1.2.2) = true := by decide +kernel
theorem w13_cm5 : mc_chk w13_K w13_X w13_W [w13_t2, w13_t3] w13_S 3000 12 5 = true := by decide +kernel
theorem w13_ct5 : mc_ty w13_K 5 1 = true := by decide +kernel
theorem w13_ce5 : rt_run w13_K w13_X [w13_t2, w13_t3] w13_S 3000 12 190 [10] false (rt_tgl 0 w13_W [mc_T0 5]) rt_kf2 (mc_S0 w13_t13.2.2.1.1 [some (.inr (.inl (79, 1))), some (.inl (0, 5, 5)), some (.inl (1, 0, 0))] w13_t13.2.2.1.2.2) = true := by decide +kernel
theorem w13_cm6 : mc_chk w13_K w13_X w13_W [w13_t2, w13_t3] w13_S 3000 12 6 = true := by decide +kernel
theorem w13_ct6 : mc_ty w13_K 6 1 = true := by decide +kernel
theorem w13_ce6 : rt_run w13_K w13_X [w13_t2, w13_t3] w13_S 3000 12 190 [10] false (rt_tgl 0 w13_W [mc_T0 6]) rt_kf2 (mc_S0 w13_t14.2.2.1.1 [some (.inr (.inl (79, 1))), some (.inl (0, 6, 6)), some (.inl (1, 0, 0))] w13_t14.2.2.1.2.2) = true := by decide +kernel
theorem w13_cm7 : mc_chk w13_K w13_X w13_W [w13_t2, w13_t3] w13_S 3000 12 7 = true := by decide +kernel
theorem w13_ct7 : mc_ty w13_K 7 1 = true := by decide +kernel
theorem w13_ce7 : rt_run w13_K w13_X [w13_t2, w13_t3] w13_S 3000 12 190 [10] false (rt_tgl 0 w13_W [mc_T0 7]) rt_kf2 (mc_S0 w13_t15.2.2.1.1 [some (.inr (.inl (79, 1))), some (.inl (0, 7, 7)), some (.inl (1, 0, 0))] w13_t15.2.2.1.2.2) = true := by decide +kernel
def w13_CS : List rt_Co := [w13_t97, w13_t98, w13_t95, w13_t94]
theorem w13_ok : rt_all1 (fun b => b) (mp_L w13_K 0) = true := by decide +kernel
theorem w13_qk : rt_all1 (fun b => b) (mq_L w13_K) = true := by decide +kernel
theorem w13_rk : rt_all1 (fun b => b) (mr_L w13_K) = true := by decide +kernel
theorem w13_f4 : mIn w13_K 32 0 4 0 0 = true := by decide +kernel
theorem w13_mu : mu_chk w13_K w13_X w13_W w13_CS w13_S 3000 8 0 = true := by decide +kernel
theorem w13_mi : mi_chk w13_K w13_X w13_W w13_S 3000 2 = true := by decide +kernel
theorem w13_mb : rt_all1 (fun b => b) (mb_L0 w13_K w13_X w13_W w13_CS w13_S 3000 8 0) = true := by decide +kernel
theorem w13_me : rt_all1 (fun b => b) (me_L0 w13_K w13_X w13_W w13_CS w13_S 3000 10 0) = true := by decide +kernel
theorem w13_mr0 : mr_chk w13_K w13_X w13_W w13_CS w13_S 3000 12 0 0 = true := by decide +kernel
theorem w13_mr1 : mr_chk w13_K w13_X w13_W w13_CS w13_S 3000 12 0 1 = true := by decide +kernel
theorem w13_mr2 : mr_chk w13_K w13_X w13_W w13_CS w13_S 3000 12 0 2 = true := by decide +kernel
theorem w13_mr3 : mr_chk w13_K w13_X w13_W w13_CS w13_S 3000 12 0 3 = true := by decide +kernel
theorem w13_mr : ∀ c, c < 4 → mr_chk w13_K w13_X w13_W w13_CS w13_S 3000 12 0 c = true
  | 0, _ => w13_mr0
  | 1, _ => w13_mr1
  | 2, _ => w13_mr2
  | 3, _ => w13_mr3
  | c + 4, h => by omega
