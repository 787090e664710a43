/-! The reference, bank 1, 2 ropes: what is by hand -/
theorem w12_goC : rt_cuts mg_S (rt_run w12_K w12_X [w12_t96] w12_S 3000 2 209 (rt_pcs mg_C) true (rt_arr w12_W mg_S true mg_C) (rt_tgv w12_W [mg_T1, mg_T2])) mg_C = true := by decide +kernel
theorem w12_goE : rt_run w12_K w12_X [w12_t96] w12_S 3000 2 209 (rt_pcs mg_C) false (rt_arr w12_W mg_S false mg_C) (rt_tgv w12_W [mg_T1, mg_T2]) mg_E = true := by decide +kernel
theorem w12_cm4 : mc_chk w12_K w12_X w12_W [w12_t2, w12_t3] w12_S 3000 12 4 = true := by decide +kernel
theorem w12_ct4 : mc_ty w12_K 4 1 = true := by decide +kernel
theorem w12_ce4 : rt_run w12_K w12_X [w12_t2, w12_t3] w12_S 3000 12 190 [10] false (rt_tgl 0 w12_W [mc_T0 4]) rt_kf2 (mc_S0 w12_t12.2.2.1.1 [some (.inr (.inl (79, 1))), some (.inl (0, 4, 4)), some (.inl (1, 0, 0))] w12_t12.2.2.1.2.2) = true := by decide +kernel
theorem w12_cm5 : mc_chk w12_K w12_X w12_W [w12_t2, w12_t3] w12_S 3000 12 5 = true := by decide +kernel
theorem w12_ct5 : mc_ty w12_K 5 1 = true := by decide +kernel
theorem w12_ce5 : rt_run w12_K w12_X [w12_t2, w12_t3] w12_S 3000 12 190 [10] false (rt_tgl 0 w12_W [mc_T0 5]) rt_kf2 (mc_S0 w12_t13.2.2.1.1 [some (.inr (.inl (79, 1))), some (.inl (0, 5, 5)), some (.inl (1, 0, 0))] w12_t13.2.2.1.2.2) = true := by decide +kernel
theorem w12_cm6 : mc_chk w12_K w12_X w12_W [w12_t2, w12_t3] w12_S 3000 12 6 = true := by decide +kernel
theorem w12_ct6 : mc_ty w12_K 6 1 = true := by decide +kernel
theorem w12_ce6 : rt_run w12_K w12_X [w12_t2, w12_t3] w12_S 3000 12 190 [10] false (rt_tgl 0 w12_W [mc_T0 6]) rt_kf2 (mc_S0 w12_t14.2.2.1.1 [some (.inr (.inl (79, 1))), some (.inl (0, 6, 6)), some (.inl (1, 0, 0))] w12_t14.2.2.1.2.2) = true := by decide +kernel
theorem w12_cm7 : mc_chk w12_K w12_X w12_W [w12_t2, w12_t3] w12_S 3000 12 7 = true := by decide +kernel
theorem w12_ct7 : mc_ty w12_K 7 1 = true := by decide +kernel
theorem w12_ce7 : rt_run w12_K w12_X [w12_t2, w12_t3] w12_S 3000 12 190 [10] false (rt_tgl 0 w12_W [mc_T0 7]) rt_kf2 (mc_S0 w12_t15.2.2.1.1 [some (.inr (.inl (79, 1))), some (.inl (0, 7, 7)), some (.inl (1, 0, 0))] w12_t15.2.2.1.2.2) = true := by decide +kernel
def w12_CS : List rt_Co := [w12_t97, w12_t98, w12_t95, w12_t94]
theorem w12_ok : rt_all1 (fun b => b) (mp_L w12_K 0) = true := by decide +kernel
theorem w12_qk : rt_all1 (fun b => b) (mq_L w12_K) = true := by decide +kernel
theorem w12_rk : rt_all1 (fun b => b) (mr_L w12_K) = true := by decide +kernel
theorem w12_f4 : mIn w12_K 32 0 4 0 0 = true := by decide +kernel
theorem w12_mu : mu_chk w12_K w12_X w12_W w12_CS w12_S 3000 8 0 = true := by decide +kernel
theorem w12_mi : mi_chk w12_K w12_X w12_W w12_S 3000 2 = true := by decide +kernel
theorem w12_mb : rt_all1 (fun b => b) (mb_L0 w12_K w12_X w12_W w12_CS w12_S 3000 8 0) = true := by decide +kernel
theorem w12_me : rt_all1 (fun b => b) (me_L0 w12_K w12_X w12_W w12_CS w12_S 3000 10 0) = true := by decide +kernel
theorem w12_mr0 : mr_chk w12_K w12_X w12_W w12_CS w12_S 3000 12 0 0 = true := by decide +kernel
theorem w12_mr1 : mr_chk w12_K w12_X w12_W w12_CS w12_S 3000 12 0 1 = true := by decide +kernel
theorem w12_mr2 : mr_chk w12_K w12_X w12_W w12_CS w12_S 3000 12 0 2 = true := by decide +kernel
theorem w12_mr3 : mr_chk w12_K w12_X w12_W w12_CS w12_S 3000 12 0 3 = true := by decide +kernel
theorem w12_mr : ∀ c, c < 4 → mr_chk w12_K w12_X w12_W w12_CS w12_S 3000 12 0 c = true
  | 0, _ => w12_mr0
  | 1, _ => w12_mr1
  | 2, _ => w12_mr2
  | 3, _ => w12_mr3
  | c + 4, h => by omega
