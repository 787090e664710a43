/-! The reference, bank 1, 1 ropes: what is by hand -/
theorem w11_goC : rt_cuts mg_S (rt_run w11_K w11_X [w11_t96] w11_S 3000 2 209 (rt_pcs mg_C) true (rt_arr w11_W mg_S true mg_C) (rt_tgv w11_W [mg_T1, mg_T2])) mg_C = true := by decide +kernel
theorem w11_goE : rt_run w11_K w11_X [w11_t96] w11_S 3000 2 209 (rt_pcs mg_C) false (rt_arr w11_W mg_S false mg_C) (rt_tgv w11_W [mg_T1, mg_T2]) mg_E = true := by decide +kernel
theorem w11_cm4 : mc_chk w11_K w11_X w11_W [w11_t2, w11_t3] w11_S 3000 12 4 = true := by decide +kernel
theorem w11_ct4 : mc_ty w11_K 4 1 = true := by decide +kernel
theorem w11_ce4 : rt_run w11_K w11_X [w11_t2, w11_t3] w11_S 3000 12 190 [10] false (rt_tgl 0 w11_W [mc_T0 4]) rt_kf2 (mc_S0 w11_t12.2.2.1.1 [some (.inr (.inl (79, 1))), some (.inl (0, 4, 4)), some (.inl (1, 0, 0))] w11_t12.2.2.1.2.2) = true := by decide +kernel
theorem w11_cm5 : mc_chk w11_K w11_X w11_W [w11_t2, w11_t3] w11_S 3000 12 5 = true := by decide +kernel
theorem w11_ct5 : mc_ty w11_K 5 1 = true := by decide +kernel
theorem w11_ce5 : rt_run w11_K w11_X [w11_t2, w11_t3] w11_S 3000 12 190 [10] false (rt_tgl 0 w11_W [mc_T0 5]) rt_kf2 (mc_S0 w11_t13.2.2.1.1 [some (.inr (.inl (79, 1))), some (.inl (0, 5, 5)), some (.inl (1, 0, 0))] w11_t13.2.2.1.2.2) = true := by decide +kernel
theorem w11_cm6 : mc_chk w11_K w11_X w11_W [w11_t2, w11_t3] w11_S 3000 12 6 = true := by decide +kernel
theorem w11_ct6 : mc_ty w11_K 6 1 = true := by decide +kernel
theorem w11_ce6 : rt_run w11_K w11_X [w11_t2, w11_t3] w11_S 3000 12 190 [10] false (rt_tgl 0 w11_W [mc_T0 6]) rt_kf2 (mc_S0 w11_t14.2.2.1.1 [some (.inr (.inl (79, 1))), some (.inl (0, 6, 6)), some (.inl (1, 0, 0))] w11_t14.2.2.1.2.2) = true := by decide +kernel
theorem w11_cm7 : mc_chk w11_K w11_X w11_W [w11_t2, w11_t3] w11_S 3000 12 7 = true := by decide +kernel
theorem w11_ct7 : mc_ty w11_K 7 1 = true := by decide +kernel
theorem w11_ce7 : rt_run w11_K w11_X [w11_t2, w11_t3] w11_S 3000 12 190 [10] false (rt_tgl 0 w11_W [mc_T0 7]) rt_kf2 (mc_S0 w11_t15.2.2.1.1 [some (.inr (.inl (79, 1))), some (.inl (0, 7, 7)), some (.inl (1, 0, 0))] w11_t15.2.2.1.2.2) = true := by decide +kernel
def w11_CS : List rt_Co := [w11_t97, w11_t98, w11_t95, w11_t94]
theorem w11_ok : rt_all1 (fun b => b) (mp_L w11_K 0) = true := by decide +kernel
theorem w11_qk : rt_all1 (fun b => b) (mq_L w11_K) = true := by decide +kernel
theorem w11_rk : rt_all1 (fun b => b) (mr_L w11_K) = true := by decide +kernel
theorem w11_f4 : mIn w11_K 32 0 4 0 0 = true := by decide +kernel
theorem w11_mu : mu_chk w11_K w11_X w11_W w11_CS w11_S 3000 8 0 = true := by decide +kernel
theorem w11_mi : mi_chk w11_K w11_X w11_W w11_S 3000 2 = true := by decide +kernel
theorem w11_mb : rt_all1 (fun b => b) (mb_L0 w11_K w11_X w11_W w11_CS w11_S 3000 8 0) = true := by decide +kernel
theorem w11_me : rt_all1 (fun b => b) (me_L0 w11_K w11_X w11_W w11_CS w11_S 3000 10 0) = true := by decide +kernel
theorem w11_mr0 : mr_chk w11_K w11_X w11_W w11_CS w11_S 3000 12 0 0 = true := by decide +kernel
theorem w11_mr1 : mr_chk w11_K w11_X w11_W w11_CS w11_S 3000 12 0 1 = true := by decide +kernel
theorem w11_mr2 : mr_chk w11_K w11_X w11_W w11_CS w11_S 3000 12 0 2 = true := by decide +kernel
theorem w11_mr3 : mr_chk w11_K w11_X w11_W w11_CS w11_S 3000 12 0 3 = true := by decide +kernel
theorem w11_mr : ∀ c, c < 4 → mr_chk w11_K w11_X w11_W w11_CS w11_S 3000 12 0 c = true
  | 0, _ => w11_mr0
  | 1, _ => w11_mr1
  | 2, _ => w11_mr2
  | 3, _ => w11_mr3
  | c + 4, h => by omega
