/-! The reference, bank 1, 0 ropes: what is by hand -/
theorem w10_goC : rt_cuts mg_S (rt_run w10_K w10_X [w10_t94] w10_S 3000 2 209 (rt_pcs mg_C) true (rt_arr w10_W mg_S true mg_C) (rt_tgv w10_W [mg_T1, mg_T2])) mg_C = true := by decide +kernel
theorem w10_goE : rt_run w10_K w10_X [w10_t94] w10_S 3000 2 209 (rt_pcs mg_C) false (rt_arr w10_W mg_S false mg_C) (rt_tgv w10_W [mg_T1, mg_T2]) mg_E = true := by decide +kernel
theorem w10_cm4 : mc_chk w10_K w10_X w10_W [w10_t2, w10_t3] w10_S 3000 12 4 = true := by decide +kernel
theorem w10_ct4 : mc_ty w10_K 4 1 = true := by decide +kernel
theorem w10_ce4 : rt_run w10_K w10_X [w10_t2, w10_t3] w10_S 3000 12 190 [10] false (rt_tgl 0 w10_W [mc_T0 4]) rt_kf2 (mc_S0 w10_t8.2.2.1.1 [some (.inr (.inl (79, 1))), some (.inl (0, 4, 4)), some (.inl (1, 0, 0))] w10_t8.2.2.1.2.2) = true := by decide +kernel
theorem w10_cm5 : mc_chk w10_K w10_X w10_W [w10_t2, w10_t3] w10_S 3000 12 5 = true := by decide +kernel
theorem w10_ct5 : mc_ty w10_K 5 1 = true := by decide +kernel
theorem w10_ce5 : rt_run w10_K w10_X [w10_t2, w10_t3] w10_S 3000 12 190 [10] false (rt_tgl 0 w10_W [mc_T0 5]) rt_kf2 (mc_S0 w10_t9.2.2.1.1 [some (.inr (.inl (79, 1))), some (.inl (0, 5, 5)), some (.inl (1, 0, 0))] w10_t9.2.2.1.2.2) = true := by decide +kernel
theorem w10_cm6 : mc_chk w10_K w10_X w10_W [w10_t2, w10_t3] w10_S 3000 12 6 = true := by decide +kernel
theorem w10_ct6 : mc_ty w10_K 6 1 = true := by decide +kernel
theorem w10_ce6 : rt_run w10_K w10_X [w10_t2, w10_t3] w10_S 3000 12 190 [10] false (rt_tgl 0 w10_W [mc_T0 6]) rt_kf2 (mc_S0 w10_t10.2.2.1.1 [some (.inr (.inl (79, 1))), some (.inl (0, 6, 6)), some (.inl (1, 0, 0))] w10_t10.2.2.1.2.2) = true := by decide +kernel
theorem w10_cm7 : mc_chk w10_K w10_X w10_W [w10_t2, w10_t3] w10_S 3000 12 7 = true := by decide +kernel
theorem w10_ct7 : mc_ty w10_K 7 1 = true := by decide +kernel
theorem w10_ce7 : rt_run w10_K w10_X [w10_t2, w10_t3] w10_S 3000 12 190 [10] false (rt_tgl 0 w10_W [mc_T0 7]) rt_kf2 (mc_S0 w10_t11.2.2.1.1 [some (.inr (.inl (79, 1))), some (.inl (0, 7, 7)), some (.inl (1, 0, 0))] w10_t11.2.2.1.2.2) = true := by decide +kernel
def w10_CS : List rt_Co := [w10_t95, w10_t96, w10_t93, w10_t92]
theorem w10_ok : rt_all1 (fun b => b) (mp_L w10_K 0) = true := by decide +kernel
theorem w10_qk : rt_all1 (fun b => b) (mq_L w10_K) = true := by decide +kernel
theorem w10_rk : rt_all1 (fun b => b) (mr_L w10_K) = true := by decide +kernel
theorem w10_f4 : mIn w10_K 32 0 4 0 0 = true := by decide +kernel
theorem w10_mu : mu_chk w10_K w10_X w10_W w10_CS w10_S 3000 8 0 = true := by decide +kernel
theorem w10_mi : mi_chk w10_K w10_X w10_W w10_S 3000 2 = true := by decide +kernel
theorem w10_mb : rt_all1 (fun b => b) (mb_L0 w10_K w10_X w10_W w10_CS w10_S 3000 8 0) = true := by decide +kernel
theorem w10_me : rt_all1 (fun b => b) (me_L0 w10_K w10_X w10_W w10_CS w10_S 3000 10 0) = true := by decide +kernel
theorem w10_mr0 : mr_chk w10_K w10_X w10_W w10_CS w10_S 3000 12 0 0 = true := by decide +kernel
theorem w10_mr1 : mr_chk w10_K w10_X w10_W w10_CS w10_S 3000 12 0 1 = true := by decide +kernel
theorem w10_mr2 : mr_chk w10_K w10_X w10_W w10_CS w10_S 3000 12 0 2 = true := by decide +kernel
theorem w10_mr3 : mr_chk w10_K w10_X w10_W w10_CS w10_S 3000 12 0 3 = true := by decide +kernel
theorem w10_mr : ∀ c, c < 4 → mr_chk w10_K w10_X w10_W w10_CS w10_S 3000 12 0 c = true
  | 0, _ => w10_mr0
  | 1, _ => w10_mr1
  | 2, _ => w10_mr2
  | 3, _ => w10_mr3
  | c + 4, h => by omega
