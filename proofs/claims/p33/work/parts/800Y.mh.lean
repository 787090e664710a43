/-! The reference, bank 0, 0 ropes: what is by hand -/
theorem w00_goC : rt_cuts mg_S (rt_run w00_K w00_X [w00_t94] w00_S 3000 2 209 (rt_pcs mg_C) true (rt_arr w00_W mg_S true mg_C) (rt_tgv w00_W [mg_T1, mg_T2])) mg_C = true := by decide +kernel
theorem w00_goE : rt_run w00_K w00_X [w00_t94] w00_S 3000 2 209 (rt_pcs mg_C) false (rt_arr w00_W mg_S false mg_C) (rt_tgv w00_W [mg_T1, mg_T2]) mg_E = true := by decide +kernel
theorem w00_cm0 : mc_chk w00_K w00_X w00_W [w00_t2, w00_t3] w00_S 3000 12 0 = true := by decide +kernel
theorem w00_ct0 : mc_ty w00_K 0 0 = true := by decide +kernel
theorem w00_ce0 : rt_run w00_K w00_X [w00_t2, w00_t3] w00_S 3000 12 190 [10] false (rt_tgl 0 w00_W [mc_T0 0]) rt_kf2 (mc_S0 w00_t8.2.2.1.1 [some (.inr (.inl (79, 1))), some (.inl (0, 0, 0)), some (.inl (1, 0, 0))] w00_t8.2.2.1.2.2) = true := by decide +kernel
theorem w00_cm1 : mc_chk w00_K w00_X w00_W [w00_t2, w00_t3] w00_S 3000 12 1 = true := by decide +kernel
theorem w00_ct1 : mc_ty w00_K 1 0 = true := by decide +kernel
theorem w00_ce1 : rt_run w00_K w00_X [w00_t2, w00_t3] w00_S 3000 12 190 [10] false (rt_tgl 0 w00_W [mc_T0 1]) rt_kf2 (mc_S0 w00_t9.2.2.1.1 [some (.inr (.inl (79, 1))), some (.inl (0, 1, 1)), some (.inl (1, 0, 0))] w00_t9.2.2.1.2.2) = true := by decide +kernel
theorem w00_cm2 : mc_chk w00_K w00_X w00_W [w00_t2, w00_t3] w00_S 3000 12 2 = true := by decide +kernel
theorem w00_ct2 : mc_ty w00_K 2 0 = true := by decide +kernel
theorem w00_ce2 : rt_run w00_K w00_X [w00_t2, w00_t3] w00_S 3000 12 190 [10] false (rt_tgl 0 w00_W [mc_T0 2]) rt_kf2 (mc_S0 w00_t10.2.2.1.1 [some (.inr (.inl (79, 1))), some (.inl (0, 2, 2)), some (.inl (1, 0, 0))] w00_t10.2.2.1.2.2) = true := by decide +kernel
theorem w00_cm3 : mc_chk w00_K w00_X w00_W [w00_t2, w00_t3] w00_S 3000 12 3 = true := by decide +kernel
theorem w00_ct3 : mc_ty w00_K 3 0 = true := by decide +kernel
theorem w00_ce3 : rt_run w00_K w00_X [w00_t2, w00_t3] w00_S 3000 12 190 [10] false (rt_tgl 0 w00_W [mc_T0 3]) rt_kf2 (mc_S0 w00_t11.2.2.1.1 [some (.inr (.inl (79, 1))), some (.inl (0, 3, 3)), some (.inl (1, 0, 0))] w00_t11.2.2.1.2.2) = true := by decide +kernel
def w00_CS : List rt_Co := [w00_t95, w00_t96, w00_t93, w00_t92]
theorem w00_ok : rt_all1 (fun b => b) (mp_L w00_K 1) = true := by decide +kernel
theorem w00_qk : rt_all1 (fun b => b) (mq_L w00_K) = true := by decide +kernel
theorem w00_rk : rt_all1 (fun b => b) (mr_L w00_K) = true := by decide +kernel
theorem w00_f4 : mIn w00_K 32 0 4 0 0 = true := by decide +kernel
theorem w00_mu : mu_chk w00_K w00_X w00_W w00_CS w00_S 3000 8 1 = true := by decide +kernel
theorem w00_mi : mi_chk w00_K w00_X w00_W w00_S 3000 2 = true := by decide +kernel
theorem w00_mb : rt_all1 (fun b => b) (mb_L0 w00_K w00_X w00_W w00_CS w00_S 3000 8 1) = true := by decide +kernel
theorem w00_me : rt_all1 (fun b => b) (me_L0 w00_K w00_X w00_W w00_CS w00_S 3000 10 1) = true := by decide +kernel
theorem w00_mr0 : mr_chk w00_K w00_X w00_W w00_CS w00_S 3000 12 1 0 = true := by decide +kernel
theorem w00_mr1 : mr_chk w00_K w00_X w00_W w00_CS w00_S 3000 12 1 1 = true := by decide +kernel
theorem w00_mr2 : mr_chk w00_K w00_X w00_W w00_CS w00_S 3000 12 1 2 = true := by decide +kernel
theorem w00_mr3 : mr_chk w00_K w00_X w00_W w00_CS w00_S 3000 12 1 3 = true := by decide +kernel
theorem w00_mr : ∀ c, c < 4 → mr_chk w00_K w00_X w00_W w00_CS w00_S 3000 12 1 c = true
  | 0, _ => w00_mr0
  | 1, _ => w00_mr1
  | 2, _ => w00_mr2
  | 3, _ => w00_mr3
  | c + 4, h => by omega
