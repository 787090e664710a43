/-! street in the contexts -/
section MCTX
variable {l : Launch} {D : va_G} {κ : Nat → ClassId} {ad : List Nat}
theorem w00_cz (h : ∀ (i j q : Nat), ad[i]? = some q → ad[j]? = some q → i = j) : mCtx l D κ ad 0 16 w00_K w00_X w00_W w00_CT w00_S := ⟨w00_cx h, mc_none, w00_mx, w00_sw h, (rt_cs_cons (w00_c95 h) (rt_cs_cons (w00_c96 h) (rt_cs_cons (w00_c126 h) (rt_cs_cons (w00_c124 h) (rt_cs_cons (w00_c125 h) rt_cs_nil))))), w00_sa, w00_sb, w00_sc⟩
theorem w01_cz (h : ∀ (i j q : Nat), ad[i]? = some q → ad[j]? = some q → i = j) : mCtx l D κ ad 0 16 w01_K w01_X w01_W w01_CT w01_S := ⟨w01_cx h, mc_none, w01_mx, w01_sw h, (rt_cs_cons (w01_c97 h) (rt_cs_cons (w01_c98 h) (rt_cs_cons (w01_c130 h) (rt_cs_cons (w01_c128 h) (rt_cs_cons (w01_c129 h) rt_cs_nil))))), w01_sa, w01_sb, w01_sc⟩
theorem w02_cz (h : ∀ (i j q : Nat), ad[i]? = some q → ad[j]? = some q → i = j) : mCtx l D κ ad 0 16 w02_K w02_X w02_W w02_CT w02_S := ⟨w02_cx h, mc_none, w02_mx, w02_sw h, (rt_cs_cons (w02_c97 h) (rt_cs_cons (w02_c98 h) (rt_cs_cons (w02_c130 h) (rt_cs_cons (w02_c128 h) (rt_cs_cons (w02_c129 h) rt_cs_nil))))), w02_sa, w02_sb, w02_sc⟩
theorem w03_cz (h : ∀ (i j q : Nat), ad[i]? = some q → ad[j]? = some q → i = j) : mCtx l D κ ad 0 16 w03_K w03_X w03_W w03_CT w03_S := ⟨w03_cx h, mc_none, w03_mx, w03_sw h, (rt_cs_cons (w03_c97 h) (rt_cs_cons (w03_c98 h) (rt_cs_cons (w03_c130 h) (rt_cs_cons (w03_c128 h) (rt_cs_cons (w03_c129 h) rt_cs_nil))))), w03_sa, w03_sb, w03_sc⟩
theorem wz0 (h : ∀ (i j q : Nat), ad[i]? = some q → ad[j]? = some q → i = j) : ∀ n, n < 4 → mCtx l D κ ad 0 16 (wK0 n) (wX0 n) (wW0 n) (wC0 n) (wS0 n)
  | 0, _ => w00_cz h
  | 1, _ => w01_cz h
  | 2, _ => w02_cz h
  | 3, _ => w03_cz h
  | n + 4, hn => by omega
theorem w10_cz (h : ∀ (i j q : Nat), ad[i]? = some q → ad[j]? = some q → i = j) : mCtx l D κ ad 1 16 w10_K w10_X w10_W w10_CT w10_S := ⟨w10_cx h, mc_none, w10_mx, w10_sw h, (rt_cs_cons (w10_c95 h) (rt_cs_cons (w10_c96 h) (rt_cs_cons (w10_c126 h) (rt_cs_cons (w10_c124 h) (rt_cs_cons (w10_c125 h) rt_cs_nil))))), w10_sa, w10_sb, w10_sc⟩
theorem w11_cz (h : ∀ (i j q : Nat), ad[i]? = some q → ad[j]? = some q → i = j) : mCtx l D κ ad 1 16 w11_K w11_X w11_W w11_CT w11_S := ⟨w11_cx h, mc_none, w11_mx, w11_sw h, (rt_cs_cons (w11_c97 h) (rt_cs_cons (w11_c98 h) (rt_cs_cons (w11_c130 h) (rt_cs_cons (w11_c128 h) (rt_cs_cons (w11_c129 h) rt_cs_nil))))), w11_sa, w11_sb, w11_sc⟩
theorem w12_cz (h : ∀ (i j q : Nat), ad[i]? = some q → ad[j]? = some q → i = j) : mCtx l D κ ad 1 16 w12_K w12_X w12_W w12_CT w12_S := ⟨w12_cx h, mc_none, w12_mx, w12_sw h, (rt_cs_cons (w12_c97 h) (rt_cs_cons (w12_c98 h) (rt_cs_cons (w12_c130 h) (rt_cs_cons (w12_c128 h) (rt_cs_cons (w12_c129 h) rt_cs_nil))))), w12_sa, w12_sb, w12_sc⟩
theorem w13_cz (h : ∀ (i j q : Nat), ad[i]? = some q → ad[j]? = some q → i = j) : mCtx l D κ ad 1 16 w13_K w13_X w13_W w13_CT w13_S := ⟨w13_cx h, mc_none, w13_mx, w13_sw h, (rt_cs_cons (w13_c97 h) (rt_cs_cons (w13_c98 h) (rt_cs_cons (w13_c130 h) (rt_cs_cons (w13_c128 h) (rt_cs_cons (w13_c129 h) rt_cs_nil))))), w13_sa, w13_sb, w13_sc⟩
theorem wz1 (h : ∀ (i j q : Nat), ad[i]? = some q → ad[j]? = some q → i = j) : ∀ n, n < 4 → mCtx l D κ ad 1 16 (wK1 n) (wX1 n) (wW1 n) (wC1 n) (wS1 n)
  | 0, _ => w10_cz h
  | 1, _ => w11_cz h
  | 2, _ => w12_cz h
  | 3, _ => w13_cz h
  | n + 4, hn => by omega
theorem wst0 (h : ∀ (i j q : Nat), ad[i]? = some q → ad[j]? = some q → i = j) {nb nr : Nat} (hnb : nb < 4) (hnr : nr < 4) : rc_Met l κ D 16 283 (fun vs w => mInv wK0 κ ad 0 nb nr w ∧ ∃ q : Nat, ad[0]? = some q ∧ vs = [.ref q]) (fun _ w ov w' => mQs wK0 wK1 κ ad 0 nb w ov w') := m_street (b := 0) (r := 1) (by decide) rfl (by decide) (wz0 h) (wz1 h) (fun nb n h1 h2 => ⟨mAll4_ok (mAll4_ok wv0_a h1) h2, mAll4_ok (mAll4_ok wv0_b h1) h2, mAll4_ok (mAll4_ok wv0_c h1) h2⟩) (fun n hn => match n, hn with
  | 0, _ => wv0_d0
  | 1, _ => wv0_d1
  | 2, _ => wv0_d2
  | 3, _ => wv0_d3
  | n + 4, hn => by omega) (fun n hn => mAll4_ok wv0_e hn) (fun n hn => mAll4_ok wv0_f hn) (fun nb n h1 h2 => ⟨mAll4_ok (mAll4_ok wv1_g h1) h2, mAll4_ok (mAll4_ok wv1_r0 h2) h1⟩) hnb hnr (fun n hn => mAll4_ok wv0_h hn)
theorem wst1 (h : ∀ (i j q : Nat), ad[i]? = some q → ad[j]? = some q → i = j) {nb nr : Nat} (hnb : nb < 4) (hnr : nr < 4) : rc_Met l κ D 16 283 (fun vs w => mInv wK1 κ ad 1 nb nr w ∧ ∃ q : Nat, ad[0]? = some q ∧ vs = [.ref q]) (fun _ w ov w' => mQs wK1 wK0 κ ad 1 nb w ov w') := m_street (b := 1) (r := 0) (by decide) rfl (by decide) (wz1 h) (wz0 h) (fun nb n h1 h2 => ⟨mAll4_ok (mAll4_ok wv1_a h1) h2, mAll4_ok (mAll4_ok wv1_b h1) h2, mAll4_ok (mAll4_ok wv1_c h1) h2⟩) (fun n hn => match n, hn with
  | 0, _ => wv1_d0
  | 1, _ => wv1_d1
  | 2, _ => wv1_d2
  | 3, _ => wv1_d3
  | n + 4, hn => by omega) (fun n hn => mAll4_ok wv1_e hn) (fun n hn => mAll4_ok wv1_f hn) (fun nb n h1 h2 => ⟨mAll4_ok (mAll4_ok wv0_g h1) h2, mAll4_ok (mAll4_ok wv0_r0 h2) h1⟩) hnb hnr (fun n hn => mAll4_ok wv1_h hn)
end MCTX
