/-! The reference: every call holds -/
section MEV
variable {l : Launch} {D : va_G} {κ : Nat → ClassId} {ad : List Nat}
theorem wg0_0 {nb : Nat} (h : nb < 4) : mGm wK0 nb 0 := ⟨rfl, mAll4_ok wv0_s0 h, mAll4_ok wv0_t0 h, fun _ h' => mAll4_ok (mAll4_ok wv0_r0 h) h'⟩
theorem wg0_2 {nb : Nat} (h : nb < 4) : mGm wK0 nb 2 := ⟨rfl, mAll4_ok wv0_s2 h, mAll4_ok wv0_t2 h, fun _ h' => mAll4_ok (mAll4_ok wv0_r2 h) h'⟩
theorem wg0_4 {nb : Nat} (h : nb < 4) : mGm wK0 nb 4 := ⟨rfl, mAll4_ok wv0_s4 h, mAll4_ok wv0_t4 h, fun _ h' => mAll4_ok (mAll4_ok wv0_r4 h) h'⟩
theorem wg0_22 {nb : Nat} (h : nb < 4) : mGm wK0 nb 22 := ⟨rfl, mAll4_ok wv0_s22 h, mAll4_ok wv0_t22 h, fun _ h' => mAll4_ok (mAll4_ok wv0_r22 h) h'⟩
theorem wg0_11 {nb : Nat} (h : nb < 4) : mGm wK0 nb 11 := ⟨rfl, mAll4_ok wv0_s11 h, mAll4_ok wv0_t11 h, fun _ h' => mAll4_ok (mAll4_ok wv0_r11 h) h'⟩
theorem wg0_12 {nb : Nat} (h : nb < 4) : mGm wK0 nb 12 := ⟨rfl, mAll4_ok wv0_s12 h, mAll4_ok wv0_t12 h, fun _ h' => mAll4_ok (mAll4_ok wv0_r12 h) h'⟩
theorem wg0_13 {nb : Nat} (h : nb < 4) : mGm wK0 nb 13 := ⟨rfl, mAll4_ok wv0_s13 h, mAll4_ok wv0_t13 h, fun _ h' => mAll4_ok (mAll4_ok wv0_r13 h) h'⟩
theorem wg0_14 {nb : Nat} (h : nb < 4) : mGm wK0 nb 14 := ⟨rfl, mAll4_ok wv0_s14 h, mAll4_ok wv0_t14 h, fun _ h' => mAll4_ok (mAll4_ok wv0_r14 h) h'⟩
theorem wg0_15 {nb : Nat} (h : nb < 4) : mGm wK0 nb 15 := ⟨rfl, mAll4_ok wv0_s15 h, mAll4_ok wv0_t15 h, fun _ h' => mAll4_ok (mAll4_ok wv0_r15 h) h'⟩
theorem wg0_16 {nb : Nat} (h : nb < 4) : mGm wK0 nb 16 := ⟨rfl, mAll4_ok wv0_s16 h, mAll4_ok wv0_t16 h, fun _ h' => mAll4_ok (mAll4_ok wv0_r16 h) h'⟩
theorem wg1_0 {nb : Nat} (h : nb < 4) : mGm wK1 nb 0 := ⟨rfl, mAll4_ok wv1_s0 h, mAll4_ok wv1_t0 h, fun _ h' => mAll4_ok (mAll4_ok wv1_r0 h) h'⟩
theorem wg1_2 {nb : Nat} (h : nb < 4) : mGm wK1 nb 2 := ⟨rfl, mAll4_ok wv1_s2 h, mAll4_ok wv1_t2 h, fun _ h' => mAll4_ok (mAll4_ok wv1_r2 h) h'⟩
theorem wg1_4 {nb : Nat} (h : nb < 4) : mGm wK1 nb 4 := ⟨rfl, mAll4_ok wv1_s4 h, mAll4_ok wv1_t4 h, fun _ h' => mAll4_ok (mAll4_ok wv1_r4 h) h'⟩
theorem wg1_22 {nb : Nat} (h : nb < 4) : mGm wK1 nb 22 := ⟨rfl, mAll4_ok wv1_s22 h, mAll4_ok wv1_t22 h, fun _ h' => mAll4_ok (mAll4_ok wv1_r22 h) h'⟩
theorem wg1_11 {nb : Nat} (h : nb < 4) : mGm wK1 nb 11 := ⟨rfl, mAll4_ok wv1_s11 h, mAll4_ok wv1_t11 h, fun _ h' => mAll4_ok (mAll4_ok wv1_r11 h) h'⟩
theorem wg1_12 {nb : Nat} (h : nb < 4) : mGm wK1 nb 12 := ⟨rfl, mAll4_ok wv1_s12 h, mAll4_ok wv1_t12 h, fun _ h' => mAll4_ok (mAll4_ok wv1_r12 h) h'⟩
theorem wg1_13 {nb : Nat} (h : nb < 4) : mGm wK1 nb 13 := ⟨rfl, mAll4_ok wv1_s13 h, mAll4_ok wv1_t13 h, fun _ h' => mAll4_ok (mAll4_ok wv1_r13 h) h'⟩
theorem wg1_14 {nb : Nat} (h : nb < 4) : mGm wK1 nb 14 := ⟨rfl, mAll4_ok wv1_s14 h, mAll4_ok wv1_t14 h, fun _ h' => mAll4_ok (mAll4_ok wv1_r14 h) h'⟩
theorem wg1_15 {nb : Nat} (h : nb < 4) : mGm wK1 nb 15 := ⟨rfl, mAll4_ok wv1_s15 h, mAll4_ok wv1_t15 h, fun _ h' => mAll4_ok (mAll4_ok wv1_r15 h) h'⟩
theorem wg1_16 {nb : Nat} (h : nb < 4) : mGm wK1 nb 16 := ⟨rfl, mAll4_ok wv1_s16 h, mAll4_ok wv1_t16 h, fun _ h' => mAll4_ok (mAll4_ok wv1_r16 h) h'⟩
theorem pM_feed (h : ∀ (i j q : Nat), ad[i]? = some q → ad[j]? = some q → i = j) : rc_ME l κ D 205 (fun vs w => mI κ ad w ∧ ∃ q : Nat, ad[0]? = some q ∧ mArgs q 5 vs) (fun _ w ov w' => mQc κ ad w ov w') := mI_all (A := fun vs => ∃ q : Nat, ad[0]? = some q ∧ mArgs q 5 vs) (fun nb hnb => match nb, hnb with
  | 0, hnb => rc_ME_of (by decide) (m_pubM1 (Kb := wK0) (nb := 0) (b := 0) (w00_c90 h) rfl rfl rfl (mAll4_ok wv0_u22 hnb) (wg0_22 hnb))
  | 1, hnb => rc_ME_of (by decide) (m_pubM1 (Kb := wK0) (nb := 1) (b := 0) (w01_c92 h) rfl rfl rfl (mAll4_ok wv0_u22 hnb) (wg0_22 hnb))
  | 2, hnb => rc_ME_of (by decide) (m_pubM1 (Kb := wK0) (nb := 2) (b := 0) (w02_c92 h) rfl rfl rfl (mAll4_ok wv0_u22 hnb) (wg0_22 hnb))
  | 3, hnb => rc_ME_of (by decide) (m_pubM1 (Kb := wK0) (nb := 3) (b := 0) (w03_c92 h) rfl rfl rfl (mAll4_ok wv0_u22 hnb) (wg0_22 hnb))
  | n + 4, hn => by omega) (fun nb hnb => match nb, hnb with
  | 0, hnb => rc_ME_of (by decide) (m_pubM1 (Kb := wK1) (nb := 0) (b := 1) (w10_c90 h) rfl rfl rfl (mAll4_ok wv1_u22 hnb) (wg1_22 hnb))
  | 1, hnb => rc_ME_of (by decide) (m_pubM1 (Kb := wK1) (nb := 1) (b := 1) (w11_c92 h) rfl rfl rfl (mAll4_ok wv1_u22 hnb) (wg1_22 hnb))
  | 2, hnb => rc_ME_of (by decide) (m_pubM1 (Kb := wK1) (nb := 2) (b := 1) (w12_c92 h) rfl rfl rfl (mAll4_ok wv1_u22 hnb) (wg1_22 hnb))
  | 3, hnb => rc_ME_of (by decide) (m_pubM1 (Kb := wK1) (nb := 3) (b := 1) (w13_c92 h) rfl rfl rfl (mAll4_ok wv1_u22 hnb) (wg1_22 hnb))
  | n + 4, hn => by omega)
theorem pM_end (h : ∀ (i j q : Nat), ad[i]? = some q → ad[j]? = some q → i = j) : rc_ME l κ D 200 (fun vs w => mI κ ad w ∧ ∃ q : Nat, ad[0]? = some q ∧ mArgs q 1 vs) (fun _ w ov w' => mQc κ ad w ov w') := mI_all (A := fun vs => ∃ q : Nat, ad[0]? = some q ∧ mArgs q 1 vs) (fun nb hnb => match nb, hnb with
  | 0, hnb => rc_ME_of (by decide) (m_pubM1 (Kb := wK0) (nb := 0) (b := 0) (w00_c91 h) rfl rfl rfl (mAll4_ok wv0_u22 hnb) (wg0_22 hnb))
  | 1, hnb => rc_ME_of (by decide) (m_pubM1 (Kb := wK0) (nb := 1) (b := 0) (w01_c93 h) rfl rfl rfl (mAll4_ok wv0_u22 hnb) (wg0_22 hnb))
  | 2, hnb => rc_ME_of (by decide) (m_pubM1 (Kb := wK0) (nb := 2) (b := 0) (w02_c93 h) rfl rfl rfl (mAll4_ok wv0_u22 hnb) (wg0_22 hnb))
  | 3, hnb => rc_ME_of (by decide) (m_pubM1 (Kb := wK0) (nb := 3) (b := 0) (w03_c93 h) rfl rfl rfl (mAll4_ok wv0_u22 hnb) (wg0_22 hnb))
  | n + 4, hn => by omega) (fun nb hnb => match nb, hnb with
  | 0, hnb => rc_ME_of (by decide) (m_pubM1 (Kb := wK1) (nb := 0) (b := 1) (w10_c91 h) rfl rfl rfl (mAll4_ok wv1_u22 hnb) (wg1_22 hnb))
  | 1, hnb => rc_ME_of (by decide) (m_pubM1 (Kb := wK1) (nb := 1) (b := 1) (w11_c93 h) rfl rfl rfl (mAll4_ok wv1_u22 hnb) (wg1_22 hnb))
  | 2, hnb => rc_ME_of (by decide) (m_pubM1 (Kb := wK1) (nb := 2) (b := 1) (w12_c93 h) rfl rfl rfl (mAll4_ok wv1_u22 hnb) (wg1_22 hnb))
  | 3, hnb => rc_ME_of (by decide) (m_pubM1 (Kb := wK1) (nb := 3) (b := 1) (w13_c93 h) rfl rfl rfl (mAll4_ok wv1_u22 hnb) (wg1_22 hnb))
  | n + 4, hn => by omega)
theorem pM_fault (h : ∀ (i j q : Nat), ad[i]? = some q → ad[j]? = some q → i = j) : rc_ME l κ D 204 (fun vs w => mI κ ad w ∧ ∃ q : Nat, ad[0]? = some q ∧ mArgs q 1 vs) (fun _ w ov w' => mQc κ ad w ov w') := mI_all (A := fun vs => ∃ q : Nat, ad[0]? = some q ∧ mArgs q 1 vs) (fun nb hnb => match nb, hnb with
  | 0, hnb => rc_ME_of (by decide) (m_pubM1 (Kb := wK0) (nb := 0) (b := 0) (w00_c4 h) rfl rfl rfl (mAll4_ok wv0_u0 hnb) (wg0_0 hnb))
  | 1, hnb => rc_ME_of (by decide) (m_pubM1 (Kb := wK0) (nb := 1) (b := 0) (w01_c4 h) rfl rfl rfl (mAll4_ok wv0_u0 hnb) (wg0_0 hnb))
  | 2, hnb => rc_ME_of (by decide) (m_pubM1 (Kb := wK0) (nb := 2) (b := 0) (w02_c4 h) rfl rfl rfl (mAll4_ok wv0_u0 hnb) (wg0_0 hnb))
  | 3, hnb => rc_ME_of (by decide) (m_pubM1 (Kb := wK0) (nb := 3) (b := 0) (w03_c4 h) rfl rfl rfl (mAll4_ok wv0_u0 hnb) (wg0_0 hnb))
  | n + 4, hn => by omega) (fun nb hnb => match nb, hnb with
  | 0, hnb => rc_ME_of (by decide) (m_pubM1 (Kb := wK1) (nb := 0) (b := 1) (w10_c4 h) rfl rfl rfl (mAll4_ok wv1_u0 hnb) (wg1_0 hnb))
  | 1, hnb => rc_ME_of (by decide) (m_pubM1 (Kb := wK1) (nb := 1) (b := 1) (w11_c4 h) rfl rfl rfl (mAll4_ok wv1_u0 hnb) (wg1_0 hnb))
  | 2, hnb => rc_ME_of (by decide) (m_pubM1 (Kb := wK1) (nb := 2) (b := 1) (w12_c4 h) rfl rfl rfl (mAll4_ok wv1_u0 hnb) (wg1_0 hnb))
  | 3, hnb => rc_ME_of (by decide) (m_pubM1 (Kb := wK1) (nb := 3) (b := 1) (w13_c4 h) rfl rfl rfl (mAll4_ok wv1_u0 hnb) (wg1_0 hnb))
  | n + 4, hn => by omega)
theorem pM_run (h : ∀ (i j q : Nat), ad[i]? = some q → ad[j]? = some q → i = j) : rc_ME l κ D 270 (fun vs w => mI κ ad w ∧ ∃ q : Nat, ad[0]? = some q ∧ mArgs q 1 vs) (fun _ w ov w' => mQc κ ad w ov w') := mI_all (A := fun vs => ∃ q : Nat, ad[0]? = some q ∧ mArgs q 1 vs) (fun nb hnb => match nb, hnb with
  | 0, hnb => rc_ME_of (by decide) (m_pubM1 (Kb := wK0) (nb := 0) (b := 0) (w00_c27 h) rfl rfl rfl (mAll4_ok wv0_u0 hnb) (wg0_0 hnb))
  | 1, hnb => rc_ME_of (by decide) (m_pubM1 (Kb := wK0) (nb := 1) (b := 0) (w01_c29 h) rfl rfl rfl (mAll4_ok wv0_u0 hnb) (wg0_0 hnb))
  | 2, hnb => rc_ME_of (by decide) (m_pubM1 (Kb := wK0) (nb := 2) (b := 0) (w02_c29 h) rfl rfl rfl (mAll4_ok wv0_u0 hnb) (wg0_0 hnb))
  | 3, hnb => rc_ME_of (by decide) (m_pubM1 (Kb := wK0) (nb := 3) (b := 0) (w03_c29 h) rfl rfl rfl (mAll4_ok wv0_u0 hnb) (wg0_0 hnb))
  | n + 4, hn => by omega) (fun nb hnb => match nb, hnb with
  | 0, hnb => rc_ME_of (by decide) (m_pubM1 (Kb := wK1) (nb := 0) (b := 1) (w10_c27 h) rfl rfl rfl (mAll4_ok wv1_u0 hnb) (wg1_0 hnb))
  | 1, hnb => rc_ME_of (by decide) (m_pubM1 (Kb := wK1) (nb := 1) (b := 1) (w11_c29 h) rfl rfl rfl (mAll4_ok wv1_u0 hnb) (wg1_0 hnb))
  | 2, hnb => rc_ME_of (by decide) (m_pubM1 (Kb := wK1) (nb := 2) (b := 1) (w12_c29 h) rfl rfl rfl (mAll4_ok wv1_u0 hnb) (wg1_0 hnb))
  | 3, hnb => rc_ME_of (by decide) (m_pubM1 (Kb := wK1) (nb := 3) (b := 1) (w13_c29 h) rfl rfl rfl (mAll4_ok wv1_u0 hnb) (wg1_0 hnb))
  | n + 4, hn => by omega)
theorem pM_car (h : ∀ (i j q : Nat), ad[i]? = some q → ad[j]? = some q → i = j) : rc_ME l κ D 184 (fun vs w => mI κ ad w ∧ ∃ q : Nat, ad[0]? = some q ∧ mArgs q 2 vs) (fun _ w ov w' => mQc κ ad w ov w') := mI_all (A := fun vs => ∃ q : Nat, ad[0]? = some q ∧ mArgs q 2 vs) (fun nb hnb => match nb, hnb with
  | 0, hnb => rc_ME_of (by decide) (m_pubM1 (Kb := wK0) (nb := 0) (b := 0) (w00_c28 h) rfl rfl rfl (mAll4_ok wv0_u0 hnb) (wg0_0 hnb))
  | 1, hnb => rc_ME_of (by decide) (m_pubM1 (Kb := wK0) (nb := 1) (b := 0) (w01_c30 h) rfl rfl rfl (mAll4_ok wv0_u0 hnb) (wg0_0 hnb))
  | 2, hnb => rc_ME_of (by decide) (m_pubM1 (Kb := wK0) (nb := 2) (b := 0) (w02_c30 h) rfl rfl rfl (mAll4_ok wv0_u0 hnb) (wg0_0 hnb))
  | 3, hnb => rc_ME_of (by decide) (m_pubM1 (Kb := wK0) (nb := 3) (b := 0) (w03_c30 h) rfl rfl rfl (mAll4_ok wv0_u0 hnb) (wg0_0 hnb))
  | n + 4, hn => by omega) (fun nb hnb => match nb, hnb with
  | 0, hnb => rc_ME_of (by decide) (m_pubM1 (Kb := wK1) (nb := 0) (b := 1) (w10_c28 h) rfl rfl rfl (mAll4_ok wv1_u0 hnb) (wg1_0 hnb))
  | 1, hnb => rc_ME_of (by decide) (m_pubM1 (Kb := wK1) (nb := 1) (b := 1) (w11_c30 h) rfl rfl rfl (mAll4_ok wv1_u0 hnb) (wg1_0 hnb))
  | 2, hnb => rc_ME_of (by decide) (m_pubM1 (Kb := wK1) (nb := 2) (b := 1) (w12_c30 h) rfl rfl rfl (mAll4_ok wv1_u0 hnb) (wg1_0 hnb))
  | 3, hnb => rc_ME_of (by decide) (m_pubM1 (Kb := wK1) (nb := 3) (b := 1) (w13_c30 h) rfl rfl rfl (mAll4_ok wv1_u0 hnb) (wg1_0 hnb))
  | n + 4, hn => by omega)
theorem pM_speed (h : ∀ (i j q : Nat), ad[i]? = some q → ad[j]? = some q → i = j) : rc_ME l κ D 277 (fun vs w => mI κ ad w ∧ ∃ q : Nat, ad[0]? = some q ∧ mArgs q 1 vs) (fun _ w ov w' => mQc κ ad w ov w') := mI_all (A := fun vs => ∃ q : Nat, ad[0]? = some q ∧ mArgs q 1 vs) (fun nb hnb => match nb, hnb with
  | 0, hnb => rc_ME_of (by decide) (m_pubM1 (Kb := wK0) (nb := 0) (b := 0) (w00_c29 h) rfl rfl rfl (mAll4_ok wv0_u0 hnb) (wg0_0 hnb))
  | 1, hnb => rc_ME_of (by decide) (m_pubM1 (Kb := wK0) (nb := 1) (b := 0) (w01_c31 h) rfl rfl rfl (mAll4_ok wv0_u0 hnb) (wg0_0 hnb))
  | 2, hnb => rc_ME_of (by decide) (m_pubM1 (Kb := wK0) (nb := 2) (b := 0) (w02_c31 h) rfl rfl rfl (mAll4_ok wv0_u0 hnb) (wg0_0 hnb))
  | 3, hnb => rc_ME_of (by decide) (m_pubM1 (Kb := wK0) (nb := 3) (b := 0) (w03_c31 h) rfl rfl rfl (mAll4_ok wv0_u0 hnb) (wg0_0 hnb))
  | n + 4, hn => by omega) (fun nb hnb => match nb, hnb with
  | 0, hnb => rc_ME_of (by decide) (m_pubM1 (Kb := wK1) (nb := 0) (b := 1) (w10_c29 h) rfl rfl rfl (mAll4_ok wv1_u0 hnb) (wg1_0 hnb))
  | 1, hnb => rc_ME_of (by decide) (m_pubM1 (Kb := wK1) (nb := 1) (b := 1) (w11_c31 h) rfl rfl rfl (mAll4_ok wv1_u0 hnb) (wg1_0 hnb))
  | 2, hnb => rc_ME_of (by decide) (m_pubM1 (Kb := wK1) (nb := 2) (b := 1) (w12_c31 h) rfl rfl rfl (mAll4_ok wv1_u0 hnb) (wg1_0 hnb))
  | 3, hnb => rc_ME_of (by decide) (m_pubM1 (Kb := wK1) (nb := 3) (b := 1) (w13_c31 h) rfl rfl rfl (mAll4_ok wv1_u0 hnb) (wg1_0 hnb))
  | n + 4, hn => by omega)
theorem pM_rope (h : ∀ (i j q : Nat), ad[i]? = some q → ad[j]? = some q → i = j) : rc_ME l κ D 267 (fun vs w => mI κ ad w ∧ ∃ q : Nat, ad[0]? = some q ∧ mArgs q 2 vs) (fun _ w ov w' => mQc κ ad w ov w') := mI_all (A := fun vs => ∃ q : Nat, ad[0]? = some q ∧ mArgs q 2 vs) (fun nb hnb => match nb, hnb with
  | 0, hnb => rc_ME_of (by decide) (m_pubM1 (Kb := wK0) (nb := 0) (b := 0) (w00_c30 h) rfl rfl rfl (mAll4_ok wv0_u0 hnb) (wg0_0 hnb))
  | 1, hnb => rc_ME_of (by decide) (m_pubM1 (Kb := wK0) (nb := 1) (b := 0) (w01_c32 h) rfl rfl rfl (mAll4_ok wv0_u0 hnb) (wg0_0 hnb))
  | 2, hnb => rc_ME_of (by decide) (m_pubM1 (Kb := wK0) (nb := 2) (b := 0) (w02_c32 h) rfl rfl rfl (mAll4_ok wv0_u0 hnb) (wg0_0 hnb))
  | 3, hnb => rc_ME_of (by decide) (m_pubM1 (Kb := wK0) (nb := 3) (b := 0) (w03_c32 h) rfl rfl rfl (mAll4_ok wv0_u0 hnb) (wg0_0 hnb))
  | n + 4, hn => by omega) (fun nb hnb => match nb, hnb with
  | 0, hnb => rc_ME_of (by decide) (m_pubM1 (Kb := wK1) (nb := 0) (b := 1) (w10_c30 h) rfl rfl rfl (mAll4_ok wv1_u0 hnb) (wg1_0 hnb))
  | 1, hnb => rc_ME_of (by decide) (m_pubM1 (Kb := wK1) (nb := 1) (b := 1) (w11_c32 h) rfl rfl rfl (mAll4_ok wv1_u0 hnb) (wg1_0 hnb))
  | 2, hnb => rc_ME_of (by decide) (m_pubM1 (Kb := wK1) (nb := 2) (b := 1) (w12_c32 h) rfl rfl rfl (mAll4_ok wv1_u0 hnb) (wg1_0 hnb))
  | 3, hnb => rc_ME_of (by decide) (m_pubM1 (Kb := wK1) (nb := 3) (b := 1) (w13_c32 h) rfl rfl rfl (mAll4_ok wv1_u0 hnb) (wg1_0 hnb))
  | n + 4, hn => by omega)
theorem pM_count (h : ∀ (i j q : Nat), ad[i]? = some q → ad[j]? = some q → i = j) : rc_ME l κ D 193 (fun vs w => mI κ ad w ∧ ∃ q : Nat, ad[0]? = some q ∧ mArgs q 1 vs) (fun _ w ov w' => mQc κ ad w ov w') := mI_all (A := fun vs => ∃ q : Nat, ad[0]? = some q ∧ mArgs q 1 vs) (fun nb hnb => match nb, hnb with
  | 0, hnb => rc_ME_of (by decide) (m_pubM1 (Kb := wK0) (nb := 0) (b := 0) (w00_c31 h) rfl rfl rfl (mAll4_ok wv0_u0 hnb) (wg0_0 hnb))
  | 1, hnb => rc_ME_of (by decide) (m_pubM1 (Kb := wK0) (nb := 1) (b := 0) (w01_c33 h) rfl rfl rfl (mAll4_ok wv0_u0 hnb) (wg0_0 hnb))
  | 2, hnb => rc_ME_of (by decide) (m_pubM1 (Kb := wK0) (nb := 2) (b := 0) (w02_c33 h) rfl rfl rfl (mAll4_ok wv0_u0 hnb) (wg0_0 hnb))
  | 3, hnb => rc_ME_of (by decide) (m_pubM1 (Kb := wK0) (nb := 3) (b := 0) (w03_c33 h) rfl rfl rfl (mAll4_ok wv0_u0 hnb) (wg0_0 hnb))
  | n + 4, hn => by omega) (fun nb hnb => match nb, hnb with
  | 0, hnb => rc_ME_of (by decide) (m_pubM1 (Kb := wK1) (nb := 0) (b := 1) (w10_c31 h) rfl rfl rfl (mAll4_ok wv1_u0 hnb) (wg1_0 hnb))
  | 1, hnb => rc_ME_of (by decide) (m_pubM1 (Kb := wK1) (nb := 1) (b := 1) (w11_c33 h) rfl rfl rfl (mAll4_ok wv1_u0 hnb) (wg1_0 hnb))
  | 2, hnb => rc_ME_of (by decide) (m_pubM1 (Kb := wK1) (nb := 2) (b := 1) (w12_c33 h) rfl rfl rfl (mAll4_ok wv1_u0 hnb) (wg1_0 hnb))
  | 3, hnb => rc_ME_of (by decide) (m_pubM1 (Kb := wK1) (nb := 3) (b := 1) (w13_c33 h) rfl rfl rfl (mAll4_ok wv1_u0 hnb) (wg1_0 hnb))
  | n + 4, hn => by omega)
theorem pM_strand (h : ∀ (i j q : Nat), ad[i]? = some q → ad[j]? = some q → i = j) : rc_ME l κ D 280 (fun vs w => mI κ ad w ∧ ∃ q : Nat, ad[0]? = some q ∧ mArgs q 2 vs) (fun _ w ov w' => mQc κ ad w ov w') := mI_all (A := fun vs => ∃ q : Nat, ad[0]? = some q ∧ mArgs q 2 vs) (fun nb hnb => match nb, hnb with
  | 0, hnb => rc_ME_of (by decide) (m_pubM1 (Kb := wK0) (nb := 0) (b := 0) (w00_c32 h) rfl rfl rfl (mAll4_ok wv0_u0 hnb) (wg0_0 hnb))
  | 1, hnb => rc_ME_of (by decide) (m_pubM1 (Kb := wK0) (nb := 1) (b := 0) (w01_c34 h) rfl rfl rfl (mAll4_ok wv0_u0 hnb) (wg0_0 hnb))
  | 2, hnb => rc_ME_of (by decide) (m_pubM1 (Kb := wK0) (nb := 2) (b := 0) (w02_c34 h) rfl rfl rfl (mAll4_ok wv0_u0 hnb) (wg0_0 hnb))
  | 3, hnb => rc_ME_of (by decide) (m_pubM1 (Kb := wK0) (nb := 3) (b := 0) (w03_c34 h) rfl rfl rfl (mAll4_ok wv0_u0 hnb) (wg0_0 hnb))
  | n + 4, hn => by omega) (fun nb hnb => match nb, hnb with
  | 0, hnb => rc_ME_of (by decide) (m_pubM1 (Kb := wK1) (nb := 0) (b := 1) (w10_c32 h) rfl rfl rfl (mAll4_ok wv1_u0 hnb) (wg1_0 hnb))
  | 1, hnb => rc_ME_of (by decide) (m_pubM1 (Kb := wK1) (nb := 1) (b := 1) (w11_c34 h) rfl rfl rfl (mAll4_ok wv1_u0 hnb) (wg1_0 hnb))
  | 2, hnb => rc_ME_of (by decide) (m_pubM1 (Kb := wK1) (nb := 2) (b := 1) (w12_c34 h) rfl rfl rfl (mAll4_ok wv1_u0 hnb) (wg1_0 hnb))
  | 3, hnb => rc_ME_of (by decide) (m_pubM1 (Kb := wK1) (nb := 3) (b := 1) (w13_c34 h) rfl rfl rfl (mAll4_ok wv1_u0 hnb) (wg1_0 hnb))
  | n + 4, hn => by omega)
theorem pM_strandNow (h : ∀ (i j q : Nat), ad[i]? = some q → ad[j]? = some q → i = j) : rc_ME l κ D 281 (fun vs w => mI κ ad w ∧ ∃ q : Nat, ad[0]? = some q ∧ mArgs q 1 vs) (fun _ w ov w' => mQc κ ad w ov w') := mI_all (A := fun vs => ∃ q : Nat, ad[0]? = some q ∧ mArgs q 1 vs) (fun nb hnb => match nb, hnb with
  | 0, hnb => rc_ME_of (by decide) (m_pubM1 (Kb := wK0) (nb := 0) (b := 0) (w00_c33 h) rfl rfl rfl (mAll4_ok wv0_u0 hnb) (wg0_0 hnb))
  | 1, hnb => rc_ME_of (by decide) (m_pubM1 (Kb := wK0) (nb := 1) (b := 0) (w01_c35 h) rfl rfl rfl (mAll4_ok wv0_u0 hnb) (wg0_0 hnb))
  | 2, hnb => rc_ME_of (by decide) (m_pubM1 (Kb := wK0) (nb := 2) (b := 0) (w02_c35 h) rfl rfl rfl (mAll4_ok wv0_u0 hnb) (wg0_0 hnb))
  | 3, hnb => rc_ME_of (by decide) (m_pubM1 (Kb := wK0) (nb := 3) (b := 0) (w03_c35 h) rfl rfl rfl (mAll4_ok wv0_u0 hnb) (wg0_0 hnb))
  | n + 4, hn => by omega) (fun nb hnb => match nb, hnb with
  | 0, hnb => rc_ME_of (by decide) (m_pubM1 (Kb := wK1) (nb := 0) (b := 1) (w10_c33 h) rfl rfl rfl (mAll4_ok wv1_u0 hnb) (wg1_0 hnb))
  | 1, hnb => rc_ME_of (by decide) (m_pubM1 (Kb := wK1) (nb := 1) (b := 1) (w11_c35 h) rfl rfl rfl (mAll4_ok wv1_u0 hnb) (wg1_0 hnb))
  | 2, hnb => rc_ME_of (by decide) (m_pubM1 (Kb := wK1) (nb := 2) (b := 1) (w12_c35 h) rfl rfl rfl (mAll4_ok wv1_u0 hnb) (wg1_0 hnb))
  | 3, hnb => rc_ME_of (by decide) (m_pubM1 (Kb := wK1) (nb := 3) (b := 1) (w13_c35 h) rfl rfl rfl (mAll4_ok wv1_u0 hnb) (wg1_0 hnb))
  | n + 4, hn => by omega)
theorem pM_free (h : ∀ (i j q : Nat), ad[i]? = some q → ad[j]? = some q → i = j) : rc_ME l κ D 207 (fun vs w => mI κ ad w ∧ ∃ q : Nat, ad[0]? = some q ∧ mArgs q 1 vs) (fun _ w ov w' => mQc κ ad w ov w') := mI_all (A := fun vs => ∃ q : Nat, ad[0]? = some q ∧ mArgs q 1 vs) (fun nb hnb => match nb, hnb with
  | 0, hnb => rc_ME_of (by decide) (m_pubM1 (Kb := wK0) (nb := 0) (b := 0) (w00_c34 h) rfl rfl rfl (mAll4_ok wv0_u0 hnb) (wg0_0 hnb))
  | 1, hnb => rc_ME_of (by decide) (m_pubM1 (Kb := wK0) (nb := 1) (b := 0) (w01_c36 h) rfl rfl rfl (mAll4_ok wv0_u0 hnb) (wg0_0 hnb))
  | 2, hnb => rc_ME_of (by decide) (m_pubM1 (Kb := wK0) (nb := 2) (b := 0) (w02_c36 h) rfl rfl rfl (mAll4_ok wv0_u0 hnb) (wg0_0 hnb))
  | 3, hnb => rc_ME_of (by decide) (m_pubM1 (Kb := wK0) (nb := 3) (b := 0) (w03_c36 h) rfl rfl rfl (mAll4_ok wv0_u0 hnb) (wg0_0 hnb))
  | n + 4, hn => by omega) (fun nb hnb => match nb, hnb with
  | 0, hnb => rc_ME_of (by decide) (m_pubM1 (Kb := wK1) (nb := 0) (b := 1) (w10_c34 h) rfl rfl rfl (mAll4_ok wv1_u0 hnb) (wg1_0 hnb))
  | 1, hnb => rc_ME_of (by decide) (m_pubM1 (Kb := wK1) (nb := 1) (b := 1) (w11_c36 h) rfl rfl rfl (mAll4_ok wv1_u0 hnb) (wg1_0 hnb))
  | 2, hnb => rc_ME_of (by decide) (m_pubM1 (Kb := wK1) (nb := 2) (b := 1) (w12_c36 h) rfl rfl rfl (mAll4_ok wv1_u0 hnb) (wg1_0 hnb))
  | 3, hnb => rc_ME_of (by decide) (m_pubM1 (Kb := wK1) (nb := 3) (b := 1) (w13_c36 h) rfl rfl rfl (mAll4_ok wv1_u0 hnb) (wg1_0 hnb))
  | n + 4, hn => by omega)
theorem pM_splice (h : ∀ (i j q : Nat), ad[i]? = some q → ad[j]? = some q → i = j) : rc_ME l κ D 278 (fun vs w => mI κ ad w ∧ ∃ q : Nat, ad[0]? = some q ∧ mArgs q 2 vs) (fun _ w ov w' => mQc κ ad w ov w') := mI_all (A := fun vs => ∃ q : Nat, ad[0]? = some q ∧ mArgs q 2 vs) (fun nb hnb => match nb, hnb with
  | 0, hnb => rc_ME_of (by decide) (m_pubM1 (Kb := wK0) (nb := 0) (b := 0) (w00_c35 h) rfl rfl rfl (mAll4_ok wv0_u0 hnb) (wg0_0 hnb))
  | 1, hnb => rc_ME_of (by decide) (m_pubM1 (Kb := wK0) (nb := 1) (b := 0) (w01_c37 h) rfl rfl rfl (mAll4_ok wv0_u0 hnb) (wg0_0 hnb))
  | 2, hnb => rc_ME_of (by decide) (m_pubM1 (Kb := wK0) (nb := 2) (b := 0) (w02_c37 h) rfl rfl rfl (mAll4_ok wv0_u0 hnb) (wg0_0 hnb))
  | 3, hnb => rc_ME_of (by decide) (m_pubM1 (Kb := wK0) (nb := 3) (b := 0) (w03_c37 h) rfl rfl rfl (mAll4_ok wv0_u0 hnb) (wg0_0 hnb))
  | n + 4, hn => by omega) (fun nb hnb => match nb, hnb with
  | 0, hnb => rc_ME_of (by decide) (m_pubM1 (Kb := wK1) (nb := 0) (b := 1) (w10_c35 h) rfl rfl rfl (mAll4_ok wv1_u0 hnb) (wg1_0 hnb))
  | 1, hnb => rc_ME_of (by decide) (m_pubM1 (Kb := wK1) (nb := 1) (b := 1) (w11_c37 h) rfl rfl rfl (mAll4_ok wv1_u0 hnb) (wg1_0 hnb))
  | 2, hnb => rc_ME_of (by decide) (m_pubM1 (Kb := wK1) (nb := 2) (b := 1) (w12_c37 h) rfl rfl rfl (mAll4_ok wv1_u0 hnb) (wg1_0 hnb))
  | 3, hnb => rc_ME_of (by decide) (m_pubM1 (Kb := wK1) (nb := 3) (b := 1) (w13_c37 h) rfl rfl rfl (mAll4_ok wv1_u0 hnb) (wg1_0 hnb))
  | n + 4, hn => by omega)
theorem pM_due (h : ∀ (i j q : Nat), ad[i]? = some q → ad[j]? = some q → i = j) : rc_ME l κ D 197 (fun vs w => mI κ ad w ∧ ∃ q : Nat, ad[0]? = some q ∧ mArgs q 1 vs) (fun _ w ov w' => mQc κ ad w ov w') := mI_all (A := fun vs => ∃ q : Nat, ad[0]? = some q ∧ mArgs q 1 vs) (fun nb hnb => match nb, hnb with
  | 0, hnb => rc_ME_of (by decide) (m_pubM1 (Kb := wK0) (nb := 0) (b := 0) (w00_c36 h) rfl rfl rfl (mAll4_ok wv0_u2 hnb) (wg0_2 hnb))
  | 1, hnb => rc_ME_of (by decide) (m_pubM1 (Kb := wK0) (nb := 1) (b := 0) (w01_c42 h) rfl rfl rfl (mAll4_ok wv0_u2 hnb) (wg0_2 hnb))
  | 2, hnb => rc_ME_of (by decide) (m_pubM1 (Kb := wK0) (nb := 2) (b := 0) (w02_c42 h) rfl rfl rfl (mAll4_ok wv0_u2 hnb) (wg0_2 hnb))
  | 3, hnb => rc_ME_of (by decide) (m_pubM1 (Kb := wK0) (nb := 3) (b := 0) (w03_c42 h) rfl rfl rfl (mAll4_ok wv0_u2 hnb) (wg0_2 hnb))
  | n + 4, hn => by omega) (fun nb hnb => match nb, hnb with
  | 0, hnb => rc_ME_of (by decide) (m_pubM1 (Kb := wK1) (nb := 0) (b := 1) (w10_c36 h) rfl rfl rfl (mAll4_ok wv1_u2 hnb) (wg1_2 hnb))
  | 1, hnb => rc_ME_of (by decide) (m_pubM1 (Kb := wK1) (nb := 1) (b := 1) (w11_c42 h) rfl rfl rfl (mAll4_ok wv1_u2 hnb) (wg1_2 hnb))
  | 2, hnb => rc_ME_of (by decide) (m_pubM1 (Kb := wK1) (nb := 2) (b := 1) (w12_c42 h) rfl rfl rfl (mAll4_ok wv1_u2 hnb) (wg1_2 hnb))
  | 3, hnb => rc_ME_of (by decide) (m_pubM1 (Kb := wK1) (nb := 3) (b := 1) (w13_c42 h) rfl rfl rfl (mAll4_ok wv1_u2 hnb) (wg1_2 hnb))
  | n + 4, hn => by omega)
theorem pM_cost (h : ∀ (i j q : Nat), ad[i]? = some q → ad[j]? = some q → i = j) : rc_ME l κ D 192 (fun vs w => mI κ ad w ∧ ∃ q : Nat, ad[0]? = some q ∧ mArgs q 2 vs) (fun _ w ov w' => mQc κ ad w ov w') := mI_all (A := fun vs => ∃ q : Nat, ad[0]? = some q ∧ mArgs q 2 vs) (fun nb hnb => match nb, hnb with
  | 0, hnb => rc_ME_of (by decide) (m_pubM1 (Kb := wK0) (nb := 0) (b := 0) (w00_c42 h) rfl rfl rfl (mAll4_ok wv0_u4 hnb) (wg0_4 hnb))
  | 1, hnb => rc_ME_of (by decide) (m_pubM1 (Kb := wK0) (nb := 1) (b := 0) (w01_c44 h) rfl rfl rfl (mAll4_ok wv0_u4 hnb) (wg0_4 hnb))
  | 2, hnb => rc_ME_of (by decide) (m_pubM1 (Kb := wK0) (nb := 2) (b := 0) (w02_c44 h) rfl rfl rfl (mAll4_ok wv0_u4 hnb) (wg0_4 hnb))
  | 3, hnb => rc_ME_of (by decide) (m_pubM1 (Kb := wK0) (nb := 3) (b := 0) (w03_c44 h) rfl rfl rfl (mAll4_ok wv0_u4 hnb) (wg0_4 hnb))
  | n + 4, hn => by omega) (fun nb hnb => match nb, hnb with
  | 0, hnb => rc_ME_of (by decide) (m_pubM1 (Kb := wK1) (nb := 0) (b := 1) (w10_c42 h) rfl rfl rfl (mAll4_ok wv1_u4 hnb) (wg1_4 hnb))
  | 1, hnb => rc_ME_of (by decide) (m_pubM1 (Kb := wK1) (nb := 1) (b := 1) (w11_c44 h) rfl rfl rfl (mAll4_ok wv1_u4 hnb) (wg1_4 hnb))
  | 2, hnb => rc_ME_of (by decide) (m_pubM1 (Kb := wK1) (nb := 2) (b := 1) (w12_c44 h) rfl rfl rfl (mAll4_ok wv1_u4 hnb) (wg1_4 hnb))
  | 3, hnb => rc_ME_of (by decide) (m_pubM1 (Kb := wK1) (nb := 3) (b := 1) (w13_c44 h) rfl rfl rfl (mAll4_ok wv1_u4 hnb) (wg1_4 hnb))
  | n + 4, hn => by omega)
theorem pM_halt (h : ∀ (i j q : Nat), ad[i]? = some q → ad[j]? = some q → i = j) : rc_ME l κ D 215 (fun vs w => mI κ ad w ∧ ∃ q : Nat, ad[0]? = some q ∧ mArgs q 1 vs) (fun _ w ov w' => mQc κ ad w ov w') := mI_all (A := fun vs => ∃ q : Nat, ad[0]? = some q ∧ mArgs q 1 vs) (fun nb hnb => match nb, hnb with
  | 0, hnb => rc_ME_of (by decide) (m_pubM1 (Kb := wK0) (nb := 0) (b := 0) (w00_c43 h) rfl rfl rfl (mAll4_ok wv0_u0 hnb) (wg0_0 hnb))
  | 1, hnb => rc_ME_of (by decide) (m_pubM1 (Kb := wK0) (nb := 1) (b := 0) (w01_c45 h) rfl rfl rfl (mAll4_ok wv0_u0 hnb) (wg0_0 hnb))
  | 2, hnb => rc_ME_of (by decide) (m_pubM1 (Kb := wK0) (nb := 2) (b := 0) (w02_c45 h) rfl rfl rfl (mAll4_ok wv0_u0 hnb) (wg0_0 hnb))
  | 3, hnb => rc_ME_of (by decide) (m_pubM1 (Kb := wK0) (nb := 3) (b := 0) (w03_c45 h) rfl rfl rfl (mAll4_ok wv0_u0 hnb) (wg0_0 hnb))
  | n + 4, hn => by omega) (fun nb hnb => match nb, hnb with
  | 0, hnb => rc_ME_of (by decide) (m_pubM1 (Kb := wK1) (nb := 0) (b := 1) (w10_c43 h) rfl rfl rfl (mAll4_ok wv1_u0 hnb) (wg1_0 hnb))
  | 1, hnb => rc_ME_of (by decide) (m_pubM1 (Kb := wK1) (nb := 1) (b := 1) (w11_c45 h) rfl rfl rfl (mAll4_ok wv1_u0 hnb) (wg1_0 hnb))
  | 2, hnb => rc_ME_of (by decide) (m_pubM1 (Kb := wK1) (nb := 2) (b := 1) (w12_c45 h) rfl rfl rfl (mAll4_ok wv1_u0 hnb) (wg1_0 hnb))
  | 3, hnb => rc_ME_of (by decide) (m_pubM1 (Kb := wK1) (nb := 3) (b := 1) (w13_c45 h) rfl rfl rfl (mAll4_ok wv1_u0 hnb) (wg1_0 hnb))
  | n + 4, hn => by omega)
theorem pM_rolls (h : ∀ (i j q : Nat), ad[i]? = some q → ad[j]? = some q → i = j) : rc_ME l κ D 266 (fun vs w => mI κ ad w ∧ ∃ q : Nat, ad[0]? = some q ∧ mArgs q 0 vs) (fun _ w ov w' => mQc κ ad w ov w') := mI_all (A := fun vs => ∃ q : Nat, ad[0]? = some q ∧ mArgs q 0 vs) (fun nb hnb => match nb, hnb with
  | 0, hnb => rc_ME_of (by decide) (m_pubM1 (Kb := wK0) (nb := 0) (b := 0) (w00_c44 h) rfl rfl rfl (mAll4_ok wv0_u0 hnb) (wg0_0 hnb))
  | 1, hnb => rc_ME_of (by decide) (m_pubM1 (Kb := wK0) (nb := 1) (b := 0) (w01_c46 h) rfl rfl rfl (mAll4_ok wv0_u0 hnb) (wg0_0 hnb))
  | 2, hnb => rc_ME_of (by decide) (m_pubM1 (Kb := wK0) (nb := 2) (b := 0) (w02_c46 h) rfl rfl rfl (mAll4_ok wv0_u0 hnb) (wg0_0 hnb))
  | 3, hnb => rc_ME_of (by decide) (m_pubM1 (Kb := wK0) (nb := 3) (b := 0) (w03_c46 h) rfl rfl rfl (mAll4_ok wv0_u0 hnb) (wg0_0 hnb))
  | n + 4, hn => by omega) (fun nb hnb => match nb, hnb with
  | 0, hnb => rc_ME_of (by decide) (m_pubM1 (Kb := wK1) (nb := 0) (b := 1) (w10_c44 h) rfl rfl rfl (mAll4_ok wv1_u0 hnb) (wg1_0 hnb))
  | 1, hnb => rc_ME_of (by decide) (m_pubM1 (Kb := wK1) (nb := 1) (b := 1) (w11_c46 h) rfl rfl rfl (mAll4_ok wv1_u0 hnb) (wg1_0 hnb))
  | 2, hnb => rc_ME_of (by decide) (m_pubM1 (Kb := wK1) (nb := 2) (b := 1) (w12_c46 h) rfl rfl rfl (mAll4_ok wv1_u0 hnb) (wg1_0 hnb))
  | 3, hnb => rc_ME_of (by decide) (m_pubM1 (Kb := wK1) (nb := 3) (b := 1) (w13_c46 h) rfl rfl rfl (mAll4_ok wv1_u0 hnb) (wg1_0 hnb))
  | n + 4, hn => by omega)
theorem pM_trips (h : ∀ (i j q : Nat), ad[i]? = some q → ad[j]? = some q → i = j) : rc_ME l κ D 286 (fun vs w => mI κ ad w ∧ ∃ q : Nat, ad[0]? = some q ∧ mArgs q 1 vs) (fun _ w ov w' => mQc κ ad w ov w') := mI_all (A := fun vs => ∃ q : Nat, ad[0]? = some q ∧ mArgs q 1 vs) (fun nb hnb => match nb, hnb with
  | 0, hnb => rc_ME_of (by decide) (m_pubM1 (Kb := wK0) (nb := 0) (b := 0) (w00_c45 h) rfl rfl rfl (mAll4_ok wv0_u0 hnb) (wg0_0 hnb))
  | 1, hnb => rc_ME_of (by decide) (m_pubM1 (Kb := wK0) (nb := 1) (b := 0) (w01_c47 h) rfl rfl rfl (mAll4_ok wv0_u0 hnb) (wg0_0 hnb))
  | 2, hnb => rc_ME_of (by decide) (m_pubM1 (Kb := wK0) (nb := 2) (b := 0) (w02_c47 h) rfl rfl rfl (mAll4_ok wv0_u0 hnb) (wg0_0 hnb))
  | 3, hnb => rc_ME_of (by decide) (m_pubM1 (Kb := wK0) (nb := 3) (b := 0) (w03_c47 h) rfl rfl rfl (mAll4_ok wv0_u0 hnb) (wg0_0 hnb))
  | n + 4, hn => by omega) (fun nb hnb => match nb, hnb with
  | 0, hnb => rc_ME_of (by decide) (m_pubM1 (Kb := wK1) (nb := 0) (b := 1) (w10_c45 h) rfl rfl rfl (mAll4_ok wv1_u0 hnb) (wg1_0 hnb))
  | 1, hnb => rc_ME_of (by decide) (m_pubM1 (Kb := wK1) (nb := 1) (b := 1) (w11_c47 h) rfl rfl rfl (mAll4_ok wv1_u0 hnb) (wg1_0 hnb))
  | 2, hnb => rc_ME_of (by decide) (m_pubM1 (Kb := wK1) (nb := 2) (b := 1) (w12_c47 h) rfl rfl rfl (mAll4_ok wv1_u0 hnb) (wg1_0 hnb))
  | 3, hnb => rc_ME_of (by decide) (m_pubM1 (Kb := wK1) (nb := 3) (b := 1) (w13_c47 h) rfl rfl rfl (mAll4_ok wv1_u0 hnb) (wg1_0 hnb))
  | n + 4, hn => by omega)
theorem pM_asks (h : ∀ (i j q : Nat), ad[i]? = some q → ad[j]? = some q → i = j) : rc_ME l κ D 178 (fun vs w => mI κ ad w ∧ ∃ q : Nat, ad[0]? = some q ∧ mArgs q 2 vs) (fun _ w ov w' => mQc κ ad w ov w') := mI_all (A := fun vs => ∃ q : Nat, ad[0]? = some q ∧ mArgs q 2 vs) (fun nb hnb => match nb, hnb with
  | 0, hnb => rc_ME_of (by decide) (m_pubM1 (Kb := wK0) (nb := 0) (b := 0) (w00_c46 h) rfl rfl rfl (mAll4_ok wv0_u0 hnb) (wg0_0 hnb))
  | 1, hnb => rc_ME_of (by decide) (m_pubM1 (Kb := wK0) (nb := 1) (b := 0) (w01_c48 h) rfl rfl rfl (mAll4_ok wv0_u0 hnb) (wg0_0 hnb))
  | 2, hnb => rc_ME_of (by decide) (m_pubM1 (Kb := wK0) (nb := 2) (b := 0) (w02_c48 h) rfl rfl rfl (mAll4_ok wv0_u0 hnb) (wg0_0 hnb))
  | 3, hnb => rc_ME_of (by decide) (m_pubM1 (Kb := wK0) (nb := 3) (b := 0) (w03_c48 h) rfl rfl rfl (mAll4_ok wv0_u0 hnb) (wg0_0 hnb))
  | n + 4, hn => by omega) (fun nb hnb => match nb, hnb with
  | 0, hnb => rc_ME_of (by decide) (m_pubM1 (Kb := wK1) (nb := 0) (b := 1) (w10_c46 h) rfl rfl rfl (mAll4_ok wv1_u0 hnb) (wg1_0 hnb))
  | 1, hnb => rc_ME_of (by decide) (m_pubM1 (Kb := wK1) (nb := 1) (b := 1) (w11_c48 h) rfl rfl rfl (mAll4_ok wv1_u0 hnb) (wg1_0 hnb))
  | 2, hnb => rc_ME_of (by decide) (m_pubM1 (Kb := wK1) (nb := 2) (b := 1) (w12_c48 h) rfl rfl rfl (mAll4_ok wv1_u0 hnb) (wg1_0 hnb))
  | 3, hnb => rc_ME_of (by decide) (m_pubM1 (Kb := wK1) (nb := 3) (b := 1) (w13_c48 h) rfl rfl rfl (mAll4_ok wv1_u0 hnb) (wg1_0 hnb))
  | n + 4, hn => by omega)
theorem pM_event (h : ∀ (i j q : Nat), ad[i]? = some q → ad[j]? = some q → i = j) : rc_ME l κ D 201 (fun vs w => mI κ ad w ∧ ∃ q : Nat, ad[0]? = some q ∧ mArgs q 2 vs) (fun _ w ov w' => mQc κ ad w ov w') := mI_all (A := fun vs => ∃ q : Nat, ad[0]? = some q ∧ mArgs q 2 vs) (fun nb hnb => match nb, hnb with
  | 0, hnb => rc_ME_of (by decide) (m_pubM1 (Kb := wK0) (nb := 0) (b := 0) (w00_c47 h) rfl rfl rfl (mAll4_ok wv0_u0 hnb) (wg0_0 hnb))
  | 1, hnb => rc_ME_of (by decide) (m_pubM1 (Kb := wK0) (nb := 1) (b := 0) (w01_c49 h) rfl rfl rfl (mAll4_ok wv0_u0 hnb) (wg0_0 hnb))
  | 2, hnb => rc_ME_of (by decide) (m_pubM1 (Kb := wK0) (nb := 2) (b := 0) (w02_c49 h) rfl rfl rfl (mAll4_ok wv0_u0 hnb) (wg0_0 hnb))
  | 3, hnb => rc_ME_of (by decide) (m_pubM1 (Kb := wK0) (nb := 3) (b := 0) (w03_c49 h) rfl rfl rfl (mAll4_ok wv0_u0 hnb) (wg0_0 hnb))
  | n + 4, hn => by omega) (fun nb hnb => match nb, hnb with
  | 0, hnb => rc_ME_of (by decide) (m_pubM1 (Kb := wK1) (nb := 0) (b := 1) (w10_c47 h) rfl rfl rfl (mAll4_ok wv1_u0 hnb) (wg1_0 hnb))
  | 1, hnb => rc_ME_of (by decide) (m_pubM1 (Kb := wK1) (nb := 1) (b := 1) (w11_c49 h) rfl rfl rfl (mAll4_ok wv1_u0 hnb) (wg1_0 hnb))
  | 2, hnb => rc_ME_of (by decide) (m_pubM1 (Kb := wK1) (nb := 2) (b := 1) (w12_c49 h) rfl rfl rfl (mAll4_ok wv1_u0 hnb) (wg1_0 hnb))
  | 3, hnb => rc_ME_of (by decide) (m_pubM1 (Kb := wK1) (nb := 3) (b := 1) (w13_c49 h) rfl rfl rfl (mAll4_ok wv1_u0 hnb) (wg1_0 hnb))
  | n + 4, hn => by omega)
theorem pM_coasts (h : ∀ (i j q : Nat), ad[i]? = some q → ad[j]? = some q → i = j) : rc_ME l κ D 189 (fun vs w => mI κ ad w ∧ ∃ q : Nat, ad[0]? = some q ∧ mArgs q 3 vs) (fun _ w ov w' => mQc κ ad w ov w') := mI_all (A := fun vs => ∃ q : Nat, ad[0]? = some q ∧ mArgs q 3 vs) (fun nb hnb => match nb, hnb with
  | 0, hnb => rc_ME_of (by decide) (m_pubM1 (Kb := wK0) (nb := 0) (b := 0) (w00_c49 h) rfl rfl rfl (mAll4_ok wv0_u0 hnb) (wg0_0 hnb))
  | 1, hnb => rc_ME_of (by decide) (m_pubM1 (Kb := wK0) (nb := 1) (b := 0) (w01_c51 h) rfl rfl rfl (mAll4_ok wv0_u0 hnb) (wg0_0 hnb))
  | 2, hnb => rc_ME_of (by decide) (m_pubM1 (Kb := wK0) (nb := 2) (b := 0) (w02_c51 h) rfl rfl rfl (mAll4_ok wv0_u0 hnb) (wg0_0 hnb))
  | 3, hnb => rc_ME_of (by decide) (m_pubM1 (Kb := wK0) (nb := 3) (b := 0) (w03_c51 h) rfl rfl rfl (mAll4_ok wv0_u0 hnb) (wg0_0 hnb))
  | n + 4, hn => by omega) (fun nb hnb => match nb, hnb with
  | 0, hnb => rc_ME_of (by decide) (m_pubM1 (Kb := wK1) (nb := 0) (b := 1) (w10_c49 h) rfl rfl rfl (mAll4_ok wv1_u0 hnb) (wg1_0 hnb))
  | 1, hnb => rc_ME_of (by decide) (m_pubM1 (Kb := wK1) (nb := 1) (b := 1) (w11_c51 h) rfl rfl rfl (mAll4_ok wv1_u0 hnb) (wg1_0 hnb))
  | 2, hnb => rc_ME_of (by decide) (m_pubM1 (Kb := wK1) (nb := 2) (b := 1) (w12_c51 h) rfl rfl rfl (mAll4_ok wv1_u0 hnb) (wg1_0 hnb))
  | 3, hnb => rc_ME_of (by decide) (m_pubM1 (Kb := wK1) (nb := 3) (b := 1) (w13_c51 h) rfl rfl rfl (mAll4_ok wv1_u0 hnb) (wg1_0 hnb))
  | n + 4, hn => by omega)
theorem pM_need (h : ∀ (i j q : Nat), ad[i]? = some q → ad[j]? = some q → i = j) : rc_ME l κ D 250 (fun vs w => mI κ ad w ∧ ∃ q : Nat, ad[0]? = some q ∧ mArgs q 1 vs) (fun _ w ov w' => mQc κ ad w ov w') := mI_all (A := fun vs => ∃ q : Nat, ad[0]? = some q ∧ mArgs q 1 vs) (fun nb hnb => match nb, hnb with
  | 0, hnb => rc_ME_of (by decide) (m_pubM1 (Kb := wK0) (nb := 0) (b := 0) (w00_c50 h) rfl rfl rfl (mAll4_ok wv0_u0 hnb) (wg0_0 hnb))
  | 1, hnb => rc_ME_of (by decide) (m_pubM1 (Kb := wK0) (nb := 1) (b := 0) (w01_c52 h) rfl rfl rfl (mAll4_ok wv0_u0 hnb) (wg0_0 hnb))
  | 2, hnb => rc_ME_of (by decide) (m_pubM1 (Kb := wK0) (nb := 2) (b := 0) (w02_c52 h) rfl rfl rfl (mAll4_ok wv0_u0 hnb) (wg0_0 hnb))
  | 3, hnb => rc_ME_of (by decide) (m_pubM1 (Kb := wK0) (nb := 3) (b := 0) (w03_c52 h) rfl rfl rfl (mAll4_ok wv0_u0 hnb) (wg0_0 hnb))
  | n + 4, hn => by omega) (fun nb hnb => match nb, hnb with
  | 0, hnb => rc_ME_of (by decide) (m_pubM1 (Kb := wK1) (nb := 0) (b := 1) (w10_c50 h) rfl rfl rfl (mAll4_ok wv1_u0 hnb) (wg1_0 hnb))
  | 1, hnb => rc_ME_of (by decide) (m_pubM1 (Kb := wK1) (nb := 1) (b := 1) (w11_c52 h) rfl rfl rfl (mAll4_ok wv1_u0 hnb) (wg1_0 hnb))
  | 2, hnb => rc_ME_of (by decide) (m_pubM1 (Kb := wK1) (nb := 2) (b := 1) (w12_c52 h) rfl rfl rfl (mAll4_ok wv1_u0 hnb) (wg1_0 hnb))
  | 3, hnb => rc_ME_of (by decide) (m_pubM1 (Kb := wK1) (nb := 3) (b := 1) (w13_c52 h) rfl rfl rfl (mAll4_ok wv1_u0 hnb) (wg1_0 hnb))
  | n + 4, hn => by omega)
theorem pM_takes (h : ∀ (i j q : Nat), ad[i]? = some q → ad[j]? = some q → i = j) : rc_ME l κ D 284 (fun vs w => mI κ ad w ∧ ∃ q : Nat, ad[0]? = some q ∧ mArgs q 0 vs) (fun _ w ov w' => mQc κ ad w ov w') := mI_all (A := fun vs => ∃ q : Nat, ad[0]? = some q ∧ mArgs q 0 vs) (fun nb hnb => match nb, hnb with
  | 0, hnb => rc_ME_of (by decide) (m_pubM1 (Kb := wK0) (nb := 0) (b := 0) (w00_c51 h) rfl rfl rfl (mAll4_ok wv0_u2 hnb) (wg0_2 hnb))
  | 1, hnb => rc_ME_of (by decide) (m_pubM1 (Kb := wK0) (nb := 1) (b := 0) (w01_c53 h) rfl rfl rfl (mAll4_ok wv0_u2 hnb) (wg0_2 hnb))
  | 2, hnb => rc_ME_of (by decide) (m_pubM1 (Kb := wK0) (nb := 2) (b := 0) (w02_c53 h) rfl rfl rfl (mAll4_ok wv0_u2 hnb) (wg0_2 hnb))
  | 3, hnb => rc_ME_of (by decide) (m_pubM1 (Kb := wK0) (nb := 3) (b := 0) (w03_c53 h) rfl rfl rfl (mAll4_ok wv0_u2 hnb) (wg0_2 hnb))
  | n + 4, hn => by omega) (fun nb hnb => match nb, hnb with
  | 0, hnb => rc_ME_of (by decide) (m_pubM1 (Kb := wK1) (nb := 0) (b := 1) (w10_c51 h) rfl rfl rfl (mAll4_ok wv1_u2 hnb) (wg1_2 hnb))
  | 1, hnb => rc_ME_of (by decide) (m_pubM1 (Kb := wK1) (nb := 1) (b := 1) (w11_c53 h) rfl rfl rfl (mAll4_ok wv1_u2 hnb) (wg1_2 hnb))
  | 2, hnb => rc_ME_of (by decide) (m_pubM1 (Kb := wK1) (nb := 2) (b := 1) (w12_c53 h) rfl rfl rfl (mAll4_ok wv1_u2 hnb) (wg1_2 hnb))
  | 3, hnb => rc_ME_of (by decide) (m_pubM1 (Kb := wK1) (nb := 3) (b := 1) (w13_c53 h) rfl rfl rfl (mAll4_ok wv1_u2 hnb) (wg1_2 hnb))
  | n + 4, hn => by omega)
theorem pM_head (h : ∀ (i j q : Nat), ad[i]? = some q → ad[j]? = some q → i = j) : rc_ME l κ D 217 (fun vs w => mI κ ad w ∧ ∃ q : Nat, ad[0]? = some q ∧ mArgs q 1 vs) (fun _ w ov w' => mQc κ ad w ov w') := mI_all (A := fun vs => ∃ q : Nat, ad[0]? = some q ∧ mArgs q 1 vs) (fun nb hnb => match nb, hnb with
  | 0, hnb => rc_ME_of (by decide) (m_pubM1 (Kb := wK0) (nb := 0) (b := 0) (w00_c53 h) rfl rfl rfl (mAll4_ok wv0_u2 hnb) (wg0_2 hnb))
  | 1, hnb => rc_ME_of (by decide) (m_pubM1 (Kb := wK0) (nb := 1) (b := 0) (w01_c55 h) rfl rfl rfl (mAll4_ok wv0_u2 hnb) (wg0_2 hnb))
  | 2, hnb => rc_ME_of (by decide) (m_pubM1 (Kb := wK0) (nb := 2) (b := 0) (w02_c55 h) rfl rfl rfl (mAll4_ok wv0_u2 hnb) (wg0_2 hnb))
  | 3, hnb => rc_ME_of (by decide) (m_pubM1 (Kb := wK0) (nb := 3) (b := 0) (w03_c55 h) rfl rfl rfl (mAll4_ok wv0_u2 hnb) (wg0_2 hnb))
  | n + 4, hn => by omega) (fun nb hnb => match nb, hnb with
  | 0, hnb => rc_ME_of (by decide) (m_pubM1 (Kb := wK1) (nb := 0) (b := 1) (w10_c53 h) rfl rfl rfl (mAll4_ok wv1_u2 hnb) (wg1_2 hnb))
  | 1, hnb => rc_ME_of (by decide) (m_pubM1 (Kb := wK1) (nb := 1) (b := 1) (w11_c55 h) rfl rfl rfl (mAll4_ok wv1_u2 hnb) (wg1_2 hnb))
  | 2, hnb => rc_ME_of (by decide) (m_pubM1 (Kb := wK1) (nb := 2) (b := 1) (w12_c55 h) rfl rfl rfl (mAll4_ok wv1_u2 hnb) (wg1_2 hnb))
  | 3, hnb => rc_ME_of (by decide) (m_pubM1 (Kb := wK1) (nb := 3) (b := 1) (w13_c55 h) rfl rfl rfl (mAll4_ok wv1_u2 hnb) (wg1_2 hnb))
  | n + 4, hn => by omega)
theorem pM_spread (h : ∀ (i j q : Nat), ad[i]? = some q → ad[j]? = some q → i = j) : rc_ME l κ D 279 (fun vs w => mI κ ad w ∧ ∃ q : Nat, ad[0]? = some q ∧ mArgs q 2 vs) (fun _ w ov w' => mQc κ ad w ov w') := mI_all (A := fun vs => ∃ q : Nat, ad[0]? = some q ∧ mArgs q 2 vs) (fun nb hnb => match nb, hnb with
  | 0, hnb => rc_ME_of (by decide) (m_pubM1 (Kb := wK0) (nb := 0) (b := 0) (w00_c54 h) rfl rfl rfl (mAll4_ok wv0_u2 hnb) (wg0_2 hnb))
  | 1, hnb => rc_ME_of (by decide) (m_pubM1 (Kb := wK0) (nb := 1) (b := 0) (w01_c56 h) rfl rfl rfl (mAll4_ok wv0_u2 hnb) (wg0_2 hnb))
  | 2, hnb => rc_ME_of (by decide) (m_pubM1 (Kb := wK0) (nb := 2) (b := 0) (w02_c56 h) rfl rfl rfl (mAll4_ok wv0_u2 hnb) (wg0_2 hnb))
  | 3, hnb => rc_ME_of (by decide) (m_pubM1 (Kb := wK0) (nb := 3) (b := 0) (w03_c56 h) rfl rfl rfl (mAll4_ok wv0_u2 hnb) (wg0_2 hnb))
  | n + 4, hn => by omega) (fun nb hnb => match nb, hnb with
  | 0, hnb => rc_ME_of (by decide) (m_pubM1 (Kb := wK1) (nb := 0) (b := 1) (w10_c54 h) rfl rfl rfl (mAll4_ok wv1_u2 hnb) (wg1_2 hnb))
  | 1, hnb => rc_ME_of (by decide) (m_pubM1 (Kb := wK1) (nb := 1) (b := 1) (w11_c56 h) rfl rfl rfl (mAll4_ok wv1_u2 hnb) (wg1_2 hnb))
  | 2, hnb => rc_ME_of (by decide) (m_pubM1 (Kb := wK1) (nb := 2) (b := 1) (w12_c56 h) rfl rfl rfl (mAll4_ok wv1_u2 hnb) (wg1_2 hnb))
  | 3, hnb => rc_ME_of (by decide) (m_pubM1 (Kb := wK1) (nb := 3) (b := 1) (w13_c56 h) rfl rfl rfl (mAll4_ok wv1_u2 hnb) (wg1_2 hnb))
  | n + 4, hn => by omega)
theorem pM_power (h : ∀ (i j q : Nat), ad[i]? = some q → ad[j]? = some q → i = j) : rc_ME l κ D 254 (fun vs w => mI κ ad w ∧ ∃ q : Nat, ad[0]? = some q ∧ mArgs q 2 vs) (fun _ w ov w' => mQc κ ad w ov w') := mI_all (A := fun vs => ∃ q : Nat, ad[0]? = some q ∧ mArgs q 2 vs) (fun nb hnb => match nb, hnb with
  | 0, hnb => rc_ME_of (by decide) (m_pubM1 (Kb := wK0) (nb := 0) (b := 0) (w00_c41 h) rfl rfl rfl (mAll4_ok wv0_u2 hnb) (wg0_2 hnb))
  | 1, hnb => rc_ME_of (by decide) (m_pubM1 (Kb := wK0) (nb := 1) (b := 0) (w01_c43 h) rfl rfl rfl (mAll4_ok wv0_u2 hnb) (wg0_2 hnb))
  | 2, hnb => rc_ME_of (by decide) (m_pubM1 (Kb := wK0) (nb := 2) (b := 0) (w02_c43 h) rfl rfl rfl (mAll4_ok wv0_u2 hnb) (wg0_2 hnb))
  | 3, hnb => rc_ME_of (by decide) (m_pubM1 (Kb := wK0) (nb := 3) (b := 0) (w03_c43 h) rfl rfl rfl (mAll4_ok wv0_u2 hnb) (wg0_2 hnb))
  | n + 4, hn => by omega) (fun nb hnb => match nb, hnb with
  | 0, hnb => rc_ME_of (by decide) (m_pubM1 (Kb := wK1) (nb := 0) (b := 1) (w10_c41 h) rfl rfl rfl (mAll4_ok wv1_u2 hnb) (wg1_2 hnb))
  | 1, hnb => rc_ME_of (by decide) (m_pubM1 (Kb := wK1) (nb := 1) (b := 1) (w11_c43 h) rfl rfl rfl (mAll4_ok wv1_u2 hnb) (wg1_2 hnb))
  | 2, hnb => rc_ME_of (by decide) (m_pubM1 (Kb := wK1) (nb := 2) (b := 1) (w12_c43 h) rfl rfl rfl (mAll4_ok wv1_u2 hnb) (wg1_2 hnb))
  | 3, hnb => rc_ME_of (by decide) (m_pubM1 (Kb := wK1) (nb := 3) (b := 1) (w13_c43 h) rfl rfl rfl (mAll4_ok wv1_u2 hnb) (wg1_2 hnb))
  | n + 4, hn => by omega)
theorem pM_runaway (h : ∀ (i j q : Nat), ad[i]? = some q → ad[j]? = some q → i = j) : rc_ME l κ D 271 (fun vs w => mI κ ad w ∧ ∃ q : Nat, ad[0]? = some q ∧ mArgs q 2 vs) (fun _ w ov w' => mQc κ ad w ov w') := mI_all (A := fun vs => ∃ q : Nat, ad[0]? = some q ∧ mArgs q 2 vs) (fun nb hnb => match nb, hnb with
  | 0, hnb => rc_ME_of (by decide) (m_pubM1 (Kb := wK0) (nb := 0) (b := 0) (w00_c55 h) rfl rfl rfl (mAll4_ok wv0_u0 hnb) (wg0_0 hnb))
  | 1, hnb => rc_ME_of (by decide) (m_pubM1 (Kb := wK0) (nb := 1) (b := 0) (w01_c57 h) rfl rfl rfl (mAll4_ok wv0_u0 hnb) (wg0_0 hnb))
  | 2, hnb => rc_ME_of (by decide) (m_pubM1 (Kb := wK0) (nb := 2) (b := 0) (w02_c57 h) rfl rfl rfl (mAll4_ok wv0_u0 hnb) (wg0_0 hnb))
  | 3, hnb => rc_ME_of (by decide) (m_pubM1 (Kb := wK0) (nb := 3) (b := 0) (w03_c57 h) rfl rfl rfl (mAll4_ok wv0_u0 hnb) (wg0_0 hnb))
  | n + 4, hn => by omega) (fun nb hnb => match nb, hnb with
  | 0, hnb => rc_ME_of (by decide) (m_pubM1 (Kb := wK1) (nb := 0) (b := 1) (w10_c55 h) rfl rfl rfl (mAll4_ok wv1_u0 hnb) (wg1_0 hnb))
  | 1, hnb => rc_ME_of (by decide) (m_pubM1 (Kb := wK1) (nb := 1) (b := 1) (w11_c57 h) rfl rfl rfl (mAll4_ok wv1_u0 hnb) (wg1_0 hnb))
  | 2, hnb => rc_ME_of (by decide) (m_pubM1 (Kb := wK1) (nb := 2) (b := 1) (w12_c57 h) rfl rfl rfl (mAll4_ok wv1_u0 hnb) (wg1_0 hnb))
  | 3, hnb => rc_ME_of (by decide) (m_pubM1 (Kb := wK1) (nb := 3) (b := 1) (w13_c57 h) rfl rfl rfl (mAll4_ok wv1_u0 hnb) (wg1_0 hnb))
  | n + 4, hn => by omega)
theorem pM_order (h : ∀ (i j q : Nat), ad[i]? = some q → ad[j]? = some q → i = j) : rc_ME l κ D 253 (fun vs w => mI κ ad w ∧ ∃ q : Nat, ad[0]? = some q ∧ mArgs q 1 vs) (fun _ w ov w' => mQc κ ad w ov w') := mI_all (A := fun vs => ∃ q : Nat, ad[0]? = some q ∧ mArgs q 1 vs) (fun nb hnb => match nb, hnb with
  | 0, hnb => rc_ME_of (by decide) (m_pubM1 (Kb := wK0) (nb := 0) (b := 0) (w00_c56 h) rfl rfl rfl (mAll4_ok wv0_u0 hnb) (wg0_0 hnb))
  | 1, hnb => rc_ME_of (by decide) (m_pubM1 (Kb := wK0) (nb := 1) (b := 0) (w01_c58 h) rfl rfl rfl (mAll4_ok wv0_u0 hnb) (wg0_0 hnb))
  | 2, hnb => rc_ME_of (by decide) (m_pubM1 (Kb := wK0) (nb := 2) (b := 0) (w02_c58 h) rfl rfl rfl (mAll4_ok wv0_u0 hnb) (wg0_0 hnb))
  | 3, hnb => rc_ME_of (by decide) (m_pubM1 (Kb := wK0) (nb := 3) (b := 0) (w03_c58 h) rfl rfl rfl (mAll4_ok wv0_u0 hnb) (wg0_0 hnb))
  | n + 4, hn => by omega) (fun nb hnb => match nb, hnb with
  | 0, hnb => rc_ME_of (by decide) (m_pubM1 (Kb := wK1) (nb := 0) (b := 1) (w10_c56 h) rfl rfl rfl (mAll4_ok wv1_u0 hnb) (wg1_0 hnb))
  | 1, hnb => rc_ME_of (by decide) (m_pubM1 (Kb := wK1) (nb := 1) (b := 1) (w11_c58 h) rfl rfl rfl (mAll4_ok wv1_u0 hnb) (wg1_0 hnb))
  | 2, hnb => rc_ME_of (by decide) (m_pubM1 (Kb := wK1) (nb := 2) (b := 1) (w12_c58 h) rfl rfl rfl (mAll4_ok wv1_u0 hnb) (wg1_0 hnb))
  | 3, hnb => rc_ME_of (by decide) (m_pubM1 (Kb := wK1) (nb := 3) (b := 1) (w13_c58 h) rfl rfl rfl (mAll4_ok wv1_u0 hnb) (wg1_0 hnb))
  | n + 4, hn => by omega)
theorem pM_where (h : ∀ (i j q : Nat), ad[i]? = some q → ad[j]? = some q → i = j) : rc_ME l κ D 293 (fun vs w => mI κ ad w ∧ ∃ q : Nat, ad[0]? = some q ∧ mArgs q 3 vs) (fun _ w ov w' => mQc κ ad w ov w') := mI_all (A := fun vs => ∃ q : Nat, ad[0]? = some q ∧ mArgs q 3 vs) (fun nb hnb => match nb, hnb with
  | 0, hnb => rc_ME_of (by decide) (m_pubM1 (Kb := wK0) (nb := 0) (b := 0) (w00_c57 h) rfl rfl rfl (mAll4_ok wv0_u0 hnb) (wg0_0 hnb))
  | 1, hnb => rc_ME_of (by decide) (m_pubM1 (Kb := wK0) (nb := 1) (b := 0) (w01_c59 h) rfl rfl rfl (mAll4_ok wv0_u0 hnb) (wg0_0 hnb))
  | 2, hnb => rc_ME_of (by decide) (m_pubM1 (Kb := wK0) (nb := 2) (b := 0) (w02_c59 h) rfl rfl rfl (mAll4_ok wv0_u0 hnb) (wg0_0 hnb))
  | 3, hnb => rc_ME_of (by decide) (m_pubM1 (Kb := wK0) (nb := 3) (b := 0) (w03_c59 h) rfl rfl rfl (mAll4_ok wv0_u0 hnb) (wg0_0 hnb))
  | n + 4, hn => by omega) (fun nb hnb => match nb, hnb with
  | 0, hnb => rc_ME_of (by decide) (m_pubM1 (Kb := wK1) (nb := 0) (b := 1) (w10_c57 h) rfl rfl rfl (mAll4_ok wv1_u0 hnb) (wg1_0 hnb))
  | 1, hnb => rc_ME_of (by decide) (m_pubM1 (Kb := wK1) (nb := 1) (b := 1) (w11_c59 h) rfl rfl rfl (mAll4_ok wv1_u0 hnb) (wg1_0 hnb))
  | 2, hnb => rc_ME_of (by decide) (m_pubM1 (Kb := wK1) (nb := 2) (b := 1) (w12_c59 h) rfl rfl rfl (mAll4_ok wv1_u0 hnb) (wg1_0 hnb))
  | 3, hnb => rc_ME_of (by decide) (m_pubM1 (Kb := wK1) (nb := 3) (b := 1) (w13_c59 h) rfl rfl rfl (mAll4_ok wv1_u0 hnb) (wg1_0 hnb))
  | n + 4, hn => by omega)
theorem pM_log (h : ∀ (i j q : Nat), ad[i]? = some q → ad[j]? = some q → i = j) : rc_ME l κ D 243 (fun vs w => mI κ ad w ∧ ∃ q : Nat, ad[0]? = some q ∧ mArgs q 3 vs) (fun _ w ov w' => mQc κ ad w ov w') := mI_all (A := fun vs => ∃ q : Nat, ad[0]? = some q ∧ mArgs q 3 vs) (fun nb hnb => match nb, hnb with
  | 0, hnb => rc_ME_of (by decide) (m_pubM1 (Kb := wK0) (nb := 0) (b := 0) (w00_c58 h) rfl rfl rfl (mAll4_ok wv0_u0 hnb) (wg0_0 hnb))
  | 1, hnb => rc_ME_of (by decide) (m_pubM1 (Kb := wK0) (nb := 1) (b := 0) (w01_c60 h) rfl rfl rfl (mAll4_ok wv0_u0 hnb) (wg0_0 hnb))
  | 2, hnb => rc_ME_of (by decide) (m_pubM1 (Kb := wK0) (nb := 2) (b := 0) (w02_c60 h) rfl rfl rfl (mAll4_ok wv0_u0 hnb) (wg0_0 hnb))
  | 3, hnb => rc_ME_of (by decide) (m_pubM1 (Kb := wK0) (nb := 3) (b := 0) (w03_c60 h) rfl rfl rfl (mAll4_ok wv0_u0 hnb) (wg0_0 hnb))
  | n + 4, hn => by omega) (fun nb hnb => match nb, hnb with
  | 0, hnb => rc_ME_of (by decide) (m_pubM1 (Kb := wK1) (nb := 0) (b := 1) (w10_c58 h) rfl rfl rfl (mAll4_ok wv1_u0 hnb) (wg1_0 hnb))
  | 1, hnb => rc_ME_of (by decide) (m_pubM1 (Kb := wK1) (nb := 1) (b := 1) (w11_c60 h) rfl rfl rfl (mAll4_ok wv1_u0 hnb) (wg1_0 hnb))
  | 2, hnb => rc_ME_of (by decide) (m_pubM1 (Kb := wK1) (nb := 2) (b := 1) (w12_c60 h) rfl rfl rfl (mAll4_ok wv1_u0 hnb) (wg1_0 hnb))
  | 3, hnb => rc_ME_of (by decide) (m_pubM1 (Kb := wK1) (nb := 3) (b := 1) (w13_c60 h) rfl rfl rfl (mAll4_ok wv1_u0 hnb) (wg1_0 hnb))
  | n + 4, hn => by omega)
theorem pM_untell (h : ∀ (i j q : Nat), ad[i]? = some q → ad[j]? = some q → i = j) : rc_ME l κ D 290 (fun vs w => mI κ ad w ∧ ∃ q : Nat, ad[0]? = some q ∧ mArgs q 1 vs) (fun _ w ov w' => mQc κ ad w ov w') := mI_all (A := fun vs => ∃ q : Nat, ad[0]? = some q ∧ mArgs q 1 vs) (fun nb hnb => match nb, hnb with
  | 0, hnb => rc_ME_of (by decide) (m_pubM1 (Kb := wK0) (nb := 0) (b := 0) (w00_c59 h) rfl rfl rfl (mAll4_ok wv0_u0 hnb) (wg0_0 hnb))
  | 1, hnb => rc_ME_of (by decide) (m_pubM1 (Kb := wK0) (nb := 1) (b := 0) (w01_c61 h) rfl rfl rfl (mAll4_ok wv0_u0 hnb) (wg0_0 hnb))
  | 2, hnb => rc_ME_of (by decide) (m_pubM1 (Kb := wK0) (nb := 2) (b := 0) (w02_c61 h) rfl rfl rfl (mAll4_ok wv0_u0 hnb) (wg0_0 hnb))
  | 3, hnb => rc_ME_of (by decide) (m_pubM1 (Kb := wK0) (nb := 3) (b := 0) (w03_c61 h) rfl rfl rfl (mAll4_ok wv0_u0 hnb) (wg0_0 hnb))
  | n + 4, hn => by omega) (fun nb hnb => match nb, hnb with
  | 0, hnb => rc_ME_of (by decide) (m_pubM1 (Kb := wK1) (nb := 0) (b := 1) (w10_c59 h) rfl rfl rfl (mAll4_ok wv1_u0 hnb) (wg1_0 hnb))
  | 1, hnb => rc_ME_of (by decide) (m_pubM1 (Kb := wK1) (nb := 1) (b := 1) (w11_c61 h) rfl rfl rfl (mAll4_ok wv1_u0 hnb) (wg1_0 hnb))
  | 2, hnb => rc_ME_of (by decide) (m_pubM1 (Kb := wK1) (nb := 2) (b := 1) (w12_c61 h) rfl rfl rfl (mAll4_ok wv1_u0 hnb) (wg1_0 hnb))
  | 3, hnb => rc_ME_of (by decide) (m_pubM1 (Kb := wK1) (nb := 3) (b := 1) (w13_c61 h) rfl rfl rfl (mAll4_ok wv1_u0 hnb) (wg1_0 hnb))
  | n + 4, hn => by omega)
theorem pM_judge (h : ∀ (i j q : Nat), ad[i]? = some q → ad[j]? = some q → i = j) : rc_ME l κ D 236 (fun vs w => mI κ ad w ∧ ∃ q : Nat, ad[0]? = some q ∧ mArgs q 2 vs) (fun _ w ov w' => mQc κ ad w ov w') := mI_all (A := fun vs => ∃ q : Nat, ad[0]? = some q ∧ mArgs q 2 vs) (fun nb hnb => match nb, hnb with
  | 0, hnb => rc_ME_of (by decide) (m_pubM1 (Kb := wK0) (nb := 0) (b := 0) (w00_c62 h) rfl rfl rfl (mAll4_ok wv0_u2 hnb) (wg0_2 hnb))
  | 1, hnb => rc_ME_of (by decide) (m_pubM1 (Kb := wK0) (nb := 1) (b := 0) (w01_c64 h) rfl rfl rfl (mAll4_ok wv0_u2 hnb) (wg0_2 hnb))
  | 2, hnb => rc_ME_of (by decide) (m_pubM1 (Kb := wK0) (nb := 2) (b := 0) (w02_c64 h) rfl rfl rfl (mAll4_ok wv0_u2 hnb) (wg0_2 hnb))
  | 3, hnb => rc_ME_of (by decide) (m_pubM1 (Kb := wK0) (nb := 3) (b := 0) (w03_c64 h) rfl rfl rfl (mAll4_ok wv0_u2 hnb) (wg0_2 hnb))
  | n + 4, hn => by omega) (fun nb hnb => match nb, hnb with
  | 0, hnb => rc_ME_of (by decide) (m_pubM1 (Kb := wK1) (nb := 0) (b := 1) (w10_c62 h) rfl rfl rfl (mAll4_ok wv1_u2 hnb) (wg1_2 hnb))
  | 1, hnb => rc_ME_of (by decide) (m_pubM1 (Kb := wK1) (nb := 1) (b := 1) (w11_c64 h) rfl rfl rfl (mAll4_ok wv1_u2 hnb) (wg1_2 hnb))
  | 2, hnb => rc_ME_of (by decide) (m_pubM1 (Kb := wK1) (nb := 2) (b := 1) (w12_c64 h) rfl rfl rfl (mAll4_ok wv1_u2 hnb) (wg1_2 hnb))
  | 3, hnb => rc_ME_of (by decide) (m_pubM1 (Kb := wK1) (nb := 3) (b := 1) (w13_c64 h) rfl rfl rfl (mAll4_ok wv1_u2 hnb) (wg1_2 hnb))
  | n + 4, hn => by omega)
theorem pM_logged (h : ∀ (i j q : Nat), ad[i]? = some q → ad[j]? = some q → i = j) : rc_ME l κ D 244 (fun vs w => mI κ ad w ∧ ∃ q : Nat, ad[0]? = some q ∧ mArgs q 2 vs) (fun _ w ov w' => mQc κ ad w ov w') := mI_all (A := fun vs => ∃ q : Nat, ad[0]? = some q ∧ mArgs q 2 vs) (fun nb hnb => match nb, hnb with
  | 0, hnb => rc_ME_of (by decide) (m_pubM1 (Kb := wK0) (nb := 0) (b := 0) (w00_c63 h) rfl rfl rfl (mAll4_ok wv0_u0 hnb) (wg0_0 hnb))
  | 1, hnb => rc_ME_of (by decide) (m_pubM1 (Kb := wK0) (nb := 1) (b := 0) (w01_c65 h) rfl rfl rfl (mAll4_ok wv0_u0 hnb) (wg0_0 hnb))
  | 2, hnb => rc_ME_of (by decide) (m_pubM1 (Kb := wK0) (nb := 2) (b := 0) (w02_c65 h) rfl rfl rfl (mAll4_ok wv0_u0 hnb) (wg0_0 hnb))
  | 3, hnb => rc_ME_of (by decide) (m_pubM1 (Kb := wK0) (nb := 3) (b := 0) (w03_c65 h) rfl rfl rfl (mAll4_ok wv0_u0 hnb) (wg0_0 hnb))
  | n + 4, hn => by omega) (fun nb hnb => match nb, hnb with
  | 0, hnb => rc_ME_of (by decide) (m_pubM1 (Kb := wK1) (nb := 0) (b := 1) (w10_c63 h) rfl rfl rfl (mAll4_ok wv1_u0 hnb) (wg1_0 hnb))
  | 1, hnb => rc_ME_of (by decide) (m_pubM1 (Kb := wK1) (nb := 1) (b := 1) (w11_c65 h) rfl rfl rfl (mAll4_ok wv1_u0 hnb) (wg1_0 hnb))
  | 2, hnb => rc_ME_of (by decide) (m_pubM1 (Kb := wK1) (nb := 2) (b := 1) (w12_c65 h) rfl rfl rfl (mAll4_ok wv1_u0 hnb) (wg1_0 hnb))
  | 3, hnb => rc_ME_of (by decide) (m_pubM1 (Kb := wK1) (nb := 3) (b := 1) (w13_c65 h) rfl rfl rfl (mAll4_ok wv1_u0 hnb) (wg1_0 hnb))
  | n + 4, hn => by omega)
theorem pM_about (h : ∀ (i j q : Nat), ad[i]? = some q → ad[j]? = some q → i = j) : rc_ME l κ D 175 (fun vs w => mI κ ad w ∧ ∃ q : Nat, ad[0]? = some q ∧ mArgs q 1 vs) (fun _ w ov w' => mQc κ ad w ov w') := mI_all (A := fun vs => ∃ q : Nat, ad[0]? = some q ∧ mArgs q 1 vs) (fun nb hnb => match nb, hnb with
  | 0, hnb => rc_ME_of (by decide) (m_pubM1 (Kb := wK0) (nb := 0) (b := 0) (w00_c64 h) rfl rfl rfl (mAll4_ok wv0_u0 hnb) (wg0_0 hnb))
  | 1, hnb => rc_ME_of (by decide) (m_pubM1 (Kb := wK0) (nb := 1) (b := 0) (w01_c66 h) rfl rfl rfl (mAll4_ok wv0_u0 hnb) (wg0_0 hnb))
  | 2, hnb => rc_ME_of (by decide) (m_pubM1 (Kb := wK0) (nb := 2) (b := 0) (w02_c66 h) rfl rfl rfl (mAll4_ok wv0_u0 hnb) (wg0_0 hnb))
  | 3, hnb => rc_ME_of (by decide) (m_pubM1 (Kb := wK0) (nb := 3) (b := 0) (w03_c66 h) rfl rfl rfl (mAll4_ok wv0_u0 hnb) (wg0_0 hnb))
  | n + 4, hn => by omega) (fun nb hnb => match nb, hnb with
  | 0, hnb => rc_ME_of (by decide) (m_pubM1 (Kb := wK1) (nb := 0) (b := 1) (w10_c64 h) rfl rfl rfl (mAll4_ok wv1_u0 hnb) (wg1_0 hnb))
  | 1, hnb => rc_ME_of (by decide) (m_pubM1 (Kb := wK1) (nb := 1) (b := 1) (w11_c66 h) rfl rfl rfl (mAll4_ok wv1_u0 hnb) (wg1_0 hnb))
  | 2, hnb => rc_ME_of (by decide) (m_pubM1 (Kb := wK1) (nb := 2) (b := 1) (w12_c66 h) rfl rfl rfl (mAll4_ok wv1_u0 hnb) (wg1_0 hnb))
  | 3, hnb => rc_ME_of (by decide) (m_pubM1 (Kb := wK1) (nb := 3) (b := 1) (w13_c66 h) rfl rfl rfl (mAll4_ok wv1_u0 hnb) (wg1_0 hnb))
  | n + 4, hn => by omega)
theorem pM_image0 (h : ∀ (i j q : Nat), ad[i]? = some q → ad[j]? = some q → i = j) : rc_ME l κ D 220 (fun vs w => mI κ ad w ∧ ∃ (q : Nat) (z : Int32), ad[0]? = some q ∧ vs = [.ref q, .int z] ∧ z.toInt = 0) (fun _ w ov w' => mQc κ ad w ov w') := mI_all (A := fun vs => ∃ (q : Nat) (z : Int32), ad[0]? = some q ∧ vs = [.ref q, .int z] ∧ z.toInt = ((0 : Nat) : Int)) (fun nb hnb => match nb, hnb with
  | 0, hnb => rc_ME_of (by decide) (m_image (Kb := wK0) (nb := 0) (b := 0) (q0 := 0) (g := 5) (g' := 8) (by decide) (w00_c67 h) rfl rfl rfl rfl rfl (mAll4_ok wv0_i0 hnb) (mAll4_ok wv0_j0 hnb) (fun nr hr => mAll4_ok (mAll4_ok wv0_k0 hnb) hr) (mAll4_ok wv0_l0 hnb))
  | 1, hnb => rc_ME_of (by decide) (m_image (Kb := wK0) (nb := 1) (b := 0) (q0 := 0) (g := 5) (g' := 8) (by decide) (w01_c69 h) rfl rfl rfl rfl rfl (mAll4_ok wv0_i0 hnb) (mAll4_ok wv0_j0 hnb) (fun nr hr => mAll4_ok (mAll4_ok wv0_k0 hnb) hr) (mAll4_ok wv0_l0 hnb))
  | 2, hnb => rc_ME_of (by decide) (m_image (Kb := wK0) (nb := 2) (b := 0) (q0 := 0) (g := 5) (g' := 8) (by decide) (w02_c69 h) rfl rfl rfl rfl rfl (mAll4_ok wv0_i0 hnb) (mAll4_ok wv0_j0 hnb) (fun nr hr => mAll4_ok (mAll4_ok wv0_k0 hnb) hr) (mAll4_ok wv0_l0 hnb))
  | 3, hnb => rc_ME_of (by decide) (m_image (Kb := wK0) (nb := 3) (b := 0) (q0 := 0) (g := 5) (g' := 8) (by decide) (w03_c69 h) rfl rfl rfl rfl rfl (mAll4_ok wv0_i0 hnb) (mAll4_ok wv0_j0 hnb) (fun nr hr => mAll4_ok (mAll4_ok wv0_k0 hnb) hr) (mAll4_ok wv0_l0 hnb))
  | n + 4, hn => by omega) (fun nb hnb => match nb, hnb with
  | 0, hnb => rc_ME_of (by decide) (m_image (Kb := wK1) (nb := 0) (b := 1) (q0 := 0) (g := 5) (g' := 8) (by decide) (w10_c67 h) rfl rfl rfl rfl rfl (mAll4_ok wv1_i0 hnb) (mAll4_ok wv1_j0 hnb) (fun nr hr => mAll4_ok (mAll4_ok wv1_k0 hnb) hr) (mAll4_ok wv1_l0 hnb))
  | 1, hnb => rc_ME_of (by decide) (m_image (Kb := wK1) (nb := 1) (b := 1) (q0 := 0) (g := 5) (g' := 8) (by decide) (w11_c69 h) rfl rfl rfl rfl rfl (mAll4_ok wv1_i0 hnb) (mAll4_ok wv1_j0 hnb) (fun nr hr => mAll4_ok (mAll4_ok wv1_k0 hnb) hr) (mAll4_ok wv1_l0 hnb))
  | 2, hnb => rc_ME_of (by decide) (m_image (Kb := wK1) (nb := 2) (b := 1) (q0 := 0) (g := 5) (g' := 8) (by decide) (w12_c69 h) rfl rfl rfl rfl rfl (mAll4_ok wv1_i0 hnb) (mAll4_ok wv1_j0 hnb) (fun nr hr => mAll4_ok (mAll4_ok wv1_k0 hnb) hr) (mAll4_ok wv1_l0 hnb))
  | 3, hnb => rc_ME_of (by decide) (m_image (Kb := wK1) (nb := 3) (b := 1) (q0 := 0) (g := 5) (g' := 8) (by decide) (w13_c69 h) rfl rfl rfl rfl rfl (mAll4_ok wv1_i0 hnb) (mAll4_ok wv1_j0 hnb) (fun nr hr => mAll4_ok (mAll4_ok wv1_k0 hnb) hr) (mAll4_ok wv1_l0 hnb))
  | n + 4, hn => by omega)
theorem pM_image1 (h : ∀ (i j q : Nat), ad[i]? = some q → ad[j]? = some q → i = j) : rc_ME l κ D 220 (fun vs w => mI κ ad w ∧ ∃ (q : Nat) (z : Int32), ad[0]? = some q ∧ vs = [.ref q, .int z] ∧ z.toInt = 1) (fun _ w ov w' => mQc κ ad w ov w') := mI_all (A := fun vs => ∃ (q : Nat) (z : Int32), ad[0]? = some q ∧ vs = [.ref q, .int z] ∧ z.toInt = ((1 : Nat) : Int)) (fun nb hnb => match nb, hnb with
  | 0, hnb => rc_ME_of (by decide) (m_image (Kb := wK0) (nb := 0) (b := 0) (q0 := 1) (g := 6) (g' := 9) (by decide) (w00_c70 h) rfl rfl rfl rfl rfl (mAll4_ok wv0_i1 hnb) (mAll4_ok wv0_j1 hnb) (fun nr hr => mAll4_ok (mAll4_ok wv0_k1 hnb) hr) (mAll4_ok wv0_l1 hnb))
  | 1, hnb => rc_ME_of (by decide) (m_image (Kb := wK0) (nb := 1) (b := 0) (q0 := 1) (g := 6) (g' := 9) (by decide) (w01_c72 h) rfl rfl rfl rfl rfl (mAll4_ok wv0_i1 hnb) (mAll4_ok wv0_j1 hnb) (fun nr hr => mAll4_ok (mAll4_ok wv0_k1 hnb) hr) (mAll4_ok wv0_l1 hnb))
  | 2, hnb => rc_ME_of (by decide) (m_image (Kb := wK0) (nb := 2) (b := 0) (q0 := 1) (g := 6) (g' := 9) (by decide) (w02_c72 h) rfl rfl rfl rfl rfl (mAll4_ok wv0_i1 hnb) (mAll4_ok wv0_j1 hnb) (fun nr hr => mAll4_ok (mAll4_ok wv0_k1 hnb) hr) (mAll4_ok wv0_l1 hnb))
  | 3, hnb => rc_ME_of (by decide) (m_image (Kb := wK0) (nb := 3) (b := 0) (q0 := 1) (g := 6) (g' := 9) (by decide) (w03_c72 h) rfl rfl rfl rfl rfl (mAll4_ok wv0_i1 hnb) (mAll4_ok wv0_j1 hnb) (fun nr hr => mAll4_ok (mAll4_ok wv0_k1 hnb) hr) (mAll4_ok wv0_l1 hnb))
  | n + 4, hn => by omega) (fun nb hnb => match nb, hnb with
  | 0, hnb => rc_ME_of (by decide) (m_image (Kb := wK1) (nb := 0) (b := 1) (q0 := 1) (g := 6) (g' := 9) (by decide) (w10_c70 h) rfl rfl rfl rfl rfl (mAll4_ok wv1_i1 hnb) (mAll4_ok wv1_j1 hnb) (fun nr hr => mAll4_ok (mAll4_ok wv1_k1 hnb) hr) (mAll4_ok wv1_l1 hnb))
  | 1, hnb => rc_ME_of (by decide) (m_image (Kb := wK1) (nb := 1) (b := 1) (q0 := 1) (g := 6) (g' := 9) (by decide) (w11_c72 h) rfl rfl rfl rfl rfl (mAll4_ok wv1_i1 hnb) (mAll4_ok wv1_j1 hnb) (fun nr hr => mAll4_ok (mAll4_ok wv1_k1 hnb) hr) (mAll4_ok wv1_l1 hnb))
  | 2, hnb => rc_ME_of (by decide) (m_image (Kb := wK1) (nb := 2) (b := 1) (q0 := 1) (g := 6) (g' := 9) (by decide) (w12_c72 h) rfl rfl rfl rfl rfl (mAll4_ok wv1_i1 hnb) (mAll4_ok wv1_j1 hnb) (fun nr hr => mAll4_ok (mAll4_ok wv1_k1 hnb) hr) (mAll4_ok wv1_l1 hnb))
  | 3, hnb => rc_ME_of (by decide) (m_image (Kb := wK1) (nb := 3) (b := 1) (q0 := 1) (g := 6) (g' := 9) (by decide) (w13_c72 h) rfl rfl rfl rfl rfl (mAll4_ok wv1_i1 hnb) (mAll4_ok wv1_j1 hnb) (fun nr hr => mAll4_ok (mAll4_ok wv1_k1 hnb) hr) (mAll4_ok wv1_l1 hnb))
  | n + 4, hn => by omega)
theorem pM_image2 (h : ∀ (i j q : Nat), ad[i]? = some q → ad[j]? = some q → i = j) : rc_ME l κ D 220 (fun vs w => mI κ ad w ∧ ∃ (q : Nat) (z : Int32), ad[0]? = some q ∧ vs = [.ref q, .int z] ∧ z.toInt = 2) (fun _ w ov w' => mQc κ ad w ov w') := mI_all (A := fun vs => ∃ (q : Nat) (z : Int32), ad[0]? = some q ∧ vs = [.ref q, .int z] ∧ z.toInt = ((2 : Nat) : Int)) (fun nb hnb => match nb, hnb with
  | 0, hnb => rc_ME_of (by decide) (m_image (Kb := wK0) (nb := 0) (b := 0) (q0 := 2) (g := 7) (g' := 10) (by decide) (w00_c73 h) rfl rfl rfl rfl rfl (mAll4_ok wv0_i2 hnb) (mAll4_ok wv0_j2 hnb) (fun nr hr => mAll4_ok (mAll4_ok wv0_k2 hnb) hr) (mAll4_ok wv0_l2 hnb))
  | 1, hnb => rc_ME_of (by decide) (m_image (Kb := wK0) (nb := 1) (b := 0) (q0 := 2) (g := 7) (g' := 10) (by decide) (w01_c75 h) rfl rfl rfl rfl rfl (mAll4_ok wv0_i2 hnb) (mAll4_ok wv0_j2 hnb) (fun nr hr => mAll4_ok (mAll4_ok wv0_k2 hnb) hr) (mAll4_ok wv0_l2 hnb))
  | 2, hnb => rc_ME_of (by decide) (m_image (Kb := wK0) (nb := 2) (b := 0) (q0 := 2) (g := 7) (g' := 10) (by decide) (w02_c75 h) rfl rfl rfl rfl rfl (mAll4_ok wv0_i2 hnb) (mAll4_ok wv0_j2 hnb) (fun nr hr => mAll4_ok (mAll4_ok wv0_k2 hnb) hr) (mAll4_ok wv0_l2 hnb))
  | 3, hnb => rc_ME_of (by decide) (m_image (Kb := wK0) (nb := 3) (b := 0) (q0 := 2) (g := 7) (g' := 10) (by decide) (w03_c75 h) rfl rfl rfl rfl rfl (mAll4_ok wv0_i2 hnb) (mAll4_ok wv0_j2 hnb) (fun nr hr => mAll4_ok (mAll4_ok wv0_k2 hnb) hr) (mAll4_ok wv0_l2 hnb))
  | n + 4, hn => by omega) (fun nb hnb => match nb, hnb with
  | 0, hnb => rc_ME_of (by decide) (m_image (Kb := wK1) (nb := 0) (b := 1) (q0 := 2) (g := 7) (g' := 10) (by decide) (w10_c73 h) rfl rfl rfl rfl rfl (mAll4_ok wv1_i2 hnb) (mAll4_ok wv1_j2 hnb) (fun nr hr => mAll4_ok (mAll4_ok wv1_k2 hnb) hr) (mAll4_ok wv1_l2 hnb))
  | 1, hnb => rc_ME_of (by decide) (m_image (Kb := wK1) (nb := 1) (b := 1) (q0 := 2) (g := 7) (g' := 10) (by decide) (w11_c75 h) rfl rfl rfl rfl rfl (mAll4_ok wv1_i2 hnb) (mAll4_ok wv1_j2 hnb) (fun nr hr => mAll4_ok (mAll4_ok wv1_k2 hnb) hr) (mAll4_ok wv1_l2 hnb))
  | 2, hnb => rc_ME_of (by decide) (m_image (Kb := wK1) (nb := 2) (b := 1) (q0 := 2) (g := 7) (g' := 10) (by decide) (w12_c75 h) rfl rfl rfl rfl rfl (mAll4_ok wv1_i2 hnb) (mAll4_ok wv1_j2 hnb) (fun nr hr => mAll4_ok (mAll4_ok wv1_k2 hnb) hr) (mAll4_ok wv1_l2 hnb))
  | 3, hnb => rc_ME_of (by decide) (m_image (Kb := wK1) (nb := 3) (b := 1) (q0 := 2) (g := 7) (g' := 10) (by decide) (w13_c75 h) rfl rfl rfl rfl rfl (mAll4_ok wv1_i2 hnb) (mAll4_ok wv1_j2 hnb) (fun nr hr => mAll4_ok (mAll4_ok wv1_k2 hnb) hr) (mAll4_ok wv1_l2 hnb))
  | n + 4, hn => by omega)
theorem pM_imageo0 (h : ∀ (i j q : Nat), ad[i]? = some q → ad[j]? = some q → i = j) : rc_ME l κ D 220 (fun vs w => mI κ ad w ∧ ∃ (q : Nat) (z : Int32), ad[0]? = some q ∧ vs = [.ref q, .int z] ∧ -2147483648 ≤ z.toInt ∧ z.toInt ≤ -1) (fun _ w ov w' => mQc κ ad w ov w') := mI_all (A := fun vs => ∃ (q : Nat) (z : Int32), ad[0]? = some q ∧ vs = [.ref q, .int z] ∧ -2147483648 ≤ z.toInt ∧ z.toInt ≤ -1) (fun nb hnb => match nb, hnb with
  | 0, hnb => rc_ME_of (by decide) (m_outb (Kb := wK0) (nb := 0) (b := 0) (w00_c86 h) rfl rfl rfl (mAll4_ok wv0_u0 hnb) (wg0_0 hnb))
  | 1, hnb => rc_ME_of (by decide) (m_outb (Kb := wK0) (nb := 1) (b := 0) (w01_c88 h) rfl rfl rfl (mAll4_ok wv0_u0 hnb) (wg0_0 hnb))
  | 2, hnb => rc_ME_of (by decide) (m_outb (Kb := wK0) (nb := 2) (b := 0) (w02_c88 h) rfl rfl rfl (mAll4_ok wv0_u0 hnb) (wg0_0 hnb))
  | 3, hnb => rc_ME_of (by decide) (m_outb (Kb := wK0) (nb := 3) (b := 0) (w03_c88 h) rfl rfl rfl (mAll4_ok wv0_u0 hnb) (wg0_0 hnb))
  | n + 4, hn => by omega) (fun nb hnb => match nb, hnb with
  | 0, hnb => rc_ME_of (by decide) (m_outb (Kb := wK1) (nb := 0) (b := 1) (w10_c86 h) rfl rfl rfl (mAll4_ok wv1_u0 hnb) (wg1_0 hnb))
  | 1, hnb => rc_ME_of (by decide) (m_outb (Kb := wK1) (nb := 1) (b := 1) (w11_c88 h) rfl rfl rfl (mAll4_ok wv1_u0 hnb) (wg1_0 hnb))
  | 2, hnb => rc_ME_of (by decide) (m_outb (Kb := wK1) (nb := 2) (b := 1) (w12_c88 h) rfl rfl rfl (mAll4_ok wv1_u0 hnb) (wg1_0 hnb))
  | 3, hnb => rc_ME_of (by decide) (m_outb (Kb := wK1) (nb := 3) (b := 1) (w13_c88 h) rfl rfl rfl (mAll4_ok wv1_u0 hnb) (wg1_0 hnb))
  | n + 4, hn => by omega)
theorem pM_imageo1 (h : ∀ (i j q : Nat), ad[i]? = some q → ad[j]? = some q → i = j) : rc_ME l κ D 220 (fun vs w => mI κ ad w ∧ ∃ (q : Nat) (z : Int32), ad[0]? = some q ∧ vs = [.ref q, .int z] ∧ 3 ≤ z.toInt ∧ z.toInt ≤ 2147483647) (fun _ w ov w' => mQc κ ad w ov w') := mI_all (A := fun vs => ∃ (q : Nat) (z : Int32), ad[0]? = some q ∧ vs = [.ref q, .int z] ∧ 3 ≤ z.toInt ∧ z.toInt ≤ 2147483647) (fun nb hnb => match nb, hnb with
  | 0, hnb => rc_ME_of (by decide) (m_outb (Kb := wK0) (nb := 0) (b := 0) (w00_c87 h) rfl rfl rfl (mAll4_ok wv0_u0 hnb) (wg0_0 hnb))
  | 1, hnb => rc_ME_of (by decide) (m_outb (Kb := wK0) (nb := 1) (b := 0) (w01_c89 h) rfl rfl rfl (mAll4_ok wv0_u0 hnb) (wg0_0 hnb))
  | 2, hnb => rc_ME_of (by decide) (m_outb (Kb := wK0) (nb := 2) (b := 0) (w02_c89 h) rfl rfl rfl (mAll4_ok wv0_u0 hnb) (wg0_0 hnb))
  | 3, hnb => rc_ME_of (by decide) (m_outb (Kb := wK0) (nb := 3) (b := 0) (w03_c89 h) rfl rfl rfl (mAll4_ok wv0_u0 hnb) (wg0_0 hnb))
  | n + 4, hn => by omega) (fun nb hnb => match nb, hnb with
  | 0, hnb => rc_ME_of (by decide) (m_outb (Kb := wK1) (nb := 0) (b := 1) (w10_c87 h) rfl rfl rfl (mAll4_ok wv1_u0 hnb) (wg1_0 hnb))
  | 1, hnb => rc_ME_of (by decide) (m_outb (Kb := wK1) (nb := 1) (b := 1) (w11_c89 h) rfl rfl rfl (mAll4_ok wv1_u0 hnb) (wg1_0 hnb))
  | 2, hnb => rc_ME_of (by decide) (m_outb (Kb := wK1) (nb := 2) (b := 1) (w12_c89 h) rfl rfl rfl (mAll4_ok wv1_u0 hnb) (wg1_0 hnb))
  | 3, hnb => rc_ME_of (by decide) (m_outb (Kb := wK1) (nb := 3) (b := 1) (w13_c89 h) rfl rfl rfl (mAll4_ok wv1_u0 hnb) (wg1_0 hnb))
  | n + 4, hn => by omega)
theorem pM_image (h : ∀ (i j q : Nat), ad[i]? = some q → ad[j]? = some q → i = j) : rc_ME l κ D 220 (fun vs w => mI κ ad w ∧ ∃ q : Nat, ad[0]? = some q ∧ mArgs q 1 vs) (fun _ w ov w' => mQc κ ad w ov w') := by
  refine rc_ME_mono (rc_ME_or (pM_imageo0 h) (rc_ME_or (pM_image0 h) (rc_ME_or (pM_image1 h) (rc_ME_or (pM_image2 h) (pM_imageo1 h))))) (fun vs ws hp => ?_) (fun _ _ _ _ _ g => g)
  obtain ⟨hI, q, hq, zs, hz, rfl⟩ := hp
  match zs, hz with
  | [z], _ =>
    have := Int32.le_toInt z
    have := Int32.toInt_lt z
    have b1 : (-2147483648 : Int) ≤ z.toInt := Int32.le_toInt z
    have b2 : z.toInt < 2147483648 := Int32.toInt_lt z
    rcases (show z.toInt ≤ -1 ∨ z.toInt = 0 ∨ z.toInt = 1 ∨ z.toInt = 2 ∨ 3 ≤ z.toInt by omega) with g | g | g | g | g
    · exact Or.inl ⟨hI, q, z, hq, rfl, b1, g⟩
    · exact Or.inr (Or.inl ⟨hI, q, z, hq, rfl, g⟩)
    · exact Or.inr (Or.inr (Or.inl ⟨hI, q, z, hq, rfl, g⟩))
    · exact Or.inr (Or.inr (Or.inr (Or.inl ⟨hI, q, z, hq, rfl, g⟩)))
    · exact Or.inr (Or.inr (Or.inr (Or.inr ⟨hI, q, z, hq, rfl, g, by omega⟩)))
theorem pM_back0 (h : ∀ (i j q : Nat), ad[i]? = some q → ad[j]? = some q → i = j) : rc_ME l κ D 179 (fun vs w => mI κ ad w ∧ ∃ (q : Nat) (z : Int32), ad[0]? = some q ∧ vs = [.ref q, .int z] ∧ z.toInt = 0) (fun _ w ov w' => mQc κ ad w ov w') := mI_all (A := fun vs => ∃ (q : Nat) (z : Int32), ad[0]? = some q ∧ vs = [.ref q, .int z] ∧ z.toInt = ((0 : Nat) : Int)) (fun nb hnb => match nb, hnb with
  | 0, hnb => m_back (Kb := wK0) (nb := 0) (b := 0) (q0 := 0) (gv := 11) (gu := 14) (by decide) (w00_c76 h) (w00_c83 h) rfl rfl rfl rfl rfl rfl rfl (wg0_11 hnb) (wg0_14 hnb) (mAll4_ok wv0_m0 hnb) (mAll4_ok wv0_n0 hnb) (mAll4_ok wv0_o0 hnb) (mAll4_ok wv0_p0 hnb) (by decide) (by decide)
  | 1, hnb => m_back (Kb := wK0) (nb := 1) (b := 0) (q0 := 0) (gv := 11) (gu := 14) (by decide) (w01_c78 h) (w01_c85 h) rfl rfl rfl rfl rfl rfl rfl (wg0_11 hnb) (wg0_14 hnb) (mAll4_ok wv0_m0 hnb) (mAll4_ok wv0_n0 hnb) (mAll4_ok wv0_o0 hnb) (mAll4_ok wv0_p0 hnb) (by decide) (by decide)
  | 2, hnb => m_back (Kb := wK0) (nb := 2) (b := 0) (q0 := 0) (gv := 11) (gu := 14) (by decide) (w02_c78 h) (w02_c85 h) rfl rfl rfl rfl rfl rfl rfl (wg0_11 hnb) (wg0_14 hnb) (mAll4_ok wv0_m0 hnb) (mAll4_ok wv0_n0 hnb) (mAll4_ok wv0_o0 hnb) (mAll4_ok wv0_p0 hnb) (by decide) (by decide)
  | 3, hnb => m_back (Kb := wK0) (nb := 3) (b := 0) (q0 := 0) (gv := 11) (gu := 14) (by decide) (w03_c78 h) (w03_c85 h) rfl rfl rfl rfl rfl rfl rfl (wg0_11 hnb) (wg0_14 hnb) (mAll4_ok wv0_m0 hnb) (mAll4_ok wv0_n0 hnb) (mAll4_ok wv0_o0 hnb) (mAll4_ok wv0_p0 hnb) (by decide) (by decide)
  | n + 4, hn => by omega) (fun nb hnb => match nb, hnb with
  | 0, hnb => m_back (Kb := wK1) (nb := 0) (b := 1) (q0 := 0) (gv := 11) (gu := 14) (by decide) (w10_c76 h) (w10_c83 h) rfl rfl rfl rfl rfl rfl rfl (wg1_11 hnb) (wg1_14 hnb) (mAll4_ok wv1_m0 hnb) (mAll4_ok wv1_n0 hnb) (mAll4_ok wv1_o0 hnb) (mAll4_ok wv1_p0 hnb) (by decide) (by decide)
  | 1, hnb => m_back (Kb := wK1) (nb := 1) (b := 1) (q0 := 0) (gv := 11) (gu := 14) (by decide) (w11_c78 h) (w11_c85 h) rfl rfl rfl rfl rfl rfl rfl (wg1_11 hnb) (wg1_14 hnb) (mAll4_ok wv1_m0 hnb) (mAll4_ok wv1_n0 hnb) (mAll4_ok wv1_o0 hnb) (mAll4_ok wv1_p0 hnb) (by decide) (by decide)
  | 2, hnb => m_back (Kb := wK1) (nb := 2) (b := 1) (q0 := 0) (gv := 11) (gu := 14) (by decide) (w12_c78 h) (w12_c85 h) rfl rfl rfl rfl rfl rfl rfl (wg1_11 hnb) (wg1_14 hnb) (mAll4_ok wv1_m0 hnb) (mAll4_ok wv1_n0 hnb) (mAll4_ok wv1_o0 hnb) (mAll4_ok wv1_p0 hnb) (by decide) (by decide)
  | 3, hnb => m_back (Kb := wK1) (nb := 3) (b := 1) (q0 := 0) (gv := 11) (gu := 14) (by decide) (w13_c78 h) (w13_c85 h) rfl rfl rfl rfl rfl rfl rfl (wg1_11 hnb) (wg1_14 hnb) (mAll4_ok wv1_m0 hnb) (mAll4_ok wv1_n0 hnb) (mAll4_ok wv1_o0 hnb) (mAll4_ok wv1_p0 hnb) (by decide) (by decide)
  | n + 4, hn => by omega)
theorem pM_back1 (h : ∀ (i j q : Nat), ad[i]? = some q → ad[j]? = some q → i = j) : rc_ME l κ D 179 (fun vs w => mI κ ad w ∧ ∃ (q : Nat) (z : Int32), ad[0]? = some q ∧ vs = [.ref q, .int z] ∧ z.toInt = 1) (fun _ w ov w' => mQc κ ad w ov w') := mI_all (A := fun vs => ∃ (q : Nat) (z : Int32), ad[0]? = some q ∧ vs = [.ref q, .int z] ∧ z.toInt = ((1 : Nat) : Int)) (fun nb hnb => match nb, hnb with
  | 0, hnb => m_back (Kb := wK0) (nb := 0) (b := 0) (q0 := 1) (gv := 12) (gu := 15) (by decide) (w00_c79 h) (w00_c84 h) rfl rfl rfl rfl rfl rfl rfl (wg0_12 hnb) (wg0_15 hnb) (mAll4_ok wv0_m1 hnb) (mAll4_ok wv0_n1 hnb) (mAll4_ok wv0_o1 hnb) (mAll4_ok wv0_p1 hnb) (by decide) (by decide)
  | 1, hnb => m_back (Kb := wK0) (nb := 1) (b := 0) (q0 := 1) (gv := 12) (gu := 15) (by decide) (w01_c81 h) (w01_c86 h) rfl rfl rfl rfl rfl rfl rfl (wg0_12 hnb) (wg0_15 hnb) (mAll4_ok wv0_m1 hnb) (mAll4_ok wv0_n1 hnb) (mAll4_ok wv0_o1 hnb) (mAll4_ok wv0_p1 hnb) (by decide) (by decide)
  | 2, hnb => m_back (Kb := wK0) (nb := 2) (b := 0) (q0 := 1) (gv := 12) (gu := 15) (by decide) (w02_c81 h) (w02_c86 h) rfl rfl rfl rfl rfl rfl rfl (wg0_12 hnb) (wg0_15 hnb) (mAll4_ok wv0_m1 hnb) (mAll4_ok wv0_n1 hnb) (mAll4_ok wv0_o1 hnb) (mAll4_ok wv0_p1 hnb) (by decide) (by decide)
  | 3, hnb => m_back (Kb := wK0) (nb := 3) (b := 0) (q0 := 1) (gv := 12) (gu := 15) (by decide) (w03_c81 h) (w03_c86 h) rfl rfl rfl rfl rfl rfl rfl (wg0_12 hnb) (wg0_15 hnb) (mAll4_ok wv0_m1 hnb) (mAll4_ok wv0_n1 hnb) (mAll4_ok wv0_o1 hnb) (mAll4_ok wv0_p1 hnb) (by decide) (by decide)
  | n + 4, hn => by omega) (fun nb hnb => match nb, hnb with
  | 0, hnb => m_back (Kb := wK1) (nb := 0) (b := 1) (q0 := 1) (gv := 12) (gu := 15) (by decide) (w10_c79 h) (w10_c84 h) rfl rfl rfl rfl rfl rfl rfl (wg1_12 hnb) (wg1_15 hnb) (mAll4_ok wv1_m1 hnb) (mAll4_ok wv1_n1 hnb) (mAll4_ok wv1_o1 hnb) (mAll4_ok wv1_p1 hnb) (by decide) (by decide)
  | 1, hnb => m_back (Kb := wK1) (nb := 1) (b := 1) (q0 := 1) (gv := 12) (gu := 15) (by decide) (w11_c81 h) (w11_c86 h) rfl rfl rfl rfl rfl rfl rfl (wg1_12 hnb) (wg1_15 hnb) (mAll4_ok wv1_m1 hnb) (mAll4_ok wv1_n1 hnb) (mAll4_ok wv1_o1 hnb) (mAll4_ok wv1_p1 hnb) (by decide) (by decide)
  | 2, hnb => m_back (Kb := wK1) (nb := 2) (b := 1) (q0 := 1) (gv := 12) (gu := 15) (by decide) (w12_c81 h) (w12_c86 h) rfl rfl rfl rfl rfl rfl rfl (wg1_12 hnb) (wg1_15 hnb) (mAll4_ok wv1_m1 hnb) (mAll4_ok wv1_n1 hnb) (mAll4_ok wv1_o1 hnb) (mAll4_ok wv1_p1 hnb) (by decide) (by decide)
  | 3, hnb => m_back (Kb := wK1) (nb := 3) (b := 1) (q0 := 1) (gv := 12) (gu := 15) (by decide) (w13_c81 h) (w13_c86 h) rfl rfl rfl rfl rfl rfl rfl (wg1_12 hnb) (wg1_15 hnb) (mAll4_ok wv1_m1 hnb) (mAll4_ok wv1_n1 hnb) (mAll4_ok wv1_o1 hnb) (mAll4_ok wv1_p1 hnb) (by decide) (by decide)
  | n + 4, hn => by omega)
theorem pM_back2 (h : ∀ (i j q : Nat), ad[i]? = some q → ad[j]? = some q → i = j) : rc_ME l κ D 179 (fun vs w => mI κ ad w ∧ ∃ (q : Nat) (z : Int32), ad[0]? = some q ∧ vs = [.ref q, .int z] ∧ z.toInt = 2) (fun _ w ov w' => mQc κ ad w ov w') := mI_all (A := fun vs => ∃ (q : Nat) (z : Int32), ad[0]? = some q ∧ vs = [.ref q, .int z] ∧ z.toInt = ((2 : Nat) : Int)) (fun nb hnb => match nb, hnb with
  | 0, hnb => m_back (Kb := wK0) (nb := 0) (b := 0) (q0 := 2) (gv := 13) (gu := 16) (by decide) (w00_c82 h) (w00_c85 h) rfl rfl rfl rfl rfl rfl rfl (wg0_13 hnb) (wg0_16 hnb) (mAll4_ok wv0_m2 hnb) (mAll4_ok wv0_n2 hnb) (mAll4_ok wv0_o2 hnb) (mAll4_ok wv0_p2 hnb) (by decide) (by decide)
  | 1, hnb => m_back (Kb := wK0) (nb := 1) (b := 0) (q0 := 2) (gv := 13) (gu := 16) (by decide) (w01_c84 h) (w01_c87 h) rfl rfl rfl rfl rfl rfl rfl (wg0_13 hnb) (wg0_16 hnb) (mAll4_ok wv0_m2 hnb) (mAll4_ok wv0_n2 hnb) (mAll4_ok wv0_o2 hnb) (mAll4_ok wv0_p2 hnb) (by decide) (by decide)
  | 2, hnb => m_back (Kb := wK0) (nb := 2) (b := 0) (q0 := 2) (gv := 13) (gu := 16) (by decide) (w02_c84 h) (w02_c87 h) rfl rfl rfl rfl rfl rfl rfl (wg0_13 hnb) (wg0_16 hnb) (mAll4_ok wv0_m2 hnb) (mAll4_ok wv0_n2 hnb) (mAll4_ok wv0_o2 hnb) (mAll4_ok wv0_p2 hnb) (by decide) (by decide)
  | 3, hnb => m_back (Kb := wK0) (nb := 3) (b := 0) (q0 := 2) (gv := 13) (gu := 16) (by decide) (w03_c84 h) (w03_c87 h) rfl rfl rfl rfl rfl rfl rfl (wg0_13 hnb) (wg0_16 hnb) (mAll4_ok wv0_m2 hnb) (mAll4_ok wv0_n2 hnb) (mAll4_ok wv0_o2 hnb) (mAll4_ok wv0_p2 hnb) (by decide) (by decide)
  | n + 4, hn => by omega) (fun nb hnb => match nb, hnb with
  | 0, hnb => m_back (Kb := wK1) (nb := 0) (b := 1) (q0 := 2) (gv := 13) (gu := 16) (by decide) (w10_c82 h) (w10_c85 h) rfl rfl rfl rfl rfl rfl rfl (wg1_13 hnb) (wg1_16 hnb) (mAll4_ok wv1_m2 hnb) (mAll4_ok wv1_n2 hnb) (mAll4_ok wv1_o2 hnb) (mAll4_ok wv1_p2 hnb) (by decide) (by decide)
  | 1, hnb => m_back (Kb := wK1) (nb := 1) (b := 1) (q0 := 2) (gv := 13) (gu := 16) (by decide) (w11_c84 h) (w11_c87 h) rfl rfl rfl rfl rfl rfl rfl (wg1_13 hnb) (wg1_16 hnb) (mAll4_ok wv1_m2 hnb) (mAll4_ok wv1_n2 hnb) (mAll4_ok wv1_o2 hnb) (mAll4_ok wv1_p2 hnb) (by decide) (by decide)
  | 2, hnb => m_back (Kb := wK1) (nb := 2) (b := 1) (q0 := 2) (gv := 13) (gu := 16) (by decide) (w12_c84 h) (w12_c87 h) rfl rfl rfl rfl rfl rfl rfl (wg1_13 hnb) (wg1_16 hnb) (mAll4_ok wv1_m2 hnb) (mAll4_ok wv1_n2 hnb) (mAll4_ok wv1_o2 hnb) (mAll4_ok wv1_p2 hnb) (by decide) (by decide)
  | 3, hnb => m_back (Kb := wK1) (nb := 3) (b := 1) (q0 := 2) (gv := 13) (gu := 16) (by decide) (w13_c84 h) (w13_c87 h) rfl rfl rfl rfl rfl rfl rfl (wg1_13 hnb) (wg1_16 hnb) (mAll4_ok wv1_m2 hnb) (mAll4_ok wv1_n2 hnb) (mAll4_ok wv1_o2 hnb) (mAll4_ok wv1_p2 hnb) (by decide) (by decide)
  | n + 4, hn => by omega)
theorem pM_backo0 (h : ∀ (i j q : Nat), ad[i]? = some q → ad[j]? = some q → i = j) : rc_ME l κ D 179 (fun vs w => mI κ ad w ∧ ∃ (q : Nat) (z : Int32), ad[0]? = some q ∧ vs = [.ref q, .int z] ∧ -2147483648 ≤ z.toInt ∧ z.toInt ≤ -1) (fun _ w ov w' => mQc κ ad w ov w') := mI_all (A := fun vs => ∃ (q : Nat) (z : Int32), ad[0]? = some q ∧ vs = [.ref q, .int z] ∧ -2147483648 ≤ z.toInt ∧ z.toInt ≤ -1) (fun nb hnb => match nb, hnb with
  | 0, hnb => rc_ME_of (by decide) (m_outb (Kb := wK0) (nb := 0) (b := 0) (w00_c88 h) rfl rfl rfl (mAll4_ok wv0_u0 hnb) (wg0_0 hnb))
  | 1, hnb => rc_ME_of (by decide) (m_outb (Kb := wK0) (nb := 1) (b := 0) (w01_c90 h) rfl rfl rfl (mAll4_ok wv0_u0 hnb) (wg0_0 hnb))
  | 2, hnb => rc_ME_of (by decide) (m_outb (Kb := wK0) (nb := 2) (b := 0) (w02_c90 h) rfl rfl rfl (mAll4_ok wv0_u0 hnb) (wg0_0 hnb))
  | 3, hnb => rc_ME_of (by decide) (m_outb (Kb := wK0) (nb := 3) (b := 0) (w03_c90 h) rfl rfl rfl (mAll4_ok wv0_u0 hnb) (wg0_0 hnb))
  | n + 4, hn => by omega) (fun nb hnb => match nb, hnb with
  | 0, hnb => rc_ME_of (by decide) (m_outb (Kb := wK1) (nb := 0) (b := 1) (w10_c88 h) rfl rfl rfl (mAll4_ok wv1_u0 hnb) (wg1_0 hnb))
  | 1, hnb => rc_ME_of (by decide) (m_outb (Kb := wK1) (nb := 1) (b := 1) (w11_c90 h) rfl rfl rfl (mAll4_ok wv1_u0 hnb) (wg1_0 hnb))
  | 2, hnb => rc_ME_of (by decide) (m_outb (Kb := wK1) (nb := 2) (b := 1) (w12_c90 h) rfl rfl rfl (mAll4_ok wv1_u0 hnb) (wg1_0 hnb))
  | 3, hnb => rc_ME_of (by decide) (m_outb (Kb := wK1) (nb := 3) (b := 1) (w13_c90 h) rfl rfl rfl (mAll4_ok wv1_u0 hnb) (wg1_0 hnb))
  | n + 4, hn => by omega)
theorem pM_backo1 (h : ∀ (i j q : Nat), ad[i]? = some q → ad[j]? = some q → i = j) : rc_ME l κ D 179 (fun vs w => mI κ ad w ∧ ∃ (q : Nat) (z : Int32), ad[0]? = some q ∧ vs = [.ref q, .int z] ∧ 3 ≤ z.toInt ∧ z.toInt ≤ 2147483647) (fun _ w ov w' => mQc κ ad w ov w') := mI_all (A := fun vs => ∃ (q : Nat) (z : Int32), ad[0]? = some q ∧ vs = [.ref q, .int z] ∧ 3 ≤ z.toInt ∧ z.toInt ≤ 2147483647) (fun nb hnb => match nb, hnb with
  | 0, hnb => rc_ME_of (by decide) (m_outb (Kb := wK0) (nb := 0) (b := 0) (w00_c89 h) rfl rfl rfl (mAll4_ok wv0_u0 hnb) (wg0_0 hnb))
  | 1, hnb => rc_ME_of (by decide) (m_outb (Kb := wK0) (nb := 1) (b := 0) (w01_c91 h) rfl rfl rfl (mAll4_ok wv0_u0 hnb) (wg0_0 hnb))
  | 2, hnb => rc_ME_of (by decide) (m_outb (Kb := wK0) (nb := 2) (b := 0) (w02_c91 h) rfl rfl rfl (mAll4_ok wv0_u0 hnb) (wg0_0 hnb))
  | 3, hnb => rc_ME_of (by decide) (m_outb (Kb := wK0) (nb := 3) (b := 0) (w03_c91 h) rfl rfl rfl (mAll4_ok wv0_u0 hnb) (wg0_0 hnb))
  | n + 4, hn => by omega) (fun nb hnb => match nb, hnb with
  | 0, hnb => rc_ME_of (by decide) (m_outb (Kb := wK1) (nb := 0) (b := 1) (w10_c89 h) rfl rfl rfl (mAll4_ok wv1_u0 hnb) (wg1_0 hnb))
  | 1, hnb => rc_ME_of (by decide) (m_outb (Kb := wK1) (nb := 1) (b := 1) (w11_c91 h) rfl rfl rfl (mAll4_ok wv1_u0 hnb) (wg1_0 hnb))
  | 2, hnb => rc_ME_of (by decide) (m_outb (Kb := wK1) (nb := 2) (b := 1) (w12_c91 h) rfl rfl rfl (mAll4_ok wv1_u0 hnb) (wg1_0 hnb))
  | 3, hnb => rc_ME_of (by decide) (m_outb (Kb := wK1) (nb := 3) (b := 1) (w13_c91 h) rfl rfl rfl (mAll4_ok wv1_u0 hnb) (wg1_0 hnb))
  | n + 4, hn => by omega)
theorem pM_back (h : ∀ (i j q : Nat), ad[i]? = some q → ad[j]? = some q → i = j) : rc_ME l κ D 179 (fun vs w => mI κ ad w ∧ ∃ q : Nat, ad[0]? = some q ∧ mArgs q 1 vs) (fun _ w ov w' => mQc κ ad w ov w') := by
  refine rc_ME_mono (rc_ME_or (pM_backo0 h) (rc_ME_or (pM_back0 h) (rc_ME_or (pM_back1 h) (rc_ME_or (pM_back2 h) (pM_backo1 h))))) (fun vs ws hp => ?_) (fun _ _ _ _ _ g => g)
  obtain ⟨hI, q, hq, zs, hz, rfl⟩ := hp
  match zs, hz with
  | [z], _ =>
    have := Int32.le_toInt z
    have := Int32.toInt_lt z
    have b1 : (-2147483648 : Int) ≤ z.toInt := Int32.le_toInt z
    have b2 : z.toInt < 2147483648 := Int32.toInt_lt z
    rcases (show z.toInt ≤ -1 ∨ z.toInt = 0 ∨ z.toInt = 1 ∨ z.toInt = 2 ∨ 3 ≤ z.toInt by omega) with g | g | g | g | g
    · exact Or.inl ⟨hI, q, z, hq, rfl, b1, g⟩
    · exact Or.inr (Or.inl ⟨hI, q, z, hq, rfl, g⟩)
    · exact Or.inr (Or.inr (Or.inl ⟨hI, q, z, hq, rfl, g⟩))
    · exact Or.inr (Or.inr (Or.inr (Or.inl ⟨hI, q, z, hq, rfl, g⟩)))
    · exact Or.inr (Or.inr (Or.inr (Or.inr ⟨hI, q, z, hq, rfl, g, by omega⟩)))
theorem pM_street (h : ∀ (i j q : Nat), ad[i]? = some q → ad[j]? = some q → i = j) : rc_ME l κ D 283 (fun vs w => mI κ ad w ∧ ∃ q : Nat, ad[0]? = some q ∧ mArgs q 0 vs) (fun _ w ov w' => mQc κ ad w ov w') := by
  intro y cc nL ret hm ws sz vs hp
  obtain ⟨⟨nb, nr, hnb, hnr, hI⟩, q, hq, zs, hz, rfl⟩ := hp
  have := List.length_eq_zero_iff.mp hz
  subst this
  rcases hI with hI | hI
  · exact rc_ME_mono (P' := fun vs w => mInv wK0 κ ad 0 nb nr w ∧ ∃ q : Nat, ad[0]? = some q ∧ vs = [.ref q]) (Q' := fun _ w ov w' => mQc κ ad w ov w') (rc_ME_of (by decide) (wst0 h hnb hnr)) (fun _ _ g => g) (fun vs ws ov ws' _ hq => ⟨hq.1, hq.2.1, by
      rcases hq.2.2 with ⟨n, a, b'⟩ | ⟨n, a, b'⟩
      · exact ⟨nb, n, hnb, a, Or.inl b'⟩
      · exact ⟨n, nb, a, hnb, Or.inr b'⟩⟩) y cc nL ret hm ws sz _ ⟨hI, q, hq, rfl⟩
  · exact rc_ME_mono (P' := fun vs w => mInv wK1 κ ad 1 nb nr w ∧ ∃ q : Nat, ad[0]? = some q ∧ vs = [.ref q]) (Q' := fun _ w ov w' => mQc κ ad w ov w') (rc_ME_of (by decide) (wst1 h hnb hnr)) (fun _ _ g => g) (fun vs ws ov ws' _ hq => ⟨hq.1, hq.2.1, by
      rcases hq.2.2 with ⟨n, a, b'⟩ | ⟨n, a, b'⟩
      · exact ⟨nb, n, hnb, a, Or.inr b'⟩
      · exact ⟨n, nb, a, hnb, Or.inl b'⟩⟩) y cc nL ret hm ws sz _ ⟨hI, q, hq, rfl⟩
theorem wL_cx (h : ∀ (i j q : Nat), ad[i]? = some q → ad[j]? = some q → i = j) {b : Nat} (hb : b < 2) : rt_ctx wL_K mK ad (mF b) := m_ctx hb (Nat.le_of_ble_eq_true rfl) wL_cc h
theorem pM_latC (h : ∀ (i j q : Nat), ad[i]? = some q → ad[j]? = some q → i = j) {b : Nat} (hb : b < 2) : rc_Met l κ D 4 239 (fun vs w => rt_hp wL_K κ mK ad w (mF b) 0 35 0 w ∧ ∃ (q : Nat) (z : Int32), ad[0]? = some q ∧ vs = [.ref q, .int z]) (fun vs w ov w' => mtQ wL_K κ ad b 0 w (mtZ vs) ov w') := m_later (SP := wL_S) (MX := []) (SW := []) (n := 3000) (wL_cx h hb) mc_none (m_MX hb rfl rfl) (m_SW (wL_cx h hb) rfl) wL_lt (by decide +kernel) (by decide) 0
theorem pM_lat {Kb : Nat → List (List rt_K)} {b nb nr : Nat} {w w' : va_W} {z : Int32} {ov : Option Value} (ha : mG3 (Kb nb) 0 wL_K 35 (Kb nb) 0 = true) (hc : mG3 (Kb nr) 37 wL_K 35 (Kb nr) 37 = true) (hI : mInv Kb κ ad b nb nr w) (hQ : mtQ wL_K κ ad b 0 w z ov w') : mInv Kb κ ad b nb nr w' := by
  obtain ⟨had, hH0, hH37, hR, hBx⟩ := hI
  obtain ⟨p1, -⟩ := hQ
  refine ⟨p1.1, mG3_ok ha hH0 p1.2.1 p1.2.2.1, mG3_ok hc hH37 p1.2.1 p1.2.2.1, p1.2.2.2, fun q hq => ?_⟩
  match q, hq with
  | 0, hq => rw [mF1_ok (m_at1 wL_x (i := 0) rfl) p1.2.2.1, mF1_ok (m_at1 wL_x (i := 3) rfl) p1.2.2.1]; exact hBx 0 hq
  | 1, hq => rw [mF1_ok (m_at1 wL_x (i := 1) rfl) p1.2.2.1, mF1_ok (m_at1 wL_x (i := 4) rfl) p1.2.2.1]; exact hBx 1 hq
  | 2, hq => rw [mF1_ok (m_at1 wL_x (i := 2) rfl) p1.2.2.1, mF1_ok (m_at1 wL_x (i := 5) rfl) p1.2.2.1]; exact hBx 2 hq
theorem pM_later (h : ∀ (i j q : Nat), ad[i]? = some q → ad[j]? = some q → i = j) : rc_ME l κ D 239 (fun vs w => mI κ ad w ∧ ∃ (q : Nat) (z : Int32), ad[0]? = some q ∧ vs = [.ref q, .int z]) (fun vs w ov w' => (∃ r : Int32, ov = some (.int r) ∧ r.toInt = mtA (mv w 0 97) (mtZ vs).toInt) ∧ mv w' 0 97 = mtT (mv w 0 97) (mtZ vs).toInt ∧ mI κ ad w') := by
  intro y cc nL ret hm ws sz vs hp
  obtain ⟨⟨nb, nr, hnb, hnr, hI⟩, hv⟩ := hp
  rcases hI with hI | hI
  · have hH := mG3_ok (mAll4_ok wL0_a hnb) hI.2.1 hI.2.1 (m_agR hI.2.1)
    exact rc_ME_mono (P' := fun vs w => w = ws ∧ ∃ (q : Nat) (z : Int32), ad[0]? = some q ∧ vs = [.ref q, .int z]) (Q' := fun vs w ov w' => (∃ r : Int32, ov = some (.int r) ∧ r.toInt = mtA (mv w 0 97) (mtZ vs).toInt) ∧ mv w' 0 97 = mtT (mv w 0 97) (mtZ vs).toInt ∧ mI κ ad w') (rc_ME_of (by decide) (pM_latC h (b := 0) (by decide))) (fun vs w g => ⟨by rw [g.1]; exact ⟨hI.1, hH, m_agR hH, hI.2.2.2.1⟩, g.2⟩) (fun vs w ov w' g hq => ⟨by
      obtain ⟨-, r, e1, e2, -⟩ := hq
      exact ⟨r, e1, e2⟩, by
      obtain ⟨-, r, -, -, e3⟩ := hq
      exact e3, nb, nr, hnb, hnr, Or.inl (pM_lat (mAll4_ok wL0_b hnb) (mAll4_ok wL0_c hnr) hI (by rw [← g.1]; exact hq))⟩) y cc nL ret hm ws sz vs ⟨rfl, hv⟩
  · have hH := mG3_ok (mAll4_ok wL1_a hnb) hI.2.1 hI.2.1 (m_agR hI.2.1)
    exact rc_ME_mono (P' := fun vs w => w = ws ∧ ∃ (q : Nat) (z : Int32), ad[0]? = some q ∧ vs = [.ref q, .int z]) (Q' := fun vs w ov w' => (∃ r : Int32, ov = some (.int r) ∧ r.toInt = mtA (mv w 0 97) (mtZ vs).toInt) ∧ mv w' 0 97 = mtT (mv w 0 97) (mtZ vs).toInt ∧ mI κ ad w') (rc_ME_of (by decide) (pM_latC h (b := 1) (by decide))) (fun vs w g => ⟨by rw [g.1]; exact ⟨hI.1, hH, m_agR hH, hI.2.2.2.1⟩, g.2⟩) (fun vs w ov w' g hq => ⟨by
      obtain ⟨-, r, e1, e2, -⟩ := hq
      exact ⟨r, e1, e2⟩, by
      obtain ⟨-, r, -, -, e3⟩ := hq
      exact e3, nb, nr, hnb, hnr, Or.inr (pM_lat (mAll4_ok wL1_b hnb) (mAll4_ok wL1_c hnr) hI (by rw [← g.1]; exact hq))⟩) y cc nL ret hm ws sz vs ⟨rfl, hv⟩
end MEV
