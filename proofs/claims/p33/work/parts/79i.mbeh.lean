/-! behindUnit -/
def mSgv (w : va_W) : Int32 := mz w 2 (mv w 0 6).toNat &&& 255
def mSg (k : Int) (w : va_W) : Prop := k = 0 ∨ ((k = 1 ∨ k = 2) ∧ 1 ≤ mv w 0 8 ∧ mv w 0 8 ≤ 5) ∨ (4 ≤ k ∧ k ≤ 6 ∧ 1 ≤ mv w 0 8 ∧ mv w 0 8 ≤ 5 ∧ mv w 0 6 < mv w 0 3 ∧ 42 ≤ (mSgv w).toInt ∧ (mSgv w).toInt ≤ 62)
def mQb (KK : List (List rt_K)) (κ : Nat → ClassId) (ad : List Nat) (r : Nat) (uF t : Int) (w : va_W) (ov : Option Value) (w' : va_W) : Prop := ∃ z : Int32, ov = some (.int z) ∧ mFm KK uF w w' ∧ ((z.toInt = 1 ∧ mHp KK κ ad (t - 1) w' ∧ mJ r uF true w') ∨ (z.toInt = 0 ∧ mHp KK κ ad t w' ∧ mJ r uF false w' ∧ mv w' 0 53 < mv w 0 53) ∨ (z.toInt = 0 ∧ mHp KK κ ad t w' ∧ mD r uF w' ∧ mv w' 0 53 = 0) ∨ (z.toInt = 1 ∧ mHp KK κ ad t w' ∧ mD r uF w' ∧ 1 ≤ mv w' 0 4))
section MBEH
variable {l : Launch} {D : va_G} {KK : List (List rt_K)} {κ : Nat → ClassId} {ad : List Nat} {MX : rt_X} {SW : rt_W} {CS : List rt_Co} {SP : rt_SP} {b r d n : Nat} {τ : List Int} {ν : List Nat} {lm : List Int64}
theorem mSg_same {k : Int} {w w' : va_W} (h0 : 0 ≤ mv w 0 6) (hs : mv w 0 3 ≤ 1600) (h6 : mv w' 0 6 = mv w 0 6) (h8 : mv w' 0 8 = mv w 0 8) (h3 : mv w' 0 3 = mv w 0 3) (h2 : ∀ j, j < 1600 → mv w' 2 j = mv w 2 j) (h : mSg k w) : mSg k w' := by
  unfold mSg at h ⊢
  rw [h6, h8, h3]
  rcases h with h | h | ⟨h1, h4, h5, h7, h9, h10, h11⟩
  · exact Or.inl h
  · exact Or.inr (Or.inl h)
  · have e : mSgv w' = mSgv w := by
      unfold mSgv
      rw [h6, Int32.toInt_inj.mp (h2 (mv w 0 6).toNat (by omega))]
    rw [e]
    exact Or.inr (Or.inr ⟨h1, h4, h5, h7, h9, h10, h11⟩)
theorem m_gv {b' : rc_C} {E : List rt_B} {R : List Nat} {Gh : List (Option rt_V)} {Vg : List (Option Value)} {ov : List rt_O} (hi : ∀ (i j q : Nat), ad[i]? = some q → ad[j]? = some q → i = j) (had : ri_ad b'.2.2.2 = ad) (g3 : rt_okN mK ad (E, R, []) τ ν lm) (gg : ∀ (i : Nat) (x : rt_V), Gh[i]? = some (some x) → ∃ v, b'.2.1[20 + i]? = some (some v) ∧ rt_gV τ ν lm mK ad x v) (go : ∀ o ∈ ov, rt_gO τ ν lm mK ad b'.2.2.2 o) (hgh : ∀ (i : Nat) (v : Value), b'.2.1[20 + i]? = some (some v) → Vg[i]? = some (some v)) {t1 k j f c kk : Nat} (i : Nat) {z : Int32} {o : Int} {B1 : rt_B} (e1 : Gh[i]? = some (some (tgI (t1 + 1) 0))) (v1 : Vg[i]? = some (some (.int z))) (o1 : ov[k]? = some (j + 1, (0, (f : Int)), tgI (t1 + 1) o)) (h1 : R[j]? = some kk) (h2 : mK[c]? = some kk) (b1 : E[t1]? = some B1) : mv b'.2.2.2 c f = z.toInt + o ∧ B1.1.1 ≤ z.toInt ∧ z.toInt ≤ B1.1.2 := by
  obtain ⟨x1, y1, l1, k1, -⟩ := m_tg g3.1 b1
  obtain ⟨w1, a1, c1⟩ := gg i _ e1
  obtain ⟨z1, rfl, c1⟩ := m_tgv c1 y1
  have a1 := hgh i _ a1
  rw [v1] at a1
  cases a1
  have q1 := m_gIe (m_ov hi had g3.2.1 go (c := c) o1 h1 h2) y1
  refine ⟨?_, by omega, by omega⟩
  show (mz b'.2.2.2 c f).toInt = _
  omega
theorem m_gb {b' : rc_C} {E : List rt_B} {R : List Nat} {Gh : List (Option rt_V)} {Vg : List (Option Value)} (g3 : rt_okN mK ad (E, R, []) τ ν lm) (gg : ∀ (i : Nat) (x : rt_V), Gh[i]? = some (some x) → ∃ v, b'.2.1[20 + i]? = some (some v) ∧ rt_gV τ ν lm mK ad x v) (hgh : ∀ (i : Nat) (v : Value), b'.2.1[20 + i]? = some (some v) → Vg[i]? = some (some v)) {t1 : Nat} (i : Nat) {z : Int32} {B1 : rt_B} (e1 : Gh[i]? = some (some (tgI (t1 + 1) 0))) (v1 : Vg[i]? = some (some (.int z))) (b1 : E[t1]? = some B1) : τ[t1]? = some z.toInt ∧ B1.1.1 ≤ z.toInt ∧ z.toInt ≤ B1.1.2 := by
  obtain ⟨x1, y1, l1, k1, -⟩ := m_tg g3.1 b1
  obtain ⟨w1, a1, c1⟩ := gg i _ e1
  obtain ⟨z1, rfl, c2⟩ := m_tgv c1 y1
  have a2 := hgh i _ a1
  rw [v1] at a2
  cases a2
  exact ⟨by rw [y1]; exact congrArg some (by omega), by omega, by omega⟩
theorem m_eta {b' : rc_C} {pc : Nat} {st : List Value} (h1 : b'.1 = pc) (h2 : b'.2.2.1 = st) : b' = (pc, b'.2.1, st, b'.2.2.2) := by
  obtain ⟨a, b, c, d⟩ := b'
  cases h1
  cases h2
  rfl
theorem mb_at {MX : rt_X} {SW : rt_W} {CS : List rt_Co} {SP : rt_SP} {n d r : Nat} (h : rt_all1 (fun b => b) (mb_L0 KK MX SW CS SP n d r) = true) {i : Nat} {b : Bool} (hi : (mb_L0 KK MX SW CS SP n d r)[i]? = some b) : b = true := rt_all1_ok h b (List.mem_of_getElem? hi)
theorem m_lohi (z : Int32) : mcB ≤ z.toInt ∧ z.toInt ≤ mcT := ⟨Int32.le_toInt z, by
  have := Int32.toInt_lt z
  show z.toInt ≤ 2147483647
  omega⟩
set_option maxHeartbeats 4000000 in
theorem m_behind {d1 : Nat} (hcx : rt_ctx KK mK ad (mF b)) (hMC : rt_MCok l D κ SP.2) (hMX : rt_MXok KK κ mK ad (mF b) MX) (hSW : rt_SWok KK κ mK ad (mF b) SW) (hCS : ∀ C ∈ CS, rt_Con l D KK κ mK ad (mF b) C) (hok : rt_all1 (fun b => b) (mp_L KK r) = true) (hqk : rt_all1 (fun b => b) (mq_L KK) = true) (hr : r < 2) (hmx : rt_mx MX 32 25 25 = some 32) (hki : mi_chk KK MX SW SP n d1 = true) (hk : rt_all1 (fun b => b) (mb_L0 KK MX SW CS SP n d r) = true) (hd1 : 1 ≤ d1) (hd : d1 + 1 ≤ d) (t uF : Int) : rc_Met l κ D d 181 (fun vs w => mHp KK κ ad t w ∧ mJ r uF false w ∧ ∃ q : Nat, ad[0]? = some q ∧ vs = [.ref q]) (fun _ w ov w' => mQb KK κ ad r uF t w ov w') := by
  have em : mT[181]? = some (yX12_behindUnit, cX12_behindUnit, 2, some .boolean) := rfl
  have hrun := rt_run_ok (SP := SP) hcx hMC hMX hCS n
  have r11 : ri_rowOK mT yX12_behindUnit cX12_behindUnit 2 (some .boolean) 11 (.invokevirtual 474, 3, 12 + 4, 223, ((0 + 1 : Nat) : Int)) := ((tab_all 181 _ _ _ _ em).2.2.2.2.2 11 (.invokevirtual 474, 3, 16, 223, 1) rfl).resolve_left (fun h => by cases h)
  have r98 : ri_rowOK mT yX12_behindUnit cX12_behindUnit 2 (some .boolean) 98 (.invokevirtual 468, 3, 12 + 4, 199, ((2 + 1 : Nat) : Int)) := ((tab_all 181 _ _ _ _ em).2.2.2.2.2 98 (.invokevirtual 468, 3, 16, 199, 3) rfl).resolve_left (fun h => by cases h)
  have r101 : ri_fetch mt 181 101 = some (.goto (-78), 3, 23, 0, 0) := rfl
  have r138 : ri_rowOK mT yX12_behindUnit cX12_behindUnit 2 (some .boolean) 138 (.invokevirtual 456, 3, 12 + 4, 255, ((2 + 1 : Nat) : Int)) := ((tab_all 181 _ _ _ _ em).2.2.2.2.2 138 (.invokevirtual 456, 3, 16, 255, 3) rfl).resolve_left (fun h => by cases h)
  refine rc_body (fun vs _ => mV20 (rc_en vs) []) ?_ ?_ ?_
  · rintro vs w ⟨-, -, q, -, rfl⟩
    exact m_loc (Nat.le_of_ble_eq_true rfl) (fun i v h => h)
  · rintro y cc nL ret hm vs w ⟨-, -, q, -, rfl⟩
    rw [em] at hm
    cases hm
    show 1 ≤ 2
    decide
  · rintro y cc nL ret hm w vs ⟨hh, hJ, q, hq, rfl⟩ p e s m below meth c B
    rw [em] at hm
    cases hm
    obtain ⟨hu1, hu2⟩ := J_uF hJ
    have hb0 := mJ_P hJ
    have tyT : ∃ a, mTy KK 32 0 8 = some a := m_ex (mp_at hok (i := 16) rfl)
    have tyA : ∃ a, mTy KK 32 0 6 = some a := m_exB (mp_at hok (i := 17) rfl)
    have tyZ : ∃ a, mTy KK 32 0 3 = some a := m_exB (mp_at hok (i := 18) rfl)
    have bA : ∀ {t' : Int} {w1 : va_W}, mHp KK κ ad t' w1 → 0 ≤ mv w1 0 6 ∧ mv w1 0 6 ≤ 1600 := fun h => mBd_v h.2.1 (mp_at hok (i := 17) rfl)
    have bZ : ∀ {t' : Int} {w1 : va_W}, mHp KK κ ad t' w1 → 0 ≤ mv w1 0 3 ∧ mv w1 0 3 ≤ 1600 := fun h => mBd_v h.2.1 (mp_at hok (i := 18) rfl)
    have okD : ∀ {τ : List Int} {lo hi : Int} {w1 : va_W}, τ[6]? = some (mv w1 2 (mv w1 0 6).toNat) → lo ≤ (mSgv w1).toInt → (mSgv w1).toInt ≤ hi → rt_okB τ [] ((lo, hi), (0, 0), none, some (true, 7, 255)) (mSgv w1).toInt := fun {τ lo hi w1} h6 h1 h2 => ⟨h1, h2, Or.inl rfl, (fun c hc => by cases hc), fun q hq => by
      cases hq
      exact ⟨6, mz w1 2 (mv w1 0 6).toNat, 255, rfl, h6, by decide, rfl⟩⟩
    -- behind pushE
    have fin9 : ∀ (V : List (Option Value)) (w1 : va_W) (cz nz : Int32), V[0]? = some (some (.ref q)) → mHp KK κ ad t w1 → mFm KK uF w w1 → mJ r uF false w1 → 1 ≤ mv w1 0 8 → mv w1 0 8 ≤ 5 → (cz.toInt = 1 ∨ cz.toInt = 2 ∨ (4 ≤ cz.toInt ∧ cz.toInt ≤ 6)) → mop nz.toInt → rc_AB p l e s m [Value.ref q].toArray below meth c 2 D w (MQ below (rc_Q D w s.heap.size (fun ov w' => mQb KK κ ad r uF t w ov w')) [Value.ref q].toArray s 0 0 (va_A w s.heap.size)) d (141, V, [], mPsh 38 39 53 cz nz w1) := by
      intro V w1 cz nz hV H1 F1 J1 t1 t5 hx hn
      have hb := mJ_P J1
      obtain ⟨P1, P2, P3, P4, P5, P6, P7, P8⟩ := mp_push (uF := uF) hok H1 (by omega) (by omega) cz nz
      have g52 := P8 0 52 (by decide) (by decide) (fun q => by cases q.2)
      have g28 := P8 28 r (by decide) (by decide) (fun q => by cases q.1)
      have g51 := P8 0 51 (by decide) (by decide) (fun q => by cases q.2)
      have g8 := P8 0 8 (by decide) (by decide) (fun q => by cases q.2)
      refine rc_At_loc (V := mV20 [some (.ref q)] [some (.int (mz (mPsh 38 39 53 cz nz w1) 0 53)), some (.int (mz (mPsh 38 39 53 cz nz w1) 0 52)), some (.int (mz (mPsh 38 39 53 cz nz w1) 28 r))]) (m_loc (Nat.le_of_ble_eq_true rfl) (m_loc1 hV)) ?_
      refine hrun d 181 [11, 23, 98, 104, 138] true _ _ _ (mb_at hk (i := 19) rfl) (by omega) _ _ 2 _ em (by decide) p e s m _ below meth c w B _ hh.1 (mPsh 38 39 53 cz nz w1) t _ (m_start (S := mb_S9 r) (cs := [0, 28]) (τ := [mv (mPsh 38 39 53 cz nz w1) 0 53, mv (mPsh 38 39 53 cz nz w1) 0 52, mv (mPsh 38 39 53 cz nz w1) 28 r, mv (mPsh 38 39 53 cz nz w1) 0 8]) (mHp_hp P1) rfl (by decide) rfl ⟨m_okB (show (1 : Int) ≤ _ by omega) (show _ ≤ (89 : Int) by omega) (Or.inl rfl), m_okB (show (0 : Int) ≤ _ by omega) (show _ ≤ (7 : Int) by omega) (Or.inl rfl), m_okB (show (0 : Int) ≤ _ by omega) (show _ ≤ (40 : Int) by omega) (Or.inl rfl), m_okB (show (1 : Int) ≤ _ by omega) (show _ ≤ (5 : Int) by omega) (Or.inl rfl), trivial⟩ (m_lo20 rfl (by decide) ⟨⟨_, rfl, 0, q, rfl, rfl, hq, rfl⟩, trivial⟩ ⟨⟨_, rfl, _, rfl, m_gI rfl⟩, ⟨_, rfl, _, rfl, m_gI rfl⟩, ⟨_, rfl, _, rfl, m_gI rfl⟩, trivial⟩) trivial (m_ovOB (ov := [(1, (0, 8), tgI 4 0)]) hok hr (m_gI rfl) (m_gI rfl) (m_gI rfl) ⟨m_ovF (f := 8) rfl tyT (m_gI rfl), trivial⟩)) (fun _ _ hf => by cases hf) (fun v S' b' ov z1 _ z2 z3 z4 => ?_)
      cases v with
      | none => cases z1
      | some x =>
        obtain ⟨tg, htg, hat⟩ := rt_tgt_ok hSW (show rt_tgt SW [mb_R9 r] S' = true from z1) z3
        rw [List.mem_singleton.mp htg] at hat
        obtain ⟨τ, ν, lm, -, g2, g3, gs, -, gg, go⟩ := m_end hat (by decide) (by decide) (m_ansL z2)
        obtain ⟨z, rfl, l1, l2⟩ := m_ans z2 gs rfl
        obtain ⟨f53, f52, f28, -⟩ := m_pwu hcx.2 g2.1 g3 gg go (fun i v h => m_ghost z4 rfl (Nat.le_of_ble_eq_true rfl) h) rfl rfl rfl rfl rfl rfl rfl rfl rfl rfl rfl rfl
        have f53 : mv b'.2.2.2 0 53 = mv (mPsh 38 39 53 cz nz w1) 0 53 + 0 := f53
        have f52 : mv b'.2.2.2 0 52 = mv (mPsh 38 39 53 cz nz w1) 0 52 + 0 := f52
        have f28 : mv b'.2.2.2 28 r = mv (mPsh 38 39 53 cz nz w1) 28 r + 0 := f28
        obtain ⟨R1, R2, ⟨R3, R4, R5, R6⟩, -, -⟩ := mp_run (uF := uF) hok (by omega) g2
        refine ⟨z, rfl, mFm_tr (mFm_tr F1 P2) R2, Or.inl ⟨by omega, mHp_mono R1 (by omega), ?_⟩⟩
        refine J_rank (x := cz.toInt) hr J1 hx (by omega) (by omega) (by omega) (by omega) (fun j hj => ?_) (fun j hj hne => ?_) ?_ (fun j hj hne => ?_) ?_
        · rw [R3 j hj, P8 36 j (by decide) (by decide) (fun q => by cases q.1)]
        · rw [R4 j hj, P6 j hne]
        · rw [R4 _ (by omega)]
          exact P4
        · rw [R5 j hj, P7 j hne]
        · rw [R5 _ (by omega), P5]
          exact hn
    -- behind the loop
    have out : ∀ (V : List (Option Value)) (k : Int32) (w1 : va_W), V[0]? = some (some (.ref q)) → V[1]? = some (some (.int k)) → mHp KK κ ad t w1 → mFm KK uF w w1 → mJ r uF false w1 → mv w1 0 53 ≤ mv w 0 53 → mSg k.toInt w1 → (k.toInt = 0 → 7 ≤ mv w1 38 (mv w1 0 53 - 1).toNat) → rc_AB p l e s m [Value.ref q].toArray below meth c 2 D w (MQ below (rc_Q D w s.heap.size (fun ov w' => mQb KK κ ad r uF t w ov w')) [Value.ref q].toArray s 0 0 (va_A w s.heap.size)) d (104, V, [], w1) := by
      intro V k w1 hV0 hV1 H1 F1 J1 hle hS hx0
      have hb := mJ_P J1
      obtain ⟨u1, u2⟩ := J_uF J1
      have zero : ∀ (x lo dw : Int), k.toInt = 0 → mv w1 38 (mv w1 0 53 - 1).toNat = x → lo ≤ mv w1 0 52 → mb_run KK MX CS SP n d true rt_kf (rt_tgi SW [mb_R0 r lo dw]) (mb_Q0 r lo x) = true → (∀ w2, mHp KK κ ad t w2 → mFm KK uF w1 w2 → mSm w1 w2 → mv w2 0 53 = mv w1 0 53 - 1 → mv w2 0 52 = mv w1 0 52 + dw → mv w2 28 r = mv w1 28 r → (mJ r uF false w2 ∧ mv w2 0 53 < mv w 0 53) ∨ (mD r uF w2 ∧ mv w2 0 53 = 0)) → rc_AB p l e s m [Value.ref q].toArray below meth c 2 D w (MQ below (rc_Q D w s.heap.size (fun ov w' => mQb KK κ ad r uF t w ov w')) [Value.ref q].toArray s 0 0 (va_A w s.heap.size)) d (104, V, [], w1) := by
        intro x lo dw hk0 hx hlo hrn kk
        refine rc_At_loc (V := mV20 [some (.ref q), some (.int k)] [some (.int (mz w1 0 53)), some (.int (mz w1 0 52)), some (.int (mz w1 28 r))]) (m_loc (Nat.le_of_ble_eq_true rfl) (m_loc2 hV0 hV1)) ?_
        refine hrun d 181 [11, 23, 98, 104, 138] true _ _ _ hrn (by omega) _ _ 2 _ em (by decide) p e s m _ below meth c w B _ hh.1 w1 t _ (m_start (S := mb_Q0 r lo x) (cs := [0, 28, 38]) (τ := [mv w1 0 53, mv w1 0 52, mv w1 28 r]) (mHp_hp H1) rfl (by decide) rfl ⟨m_okB (show (1 : Int) ≤ _ by omega) (show _ ≤ (89 : Int) by omega) (Or.inl rfl), m_okB hlo (show _ ≤ (7 : Int) by omega) (Or.inl rfl), m_okB (show (0 : Int) ≤ _ by omega) (show _ ≤ (40 : Int) by omega) (Or.inl rfl), trivial⟩ (m_lo20 rfl (by decide) ⟨⟨_, rfl, 0, q, rfl, rfl, hq, rfl⟩, ⟨_, rfl, k, rfl, rt_gI_0.mpr ⟨by omega, by omega⟩⟩, trivial⟩ ⟨⟨_, rfl, _, rfl, m_gI rfl⟩, ⟨_, rfl, _, rfl, m_gI rfl⟩, ⟨_, rfl, _, rfl, m_gI rfl⟩, trivial⟩) trivial (m_ovOB (ov := [(1, (0, 48), .inr (.inl (37, 3))), (3, (1, -1), cI x x)]) hok hr (m_gI rfl) (m_gI rfl) (m_gI rfl) ⟨⟨rfl, 38, 48, rfl, rfl, rfl, mp_at hok (i := 3) rfl⟩, m_ovT (j := 2) (c := 38) (b := mv w1 0 53) rfl rfl (mv w1 0 53 - 1).toNat (by omega) (m_exA (mp_at hok (i := 9) rfl) (by omega)) (rt_gI_0.mpr ⟨by show x ≤ mv w1 38 (mv w1 0 53 - 1).toNat; omega, by show mv w1 38 (mv w1 0 53 - 1).toNat ≤ x; omega⟩), trivial⟩)) (fun _ _ hf => by cases hf) (fun v S' b' ov z1 _ z2 z3 z4 => ?_)
        cases v with
        | none => cases z1
        | some x' =>
          obtain ⟨tg, htg, hat⟩ := rt_tgt_ok hSW (show rt_tgt SW [mb_R0 r lo dw] S' = true from z1) z3
          rw [List.mem_singleton.mp htg] at hat
          obtain ⟨τ, ν, lm, -, g2, g3, gs, -, gg, go⟩ := m_end hat (by decide) (by decide) (m_ansL z2)
          obtain ⟨z, rfl, l1, l2⟩ := m_ans z2 gs rfl
          obtain ⟨f53, f52, f28, -⟩ := m_pwu (pz := mz w1 0 53) (wz := mz w1 0 52) (uz := mz w1 28 r) hcx.2 g2.1 g3 gg go (fun i v h => m_ghost z4 rfl (Nat.le_of_ble_eq_true rfl) h) rfl rfl rfl rfl rfl rfl rfl rfl rfl rfl rfl rfl
          have f53 : mv b'.2.2.2 0 53 = mv w1 0 53 + -1 := f53
          have f52 : mv b'.2.2.2 0 52 = mv w1 0 52 + dw := f52
          have f28 : mv b'.2.2.2 28 r = mv w1 28 r + 0 := f28
          obtain ⟨R1, R2, R3, -, -⟩ := mp_run (uF := uF) hok (by omega) g2
          have R1' : mHp KK κ ad t b'.2.2.2 := mHp_mono R1 (by omega)
          rcases kk b'.2.2.2 R1' R2 R3 (by omega) (by omega) (by omega) with ⟨j1, j2⟩ | ⟨j1, j2⟩
          · exact ⟨z, rfl, mFm_tr F1 R2, Or.inr (Or.inl ⟨by omega, R1', j1, j2⟩)⟩
          · exact ⟨z, rfl, mFm_tr F1 R2, Or.inr (Or.inr (Or.inl ⟨by omega, R1', j1, j2⟩))⟩
      have push : ∀ (nlo nhi klo : Int) {E : List rt_B} {R : List Nat} (b' : rc_C), b'.2.2.1.length = 3 → rt_atT KK κ mK ad w1 (mF b) t (mT8 138 32 0 [eB 1 89, eB 0 7, eB 0 40, eB 1 5] [79, 27] [some (cI nlo nhi), some (cI klo klo), some mM] [some mM] [some (tgI 1 0), some (tgI 2 0), some (tgI 3 0), some (tgI 4 0)] (mOB r (tgI 1 0) (tgI 2 0) (tgI 3 0) ++ [(1, (0, 8), tgI 4 0)])) b' → (∀ (i : Nat) (v : Value), b'.2.1[20 + i]? = some (some v) → [some (Value.int (mz w1 0 53)), some (Value.int (mz w1 0 52)), some (Value.int (mz w1 28 r)), some (Value.int (mz w1 0 8))][i]? = some (some v)) → (klo = 1 ∨ klo = 2 ∨ (4 ≤ klo ∧ klo ≤ 6)) → (∀ z : Int, nlo ≤ z → z ≤ nhi → mop z) → rc_AB p l e s m [Value.ref q].toArray below meth c 2 D w (MQ below (rc_Q D w s.heap.size (fun ov w' => mQb KK κ ad r uF t w ov w')) [Value.ref q].toArray s 0 0 (va_A w s.heap.size)) d (b'.1, b'.2.1, b'.2.2.1, b'.2.2.2) := by
        intro nlo nhi klo E R b' hl3 hat hgh hkl hop
        obtain ⟨τ, ν, lm, hpc, g2, g3, gs, ga, gg, go⟩ := m_end hat (Nat.le_of_ble_eq_true rfl) (by decide) (by omega)
        obtain ⟨f53, f52, f28, -⟩ := m_pwu (pz := mz w1 0 53) (wz := mz w1 0 52) (uz := mz w1 28 r) hcx.2 g2.1 g3 gg go hgh rfl rfl rfl rfl rfl rfl rfl rfl rfl rfl rfl rfl
        have f53 : mv b'.2.2.2 0 53 = mv w1 0 53 + 0 := f53
        have f52 : mv b'.2.2.2 0 52 = mv w1 0 52 + 0 := f52
        have f28 : mv b'.2.2.2 28 r = mv w1 28 r + 0 := f28
        obtain ⟨f8, f8a, f8b⟩ := m_gv (z := mz w1 0 8) (k := 4) (j := 0) (f := 8) (c := 0) hcx.2 g2.1 g3 gg go hgh 3 rfl rfl rfl rfl rfl rfl
        have f8 : mv b'.2.2.2 0 8 = mv w1 0 8 + 0 := f8
        have f8a : 1 ≤ mv w1 0 8 := f8a
        have f8b : mv w1 0 8 ≤ 5 := f8b
        obtain ⟨v0, x0, y0⟩ := gs 0 _ rfl
        obtain ⟨nz, rfl, n1, n2⟩ := m_cv y0
        obtain ⟨v1, x1, y1⟩ := gs 1 _ rfl
        obtain ⟨cz, rfl, c1, c2⟩ := m_cv y1
        obtain ⟨v2, x2, y2⟩ := gs 2 _ rfl
        have := m_this hq y2
        subst this
        obtain ⟨v3, x3, y3⟩ := ga 0 _ rfl
        have := m_this hq y3
        subst this
        obtain ⟨R1, R2, R3, -, -⟩ := mp_run (uF := uF) hok (by omega) g2
        have R1' : mHp KK κ ad t b'.2.2.2 := mHp_mono R1 (by omega)
        have J2 := mJ_same hr J1 R3 (by omega) (by omega) (by omega)
        rw [m_three hl3 x0 x1 x2, hpc.resolve_left (by decide)]
        exact m_callP B hok (by omega) r138 hq R1' (by omega) (by omega) (fin9 _ _ cz nz x3 R1' (mFm_tr F1 R2) J2 (by omega) (by omega) (by omega) (hop _ n1 n2))
      rcases hS with hk0 | ⟨hk12, t1, t5⟩ | ⟨hk4, hk6, t1, t5, has, s1, s2⟩
      · rcases J_top J1 with ⟨p1, x8⟩ | ⟨p2, xa, xb, xw⟩
        · refine zero 8 0 0 hk0 x8 (by omega) (mb_at hk (i := 13) rfl) (fun w2 H2 F2 S2 e53 e52 e28 => Or.inr ⟨mD_same hr (mJ_D J1) S2 e28, by omega⟩)
        · have hx7 := hx0 hk0
          have x7 : mv w1 38 (mv w1 0 53 - 1).toNat = 7 := by omega
          refine zero 7 1 (-1) hk0 x7 (xw (Or.inr x7)) (mb_at hk (i := 12) rfl) (fun w2 H2 F2 S2 e53 e52 e28 => Or.inl ⟨J_br hr J1 p2 x7 e53 (by omega) e28 S2, by omega⟩)
      · have one : ∀ (kk sg : Int), k.toInt = kk → (kk = 1 ∨ kk = 2) → mop sg → mb_run KK MX CS SP n d true (rt_tgl 3 SW [mb_R1 r kk sg]) rt_kf2 (mb_Q1 r kk) = true → rc_AB p l e s m [Value.ref q].toArray below meth c 2 D w (MQ below (rc_Q D w s.heap.size (fun ov w' => mQb KK κ ad r uF t w ov w')) [Value.ref q].toArray s 0 0 (va_A w s.heap.size)) d (104, V, [], w1) := by
          intro kk sg hkk h12 hop hrn
          refine rc_At_loc (V := mV20 [some (.ref q), some (.int k)] [some (.int (mz w1 0 53)), some (.int (mz w1 0 52)), some (.int (mz w1 28 r)), some (.int (mz w1 0 8))]) (m_loc (Nat.le_of_ble_eq_true rfl) (m_loc2 hV0 hV1)) ?_
          refine hrun d 181 [11, 23, 98, 104, 138] true _ _ _ hrn (by omega) _ _ 2 _ em (by decide) p e s m _ below meth c w B _ hh.1 w1 t _ (m_start (S := mb_Q1 r kk) (cs := [0, 28]) (τ := [mv w1 0 53, mv w1 0 52, mv w1 28 r, mv w1 0 8]) (mHp_hp H1) rfl (by decide) rfl ⟨m_okB (show (1 : Int) ≤ _ by omega) (show _ ≤ (89 : Int) by omega) (Or.inl rfl), m_okB (show (0 : Int) ≤ _ by omega) (show _ ≤ (7 : Int) by omega) (Or.inl rfl), m_okB (show (0 : Int) ≤ _ by omega) (show _ ≤ (40 : Int) by omega) (Or.inl rfl), m_okB (show (1 : Int) ≤ _ by omega) (show _ ≤ (5 : Int) by omega) (Or.inl rfl), trivial⟩ (m_lo20 rfl (Nat.le_of_ble_eq_true rfl) ⟨⟨_, rfl, 0, q, rfl, rfl, hq, rfl⟩, ⟨_, rfl, k, rfl, rt_gI_0.mpr ⟨by omega, by omega⟩⟩, trivial⟩ ⟨⟨_, rfl, _, rfl, m_gI rfl⟩, ⟨_, rfl, _, rfl, m_gI rfl⟩, ⟨_, rfl, _, rfl, m_gI rfl⟩, ⟨_, rfl, _, rfl, m_gI rfl⟩, trivial⟩) trivial (m_ovOB (ov := [(1, (0, 8), tgI 4 0)]) hok hr (m_gI rfl) (m_gI rfl) (m_gI rfl) ⟨m_ovF (f := 8) rfl tyT (m_gI rfl), trivial⟩)) (fun S' b' z1 z2 z3 => ?_) (fun v S' b' ov hf => by cases hf)
          obtain ⟨hl3, tg, htg, hat⟩ := rt_tgl_ok hSW z1 z2
          rw [List.mem_singleton.mp htg] at hat
          exact push sg sg kk (E := []) (R := []) b' hl3 hat (fun i v h => m_ghost z3 rfl (Nat.le_of_ble_eq_true rfl) h) (by omega) (fun z h1 h2 => by rw [show z = sg by omega]; exact hop)
        rcases hk12 with hk1 | hk2
        · exact one 1 124 hk1 (Or.inl rfl) ⟨by decide, by decide⟩ (mb_at hk (i := 14) rfl)
        · exact one 2 38 hk2 (Or.inr rfl) ⟨by decide, by decide⟩ (mb_at hk (i := 15) rfl)
      · have four : ∀ (kk : Int), k.toInt = kk → mb_run KK MX CS SP n d true (rt_tgl 3 SW [mb_R4 r kk]) rt_kf2 (mb_Q4 r kk) = true → rc_AB p l e s m [Value.ref q].toArray below meth c 2 D w (MQ below (rc_Q D w s.heap.size (fun ov w' => mQb KK κ ad r uF t w ov w')) [Value.ref q].toArray s 0 0 (va_A w s.heap.size)) d (104, V, [], w1) := by
          intro kk hkk hrn
          have bA1 := bA H1
          have bZ1 := bZ H1
          have lh := m_lohi (mz w1 2 (mv w1 0 6).toNat)
          refine rc_At_loc (V := mV20 [some (.ref q), some (.int k)] [some (.int (mz w1 0 53)), some (.int (mz w1 0 52)), some (.int (mz w1 28 r)), some (.int (mz w1 0 8))]) (m_loc (Nat.le_of_ble_eq_true rfl) (m_loc2 hV0 hV1)) ?_
          refine hrun d 181 [11, 23, 98, 104, 138] true _ _ _ hrn (by omega) _ _ 2 _ em (by decide) p e s m _ below meth c w B _ hh.1 w1 t _ (m_start (S := mb_Q4 r kk) (cs := [0, 28, 2]) (τ := [mv w1 0 53, mv w1 0 52, mv w1 28 r, mv w1 0 6, (mSgv w1).toInt, mv w1 0 3, mv w1 2 (mv w1 0 6).toNat, mv w1 0 8]) (mHp_hp H1) rfl (by decide) rfl ⟨m_okB (show (1 : Int) ≤ _ by omega) (show _ ≤ (89 : Int) by omega) (Or.inl rfl), m_okB (show (0 : Int) ≤ _ by omega) (show _ ≤ (7 : Int) by omega) (Or.inl rfl), m_okB (show (0 : Int) ≤ _ by omega) (show _ ≤ (40 : Int) by omega) (Or.inl rfl), m_okB (show (0 : Int) ≤ _ by omega) (show _ ≤ (1599 : Int) by omega) (Or.inl rfl), okD rfl s1 s2, m_okB (show (1 : Int) ≤ _ by omega) (show _ ≤ (1600 : Int) by omega) (Or.inr ⟨mv w1 0 6, rfl, by omega⟩), m_okB lh.1 lh.2 (Or.inl rfl), m_okB (show (1 : Int) ≤ _ by omega) (show _ ≤ (5 : Int) by omega) (Or.inl rfl), trivial⟩ (m_lo20 rfl (Nat.le_of_ble_eq_true rfl) ⟨⟨_, rfl, 0, q, rfl, rfl, hq, rfl⟩, ⟨_, rfl, k, rfl, rt_gI_0.mpr ⟨by omega, by omega⟩⟩, trivial⟩ ⟨⟨_, rfl, _, rfl, m_gI rfl⟩, ⟨_, rfl, _, rfl, m_gI rfl⟩, ⟨_, rfl, _, rfl, m_gI rfl⟩, ⟨_, rfl, _, rfl, m_gI rfl⟩, trivial⟩) trivial (m_ovOB (ov := [(1, (0, 6), tgI 4 0), (1, (0, 3), tgI 6 0), (1, (0, 1), .inr (.inl (1, 3))), (3, (4, 0), tgI 7 0), (1, (0, 8), tgI 8 0)]) hok hr (m_gI rfl) (m_gI rfl) (m_gI rfl) ⟨m_ovF (f := 6) rfl tyA (m_gI rfl), m_ovF (f := 3) rfl tyZ (m_gI rfl), ⟨rfl, 2, 1, rfl, rfl, rfl, mp_at hok (i := 6) rfl⟩, m_ovT (j := 2) (c := 2) (b := mv w1 0 6) rfl rfl (mv w1 0 6).toNat (by omega) (m_exA (mp_at hok (i := 12) rfl) (by omega)) (m_gI rfl), m_ovF (f := 8) rfl tyT (m_gI rfl), trivial⟩)) (fun S' b' z1 z2 z3 => ?_) (fun v S' b' ov hf => by cases hf)
          obtain ⟨hl3, tg, htg, hat⟩ := rt_tgl_ok hSW z1 z2
          rw [List.mem_singleton.mp htg] at hat
          exact push 42 62 kk (E := []) (R := []) b' hl3 hat (fun i v h => m_ghost z3 rfl (Nat.le_of_ble_eq_true rfl) h) (by omega) (fun z h1 h2 => ⟨by omega, by omega⟩)
        rcases (show k.toInt = 4 ∨ k.toInt = 5 ∨ k.toInt = 6 by omega) with h | h | h
        · exact four 4 h (mb_at hk (i := 16) rfl)
        · exact four 5 h (mb_at hk (i := 17) rfl)
        · exact four 6 h (mb_at hk (i := 18) rfl)
    -- the loop
    have loop : ∀ (N : Nat) (V : List (Option Value)) (k : Int32) (w1 : va_W), (mv w1 0 53).toNat ≤ N → V[0]? = some (some (.ref q)) → V[1]? = some (some (.int k)) → mHp KK κ ad t w1 → mFm KK uF w w1 → mJ r uF false w1 → mv w1 0 53 ≤ mv w 0 53 → mSg k.toInt w1 → rc_AB p l e s m [Value.ref q].toArray below meth c 2 D w (MQ below (rc_Q D w s.heap.size (fun ov w' => mQb KK κ ad r uF t w ov w')) [Value.ref q].toArray s 0 0 (va_A w s.heap.size)) d (23, V, [], w1) := by
      intro N
      induction N with
      | zero =>
        intro V k w1 hN _ _ _ _ J1
        have hb := mJ_P J1
        omega
      | succ N ih =>
        intro V k w1 hN hV0 hV1 H1 F1 J1 hle hS
        have hb := mJ_P J1
        obtain ⟨u1, u2⟩ := J_uF J1
        have bA1 := bA H1
        have bZ1 := bZ H1
        have lhT := m_lohi (mz w1 0 8)
        have lhS := m_lohi (mz w1 39 (mv w1 0 53 - 1).toNat)
        have hk6 : 0 ≤ k.toInt ∧ k.toInt ≤ 6 := by
          rcases hS with h | ⟨h, -, -⟩ | ⟨h, h', -⟩
          · omega
          · omega
          · omega
        have st : ∀ (plo : Int) (rk x : rt_B), plo ≤ mv w1 0 53 → rt_okB [mv w1 0 53, mv w1 0 52, mv w1 28 r, mv w1 0 6, mv w1 0 8, k.toInt, mv w1 39 (mv w1 0 53 - 1).toNat, mv w1 38 (mv w1 0 53 - 1).toNat] [] rk k.toInt → rt_okB [mv w1 0 53, mv w1 0 52, mv w1 28 r, mv w1 0 6, mv w1 0 8, k.toInt, mv w1 39 (mv w1 0 53 - 1).toNat, mv w1 38 (mv w1 0 53 - 1).toNat] [] x (mv w1 38 (mv w1 0 53 - 1).toNat) → rt_rl KK κ mK ad w1 (mF b) t (mS 23 32 0 [eB plo 89, eB 0 7, eB 0 40, eB 0 1600, eB mcB mcT, rk, eB mcB mcT, x] [79, 27, 37, 38] [some mM, some (tgI 6 0)] mb_Vl [] (mOB r (tgI 1 0) (tgI 2 0) (tgI 3 0) ++ mb_ol ++ mb_ow)) (23, mV20 [some (.ref q), some (.int k)] [some (.int (mz w1 0 53)), some (.int (mz w1 0 52)), some (.int (mz w1 28 r)), some (.int (mz w1 0 6)), some (.int (mz w1 0 8)), some (.int k), some (.int (mz w1 39 (mv w1 0 53 - 1).toNat))], [], w1) := fun plo rk x c1 c2 c3 => m_start (S := mS 23 32 0 [eB plo 89, eB 0 7, eB 0 40, eB 0 1600, eB mcB mcT, rk, eB mcB mcT, x] [79, 27, 37, 38] [some mM, some (tgI 6 0)] mb_Vl [] (mOB r (tgI 1 0) (tgI 2 0) (tgI 3 0) ++ mb_ol ++ mb_ow)) (cs := [0, 28, 38, 39]) (τ := [mv w1 0 53, mv w1 0 52, mv w1 28 r, mv w1 0 6, mv w1 0 8, k.toInt, mv w1 39 (mv w1 0 53 - 1).toNat, mv w1 38 (mv w1 0 53 - 1).toNat]) (mHp_hp H1) rfl (by decide) rfl ⟨m_okB c1 (show _ ≤ (89 : Int) by omega) (Or.inl rfl), m_okB (show (0 : Int) ≤ _ by omega) (show _ ≤ (7 : Int) by omega) (Or.inl rfl), m_okB (show (0 : Int) ≤ _ by omega) (show _ ≤ (40 : Int) by omega) (Or.inl rfl), m_okB (show (0 : Int) ≤ _ by omega) (show _ ≤ (1600 : Int) by omega) (Or.inl rfl), m_okB lhT.1 lhT.2 (Or.inl rfl), c2, m_okB lhS.1 lhS.2 (Or.inl rfl), c3, trivial⟩ (m_lo20 rfl (by decide) ⟨⟨_, rfl, 0, q, rfl, rfl, hq, rfl⟩, ⟨_, rfl, _, rfl, m_gI rfl⟩, trivial⟩ ⟨⟨_, rfl, _, rfl, m_gI rfl⟩, ⟨_, rfl, _, rfl, m_gI rfl⟩, ⟨_, rfl, _, rfl, m_gI rfl⟩, ⟨_, rfl, _, rfl, m_gI rfl⟩, ⟨_, rfl, _, rfl, m_gI rfl⟩, ⟨_, rfl, _, rfl, m_gI rfl⟩, ⟨_, rfl, _, rfl, m_gI rfl⟩, trivial⟩) trivial (m_ovOB (ov := mb_ol ++ mb_ow) hok hr (m_gI rfl) (m_gI rfl) (m_gI rfl) ⟨m_ovF (f := 6) rfl tyA (m_gI rfl), m_ovF (f := 8) rfl tyT (m_gI rfl), ⟨rfl, 38, 48, rfl, rfl, rfl, mp_at hok (i := 3) rfl⟩, ⟨rfl, 39, 49, rfl, rfl, rfl, mp_at hok (i := 4) rfl⟩, m_ovT (j := 2) (c := 38) (b := mv w1 0 53) rfl rfl (mv w1 0 53 - 1).toNat (by omega) (m_exA (mp_at hok (i := 9) rfl) (by omega)) (m_gI rfl), m_ovT (j := 3) (c := 39) (b := mv w1 0 53) rfl rfl (mv w1 0 53 - 1).toNat (by omega) (m_exA (mp_at hok (i := 10) rfl) (by omega)) (m_gI rfl), trivial⟩)
        have pop : ∀ (xlo xhi dw : Int), mb_run KK MX CS SP n d true (rt_tgl 3 SW [mb_TP r dw]) rt_kf2 (mb_L r (eB 0 6) (eR xlo xhi 6 0)) = true → 2 ≤ mv w1 0 53 → xlo ≤ mv w1 38 (mv w1 0 53 - 1).toNat → mv w1 38 (mv w1 0 53 - 1).toNat ≤ xhi → k.toInt ≤ mv w1 38 (mv w1 0 53 - 1).toNat → ¬ mv w1 38 (mv w1 0 53 - 1).toNat = 7 → ((mv w1 38 (mv w1 0 53 - 1).toNat = 3 ∧ dw = -1) ∨ (¬ mv w1 38 (mv w1 0 53 - 1).toNat = 3 ∧ dw = 0)) → rc_AB p l e s m [Value.ref q].toArray below meth c 2 D w (MQ below (rc_Q D w s.heap.size (fun ov w' => mQb KK κ ad r uF t w ov w')) [Value.ref q].toArray s 0 0 (va_A w s.heap.size)) d (23, V, [], w1) := by
          intro xlo xhi dw hrn p2 x1 x2 x3 x7 hdw
          refine rc_At_loc (V := mV20 [some (.ref q), some (.int k)] [some (.int (mz w1 0 53)), some (.int (mz w1 0 52)), some (.int (mz w1 28 r)), some (.int (mz w1 0 6)), some (.int (mz w1 0 8)), some (.int k), some (.int (mz w1 39 (mv w1 0 53 - 1).toNat))]) (m_loc (Nat.le_of_ble_eq_true rfl) (m_loc2 hV0 hV1)) ?_
          refine hrun d 181 [11, 23, 98, 104, 138] true _ _ _ hrn (by omega) _ _ 2 _ em (by decide) p e s m _ below meth c w B _ hh.1 w1 t _ (st 2 _ _ p2 (m_okB (show (0 : Int) ≤ _ by omega) (show _ ≤ (6 : Int) by omega) (Or.inl rfl)) (m_okB x1 x2 (Or.inr ⟨k.toInt, rfl, by omega⟩))) (fun S' b' z1 z2 z3 => ?_) (fun v S' b' ov hf => by cases hf)
          obtain ⟨hl3, tg, htg, hat⟩ := rt_tgl_ok hSW z1 z2
          rw [List.mem_singleton.mp htg] at hat
          obtain ⟨τ, ν, lm, hpc, g2, g3, gs, ga, gg, go⟩ := m_end hat (by decide) (by decide) (by omega)
          have hgh : ∀ (i : Nat) (v : Value), b'.2.1[20 + i]? = some (some v) → [some (Value.int (mz w1 0 53)), some (Value.int (mz w1 0 52)), some (Value.int (mz w1 28 r)), some (Value.int (mz w1 0 6)), some (Value.int (mz w1 0 8)), some (Value.int k), some (Value.int (mz w1 39 (mv w1 0 53 - 1).toNat))][i]? = some (some v) := fun i v h => m_ghost z3 rfl (Nat.le_of_ble_eq_true rfl) h
          obtain ⟨f53, f52, f28, -⟩ := m_pwu (pz := mz w1 0 53) (wz := mz w1 0 52) (uz := mz w1 28 r) hcx.2 g2.1 g3 gg go hgh rfl rfl rfl rfl rfl rfl rfl rfl rfl rfl rfl rfl
          have f53 : mv b'.2.2.2 0 53 = mv w1 0 53 + -1 := f53
          have f52 : mv b'.2.2.2 0 52 = mv w1 0 52 + dw := f52
          have f28 : mv b'.2.2.2 28 r = mv w1 28 r + 0 := f28
          obtain ⟨f6, -, -⟩ := m_gv (z := mz w1 0 6) (k := 4) (j := 0) (f := 6) (c := 0) hcx.2 g2.1 g3 gg go hgh 3 rfl rfl rfl rfl rfl rfl
          obtain ⟨f8, -, -⟩ := m_gv (z := mz w1 0 8) (k := 5) (j := 0) (f := 8) (c := 0) hcx.2 g2.1 g3 gg go hgh 4 rfl rfl rfl rfl rfl rfl
          have f6 : mv b'.2.2.2 0 6 = mv w1 0 6 + 0 := f6
          have f8 : mv b'.2.2.2 0 8 = mv w1 0 8 + 0 := f8
          obtain ⟨ek, -, -⟩ := m_gb (z := k) g3 gg hgh 5 rfl rfl rfl
          obtain ⟨es, -, -⟩ := m_gb (z := mz w1 39 (mv w1 0 53 - 1).toNat) g3 gg hgh 6 rfl rfl rfl
          obtain ⟨v0, y0, c0⟩ := gs 0 _ rfl
          obtain ⟨nz, rfl, n1, n2⟩ := m_cv c0
          obtain ⟨v1, y1, c1⟩ := gs 1 _ rfl
          obtain ⟨cz, rfl, c1⟩ := m_tgv c1 es
          obtain ⟨v2, y2, c2⟩ := gs 2 _ rfl
          have := m_this hq c2
          subst this
          obtain ⟨v3, y3, c3⟩ := ga 0 _ rfl
          have := m_this hq c3
          subst this
          obtain ⟨v4, y4, c4⟩ := ga 1 _ rfl
          obtain ⟨k', rfl, c4⟩ := m_tgv c4 ek
          have : k' = k := Int32.toInt_inj.mp (by omega)
          subst this
          obtain ⟨R1, R2, ⟨R3, R4, R5, R6⟩, R7, R8⟩ := mp_run (uF := uF) hok (by omega) g2
          have R1' : mHp KK κ ad t b'.2.2.2 := mHp_mono R1 (by omega)
          obtain ⟨P1, P2, P3, P4, P5, P6⟩ := mp_emit (uF := uF) hok hr R1' (by omega) (by omega) (by omega) cz nz
          rw [m_eta (hpc.resolve_left (by decide)) (m_three hl3 y0 y1 y2)]
          refine m_callE B hok (by omega) r98 hq R1' (by omega) (by omega) ?_
          refine m_wp (a := (101, b'.2.1, [], mPsh 36 37 51 cz nz b'.2.2.2)) B em (by omega) (r := (.goto (-78), 3, 23, 0, 0)) r101 (fun h => by cases h) ?_
          have g53 := P6 0 53 (by decide) (by decide) (fun q => by cases q.2)
          have g52 := P6 0 52 (by decide) (by decide) (fun q => by cases q.2)
          have g28 := P6 28 r (by decide) (by decide) (fun q => by cases q.1)
          rw [R6] at P4 P5
          refine ih b'.2.1 k' (mPsh 36 37 51 cz nz b'.2.2.2) (by omega) y3 y4 P1 (mFm_tr (mFm_tr F1 R2) P2) ?_ (by omega) ?_
          · refine J_pop hr J1 p2 (by omega) x7 ?_ (by omega) (by omega) (fun j hj hne => ?_) ?_ (fun j hj => ?_) (fun j hj => ?_)
            · rcases hdw with ⟨h3, hd⟩ | ⟨h3, hd⟩
              · exact Or.inl ⟨h3, by omega⟩
              · exact Or.inr ⟨h3, by omega⟩
            · rw [P5 j hne]
              exact R3 j hj
            · rw [P4]
              show cz.toInt = (mz w1 39 (mv w1 0 53 - 1).toNat).toInt
              omega
            · rw [P6 38 j (by decide) (by decide) (fun q => by cases q.1)]
              exact R4 j hj
            · rw [P6 39 j (by decide) (by decide) (fun q => by cases q.1)]
              exact R5 j hj
          · refine mSg_same (by omega) (by omega) ?_ ?_ ?_ (fun j hj => ?_) hS
            · rw [P6 0 6 (by decide) (by decide) (fun q => by cases q.2)]
              omega
            · rw [P6 0 8 (by decide) (by decide) (fun q => by cases q.2)]
              omega
            · rw [P6 0 3 (by decide) (by decide) (fun q => by cases q.2)]
              exact R8
            · rw [P6 2 j (by decide) (by decide) (fun q => by cases q.1)]
              exact R7 j hj
        have exit : ∀ (klo khi xlo xhi : Int), mb_run KK MX CS SP n d true (rt_tgl 0 SW [mb_TX r]) rt_kf2 (mb_LE r (eB klo khi) (eB xlo xhi)) = true → klo ≤ k.toInt → k.toInt ≤ khi → xlo ≤ mv w1 38 (mv w1 0 53 - 1).toNat → mv w1 38 (mv w1 0 53 - 1).toNat ≤ xhi → (k.toInt = 0 → 7 ≤ mv w1 38 (mv w1 0 53 - 1).toNat) → rc_AB p l e s m [Value.ref q].toArray below meth c 2 D w (MQ below (rc_Q D w s.heap.size (fun ov w' => mQb KK κ ad r uF t w ov w')) [Value.ref q].toArray s 0 0 (va_A w s.heap.size)) d (23, V, [], w1) := by
          intro klo khi xlo xhi hrn k1 k2 x1 x2 hx0
          refine rc_At_loc (V := mV20 [some (.ref q), some (.int k)] [some (.int (mz w1 0 53)), some (.int (mz w1 0 52)), some (.int (mz w1 28 r)), some (.int (mz w1 0 6)), some (.int (mz w1 0 8)), some (.int k), some (.int (mz w1 39 (mv w1 0 53 - 1).toNat))]) (m_loc (Nat.le_of_ble_eq_true rfl) (m_loc2 hV0 hV1)) ?_
          refine hrun d 181 [11, 23, 98, 104, 138] true _ _ _ hrn (by omega) _ _ 2 _ em (by decide) p e s m _ below meth c w B _ hh.1 w1 t _ (st 1 _ _ (by omega) (m_okB k1 k2 (Or.inl rfl)) (m_okB x1 x2 (Or.inl rfl))) (fun S' b' z1 z2 z3 => ?_) (fun v S' b' ov hf => by cases hf)
          obtain ⟨hl0, tg, htg, hat⟩ := rt_tgl_ok hSW z1 z2
          rw [List.mem_singleton.mp htg] at hat
          obtain ⟨τ, ν, lm, hpc, g2, g3, gs, ga, gg, go⟩ := m_end hat (by decide) (by decide) (by omega)
          have hgh : ∀ (i : Nat) (v : Value), b'.2.1[20 + i]? = some (some v) → [some (Value.int (mz w1 0 53)), some (Value.int (mz w1 0 52)), some (Value.int (mz w1 28 r)), some (Value.int (mz w1 0 6)), some (Value.int (mz w1 0 8)), some (Value.int k), some (Value.int (mz w1 39 (mv w1 0 53 - 1).toNat))][i]? = some (some v) := fun i v h => m_ghost z3 rfl (Nat.le_of_ble_eq_true rfl) h
          obtain ⟨f53, f52, f28, -⟩ := m_pwu (pz := mz w1 0 53) (wz := mz w1 0 52) (uz := mz w1 28 r) hcx.2 g2.1 g3 gg go hgh rfl rfl rfl rfl rfl rfl rfl rfl rfl rfl rfl rfl
          have f53 : mv b'.2.2.2 0 53 = mv w1 0 53 + 0 := f53
          have f52 : mv b'.2.2.2 0 52 = mv w1 0 52 + 0 := f52
          have f28 : mv b'.2.2.2 28 r = mv w1 28 r + 0 := f28
          obtain ⟨f6, -, -⟩ := m_gv (z := mz w1 0 6) (k := 4) (j := 0) (f := 6) (c := 0) hcx.2 g2.1 g3 gg go hgh 3 rfl rfl rfl rfl rfl rfl
          obtain ⟨f8, -, -⟩ := m_gv (z := mz w1 0 8) (k := 5) (j := 0) (f := 8) (c := 0) hcx.2 g2.1 g3 gg go hgh 4 rfl rfl rfl rfl rfl rfl
          have f6 : mv b'.2.2.2 0 6 = mv w1 0 6 + 0 := f6
          have f8 : mv b'.2.2.2 0 8 = mv w1 0 8 + 0 := f8
          obtain ⟨ek, -, -⟩ := m_gb (z := k) g3 gg hgh 5 rfl rfl rfl
          obtain ⟨v3, y3, c3⟩ := ga 0 _ rfl
          have := m_this hq c3
          subst this
          obtain ⟨v4, y4, c4⟩ := ga 1 _ rfl
          obtain ⟨k', rfl, c4⟩ := m_tgv c4 ek
          have : k' = k := Int32.toInt_inj.mp (by omega)
          subst this
          obtain ⟨R1, R2, R3, R7, R8⟩ := mp_run (uF := uF) hok (by omega) g2
          have R1' : mHp KK κ ad t b'.2.2.2 := mHp_mono R1 (by omega)
          have e53 : mv b'.2.2.2 0 53 = mv w1 0 53 := by omega
          have hst : b'.2.2.1 = [] := List.length_eq_zero_iff.mp hl0
          have hfin := out b'.2.1 k' b'.2.2.2 y3 y4 R1' (mFm_tr F1 R2) (mJ_same hr J1 R3 (by omega) (by omega) (by omega)) (by omega) (mSg_same (by omega) (by omega) (by omega) (by omega) R8 R7 hS) (fun h0 => by rw [e53, R3.2.1 _ (by omega)]; exact hx0 h0)
          rw [m_eta (hpc.resolve_left (by decide)) hst]
          exact hfin
        have lo8 : 1 ≤ mv w1 38 (mv w1 0 53 - 1).toNat ∧ mv w1 38 (mv w1 0 53 - 1).toNat ≤ 8 := by
          rcases J_top J1 with ⟨-, h⟩ | ⟨-, h1, h2, -⟩
          · omega
          · omega
        have hp2 : mv w1 38 (mv w1 0 53 - 1).toNat ≤ 7 → 2 ≤ mv w1 0 53 := fun h => by
          rcases J_top J1 with ⟨-, h⟩ | ⟨h1, -⟩
          · omega
          · exact h1
        rcases (show 7 ≤ mv w1 38 (mv w1 0 53 - 1).toNat ∨ (mv w1 38 (mv w1 0 53 - 1).toNat ≤ 6 ∧ k.toInt ≤ mv w1 38 (mv w1 0 53 - 1).toNat) ∨ (mv w1 38 (mv w1 0 53 - 1).toNat ≤ 6 ∧ mv w1 38 (mv w1 0 53 - 1).toNat < k.toInt) by omega) with h7 | ⟨h6, hkx⟩ | ⟨h6, hkx⟩
        · exact exit 0 6 7 8 (mb_at hk (i := 6) rfl) (by omega) (by omega) h7 (by omega) (fun _ => h7)
        · rcases (show mv w1 38 (mv w1 0 53 - 1).toNat ≤ 2 ∨ mv w1 38 (mv w1 0 53 - 1).toNat = 3 ∨ 4 ≤ mv w1 38 (mv w1 0 53 - 1).toNat by omega) with h | h | h
          · exact pop 1 2 0 (mb_at hk (i := 3) rfl) (hp2 (by omega)) (by omega) h hkx (by omega) (Or.inr ⟨by omega, rfl⟩)
          · exact pop 3 3 (-1) (mb_at hk (i := 5) rfl) (hp2 (by omega)) (by omega) (by omega) hkx (by omega) (Or.inl ⟨h, rfl⟩)
          · exact pop 4 6 0 (mb_at hk (i := 4) rfl) (hp2 (by omega)) h h6 hkx (by omega) (Or.inr ⟨by omega, rfl⟩)
        · have lhX := (m_lohi (mz w1 38 (mv w1 0 53 - 1).toNat)).1
          rcases hS with h | ⟨h | h, -, -⟩ | ⟨ha, hb', -⟩
          · omega
          · omega
          · exact exit 2 2 mcB 1 (mb_at hk (i := 8) rfl) (by omega) (by omega) lhX (by omega) (fun h0 => by omega)
          · rcases (show k.toInt = 4 ∨ k.toInt = 5 ∨ k.toInt = 6 by omega) with h | h | h
            · exact exit 4 4 mcB 3 (mb_at hk (i := 9) rfl) (by omega) (by omega) lhX (by omega) (fun h0 => by omega)
            · exact exit 5 5 mcB 4 (mb_at hk (i := 10) rfl) (by omega) (by omega) lhX (by omega) (fun h0 => by omega)
            · exact exit 6 6 mcB 5 (mb_at hk (i := 11) rfl) (by omega) (by omega) lhX (by omega) (fun h0 => by omega)
    have toL : ∀ (b' : rc_C) (k : Int32), b'.1 = 23 → b'.2.2.1 = [] → b'.2.1[0]? = some (some (.ref q)) → b'.2.1[1]? = some (some (.int k)) → rt_hp KK κ mK ad w (mF b) t 32 0 b'.2.2.2 → mv b'.2.2.2 0 53 = mv w 0 53 + 0 → mv b'.2.2.2 0 52 = mv w 0 52 + 0 → mv b'.2.2.2 28 r = mv w 28 r + 0 → mSg k.toInt b'.2.2.2 → rc_AB p l e s m [Value.ref q].toArray below meth c 2 D w (MQ below (rc_Q D w s.heap.size (fun ov w' => mQb KK κ ad r uF t w ov w')) [Value.ref q].toArray s 0 0 (va_A w s.heap.size)) d b' := by
      intro b' k hpc hst hV0 hV1 g2 f53 f52 f28 hS
      obtain ⟨R1, R2, R3, R7, R8⟩ := mp_run (uF := uF) hok (by omega) g2
      have R1' : mHp KK κ ad t b'.2.2.2 := mHp_mono R1 (by omega)
      rw [m_eta hpc hst]
      exact loop _ b'.2.1 k b'.2.2.2 (Nat.le_refl _) hV0 hV1 R1' R2 (mJ_same hr hJ R3 (by omega) (by omega) (by omega)) (by omega) hS
    have bA0 := bA hh
    have bZ0 := bZ hh
    have e255 : (255 : Int32).toInt = 255 := by decide
    have sgb := rt_and_le (u := mz w 2 (mv w 0 6).toNat) (v := 255) (by decide)
    have s0 : 0 ≤ (mSgv w).toInt := sgb.1
    have s255 : (mSgv w).toInt ≤ 255 := by
      have h2 : (mSgv w).toInt ≤ (255 : Int32).toInt := sgb.2
      omega
    have lh := m_lohi (mz w 2 (mv w 0 6).toNat)
    -- rank 0, 1, 2
    have end0 : ∀ (b' : rc_C) (Gh : List (Option Value)), b'.2.2.1.length = 0 → (∀ (i : Nat) (v : Value), b'.2.1[20 + i]? = some (some v) → Gh[i]? = some (some v)) → Gh[0]? = some (some (.int (mz w 0 53))) → Gh[1]? = some (some (.int (mz w 0 52))) → Gh[2]? = some (some (.int (mz w 28 r))) → rt_atT KK κ mK ad w (mF b) t (mb_T0 r) b' → rc_AB p l e s m [Value.ref q].toArray below meth c 2 D w (MQ below (rc_Q D w s.heap.size (fun ov w' => mQb KK κ ad r uF t w ov w')) [Value.ref q].toArray s 0 0 (va_A w s.heap.size)) d b' := by
      intro b' Gh hl0 hgh v1 v2 v3 hat
      obtain ⟨τ, ν, lm, hpc, g2, g3, gs, ga, gg, go⟩ := m_end hat (by decide) (by decide) (by omega)
      obtain ⟨f53, f52, f28, -⟩ := m_pwu (pz := mz w 0 53) (wz := mz w 0 52) (uz := mz w 28 r) hcx.2 g2.1 g3 gg go hgh rfl rfl rfl v1 v2 v3 rfl rfl rfl rfl rfl rfl
      obtain ⟨v0, y0, c0⟩ := ga 0 _ rfl
      have := m_this hq c0
      subst this
      obtain ⟨v1', y1, c1⟩ := ga 1 _ rfl
      obtain ⟨k, rfl, k1, k2⟩ := m_cv c1
      exact toL b' k (hpc.resolve_left (by decide)) (List.length_eq_zero_iff.mp hl0) y0 y1 g2 f53 f52 f28 (Or.inl (by omega))
    have end1 : ∀ (b' : rc_C) (Gh : List (Option Value)), b'.2.2.1.length = 0 → (∀ (i : Nat) (v : Value), b'.2.1[20 + i]? = some (some v) → Gh[i]? = some (some v)) → Gh[0]? = some (some (.int (mz w 0 53))) → Gh[1]? = some (some (.int (mz w 0 52))) → Gh[2]? = some (some (.int (mz w 28 r))) → rt_atT KK κ mK ad w (mF b) t (mb_T1 r) b' → rc_AB p l e s m [Value.ref q].toArray below meth c 2 D w (MQ below (rc_Q D w s.heap.size (fun ov w' => mQb KK κ ad r uF t w ov w')) [Value.ref q].toArray s 0 0 (va_A w s.heap.size)) d b' := by
      intro b' Gh hl0 hgh v1 v2 v3 hat
      obtain ⟨τ, ν, lm, hpc, g2, g3, gs, ga, gg, go⟩ := m_end hat (by decide) (by decide) (by omega)
      obtain ⟨f53, f52, f28, -⟩ := m_pwu (pz := mz w 0 53) (wz := mz w 0 52) (uz := mz w 28 r) hcx.2 g2.1 g3 gg go hgh rfl rfl rfl v1 v2 v3 rfl rfl rfl rfl rfl rfl
      obtain ⟨v0, y0, c0⟩ := ga 0 _ rfl
      have := m_this hq c0
      subst this
      obtain ⟨v1', y1, c1⟩ := ga 1 _ rfl
      obtain ⟨k, rfl, k1, k2⟩ := m_cv c1
      have f8 := rt_gI_0.mp (m_ov hcx.2 g2.1 g3.2.1 go (j := 0) (c := 0) (f := 8) (i := 4) rfl rfl rfl)
      exact toL b' k (hpc.resolve_left (by decide)) (List.length_eq_zero_iff.mp hl0) y0 y1 g2 f53 f52 f28 (Or.inr (Or.inl ⟨by omega, f8.1, f8.2⟩))
    by_cases has : mv w 0 6 < mv w 0 3
    · have end4 : ∀ (b' : rc_C) (pc : Nat) (sk : List (Option rt_V)) (k1 k2 : Int), sk.length ≤ 8 → b'.2.2.1.length ≤ 8 → ¬ pc = 0 → (∀ (i : Nat) (v : Value), b'.2.1[20 + i]? = some (some v) → [some (Value.int (mz w 0 53)), some (Value.int (mz w 0 52)), some (Value.int (mz w 28 r)), some (Value.int (mz w 0 6)), some (Value.int (mSgv w))][i]? = some (some v)) → rt_atT KK κ mK ad w (mF b) t (mb_T4 r pc sk k1 k2) b' → 4 ≤ k1 → k2 ≤ 6 → ∃ k : Int32, b'.1 = pc ∧ b'.2.1[0]? = some (some (.ref q)) ∧ b'.2.1[1]? = some (some (.int k)) ∧ k1 ≤ k.toInt ∧ k.toInt ≤ k2 ∧ rt_hp KK κ mK ad w (mF b) t 32 0 b'.2.2.2 ∧ mv b'.2.2.2 0 53 = mv w 0 53 + 0 ∧ mv b'.2.2.2 0 52 = mv w 0 52 + 0 ∧ mv b'.2.2.2 28 r = mv w 28 r + 0 ∧ mSg k.toInt b'.2.2.2 := by
        intro b' pc sk k1 k2 h8 hb8 hpc0 hgh hat h4 h6
        obtain ⟨τ, ν, lm, hpc, g2, g3, gs, ga, gg, go⟩ := m_end hat h8 (Nat.le_of_ble_eq_true rfl) hb8
        obtain ⟨f53, f52, f28, -⟩ := m_pwu (pz := mz w 0 53) (wz := mz w 0 52) (uz := mz w 28 r) hcx.2 g2.1 g3 gg go hgh rfl rfl rfl rfl rfl rfl rfl rfl rfl rfl rfl rfl
        obtain ⟨f6, -, -⟩ := m_gv (z := mz w 0 6) (k := 5) (j := 0) (f := 6) (c := 0) hcx.2 g2.1 g3 gg go hgh 3 rfl rfl rfl rfl rfl rfl
        have f6 : mv b'.2.2.2 0 6 = mv w 0 6 + 0 := f6
        obtain ⟨-, sg1, sg2⟩ := m_gb (z := mSgv w) g3 gg hgh 4 rfl rfl rfl
        have sg1 : 42 ≤ (mSgv w).toInt := sg1
        have sg2 : (mSgv w).toInt ≤ 62 := sg2
        obtain ⟨v0, y0, c0⟩ := ga 0 _ rfl
        have := m_this hq c0
        subst this
        obtain ⟨v1', y1, c1⟩ := ga 1 _ rfl
        obtain ⟨k, rfl, k1', k2'⟩ := m_cv c1
        have f8 := rt_gI_0.mp (m_ov hcx.2 g2.1 g3.2.1 go (j := 0) (c := 0) (f := 8) (i := 4) rfl rfl rfl)
        obtain ⟨R1, R2, R3, R7, R8⟩ := mp_run (uF := uF) hok (by omega) g2
        have e : mSgv b'.2.2.2 = mSgv w := by
          unfold mSgv
          rw [show mv b'.2.2.2 0 6 = mv w 0 6 by omega, Int32.toInt_inj.mp (R7 (mv w 0 6).toNat (by omega))]
        exact ⟨k, hpc.resolve_left hpc0, y0, y1, k1', k2', g2, f53, f52, f28, Or.inr (Or.inr ⟨by omega, by omega, f8.1, f8.2, by omega, by rw [e]; exact sg1, by rw [e]; exact sg2⟩)⟩
      refine rc_At_loc (V := mV20 [some (.ref q)] [some (.int (mz w 0 53)), some (.int (mz w 0 52)), some (.int (mz w 28 r)), some (.int (mz w 0 6)), some (.int (mSgv w))]) (m_loc (Nat.le_of_ble_eq_true rfl) (m_loc1 rfl)) ?_
      refine hrun d 181 [11, 23, 98, 104, 138] false _ _ _ (mb_at hk (i := 0) rfl) (by omega) _ _ 2 _ em (by decide) p e s m _ below meth c w B _ hh.1 w t _ (m_start (S := mb_S r) (cs := [0, 28, 2]) (τ := [mv w 0 53, mv w 0 52, mv w 28 r, mv w 0 6, (mSgv w).toInt, mv w 0 3, mv w 2 (mv w 0 6).toNat]) (mHp_hp hh) rfl (by decide) rfl ⟨m_okB (show (1 : Int) ≤ _ by omega) (show _ ≤ (89 : Int) by omega) (Or.inl rfl), m_okB (show (0 : Int) ≤ _ by omega) (show _ ≤ (7 : Int) by omega) (Or.inl rfl), m_okB (show (0 : Int) ≤ _ by omega) (show _ ≤ (40 : Int) by omega) (Or.inl rfl), m_okB (show (0 : Int) ≤ _ by omega) (show _ ≤ (1599 : Int) by omega) (Or.inl rfl), okD rfl s0 s255, m_okB (show (1 : Int) ≤ _ by omega) (show _ ≤ (1600 : Int) by omega) (Or.inr ⟨mv w 0 6, rfl, by omega⟩), m_okB lh.1 lh.2 (Or.inl rfl), trivial⟩ (m_lo20 rfl (by decide) ⟨⟨_, rfl, 0, q, rfl, rfl, hq, rfl⟩, trivial⟩ ⟨⟨_, rfl, _, rfl, m_gI rfl⟩, ⟨_, rfl, _, rfl, m_gI rfl⟩, ⟨_, rfl, _, rfl, m_gI rfl⟩, ⟨_, rfl, _, rfl, m_gI rfl⟩, ⟨_, rfl, _, rfl, m_gI rfl⟩, trivial⟩) trivial (m_ovOB (ov := [(1, (0, 6), tgI 4 0), (1, (0, 3), tgI 6 0), (1, (0, 1), .inr (.inl (1, 3))), (3, (4, 0), tgI 7 0)]) hok hr (m_gI rfl) (m_gI rfl) (m_gI rfl) ⟨m_ovF (f := 6) rfl tyA (m_gI rfl), m_ovF (f := 3) rfl tyZ (m_gI rfl), ⟨rfl, 2, 1, rfl, rfl, rfl, mp_at hok (i := 6) rfl⟩, m_ovT (j := 2) (c := 2) (b := mv w 0 6) rfl rfl (mv w 0 6).toNat (by omega) (m_exA (mp_at hok (i := 12) rfl) (by omega)) (m_gI rfl), trivial⟩)) (fun S' b' z1 z2 z3 => ?_) (fun v S' b' ov hf => by cases hf)
      have hgh : ∀ (i : Nat) (v : Value), b'.2.1[20 + i]? = some (some v) → [some (Value.int (mz w 0 53)), some (Value.int (mz w 0 52)), some (Value.int (mz w 28 r)), some (Value.int (mz w 0 6)), some (Value.int (mSgv w))][i]? = some (some v) := fun i v h => m_ghost z3 rfl (Nat.le_of_ble_eq_true rfl) h
      have z1 : cond (rt_tgl 0 SW [mb_T0 r, mb_T1 r, mb_T4 r 23 [] 5 6] S') true (rt_tgl 1 SW [mb_T4 r 11 [some mM] 4 4] S') = true := z1
      cases hc : rt_tgl 0 SW [mb_T0 r, mb_T1 r, mb_T4 r 23 [] 5 6] S' with
      | true =>
        obtain ⟨hl0, tg, htg, hat⟩ := rt_tgl_ok hSW hc z2
        rcases List.mem_cons.mp htg with rfl | htg
        · exact end0 b' _ hl0 hgh rfl rfl rfl hat
        · rcases List.mem_cons.mp htg with rfl | htg
          · exact end1 b' _ hl0 hgh rfl rfl rfl hat
          · rw [List.mem_singleton.mp htg] at hat
            obtain ⟨k, hpc, y0, y1, -, -, g2, f53, f52, f28, hS⟩ := end4 b' 23 [] 5 6 (by decide) (by omega) (by decide) hgh hat (by decide) (by decide)
            exact toL b' k hpc (List.length_eq_zero_iff.mp hl0) y0 y1 g2 f53 f52 f28 hS
      | false =>
        rw [hc] at z1
        obtain ⟨hl1, tg, htg, hat⟩ := rt_tgl_ok hSW z1 z2
        rw [List.mem_singleton.mp htg] at hat
        obtain ⟨k, hpc, y0, y1, k4, k4', g2, f53, f52, f28, hS⟩ := end4 b' 11 [some mM] 4 4 (by decide) (by omega) (by decide) hgh hat (by decide) (by decide)
        obtain ⟨τ, ν, lm, -, -, -, gs, -, -, -⟩ := m_end hat (by decide) (by decide) (by omega)
        obtain ⟨v2, y2, c2⟩ := gs 0 _ rfl
        have := m_this hq c2
        subst this
        have hst : b'.2.2.1 = [.ref q] := by
          match hb : b'.2.2.1, hl1 with
          | [x], _ =>
            rw [hb] at y2
            cases y2
            rfl
        obtain ⟨R1, R2, R3, R7, R8⟩ := mp_run (uF := uF) hok (by omega) g2
        have R1' : mHp KK κ ad t b'.2.2.2 := mHp_mono R1 (by omega)
        have J1 := mJ_same hr hJ R3 (by omega) (by omega) (by omega)
        rw [m_eta hpc hst]
        obtain ⟨o, ho, ho2⟩ := mO12_ok (mp_at hok (i := 0) rfl)
        obtain ⟨q', vb, c1, c2', -⟩ := m_cell0 R1'.2.1 R1'.1 ho
        rw [hq] at c2'
        cases c2'
        rw [ho2] at c1
        refine rc_call B (a := (11, b'.2.1, [.ref q], b'.2.2.2)) (As := []) (rst := []) (qb := q) (kb := 0) (vb := vb) hd r11 rfl rfl (by decide) c1 (m_isCmp hcx hMC hMX hSW hmx hki hqk hd1 t) ⟨R1', by show 1 ≤ mv b'.2.2.2 0 53; omega, by show mv b'.2.2.2 0 53 ≤ 89; omega, J_0 J1, q, hq, rfl⟩ (fun ov ws' hQ _ => ?_)
        obtain ⟨⟨z, rfl, zz0, zz1⟩, hp25⟩ := hQ
        have hp25 : rt_hp KK κ mK ad b'.2.2.2 (mF b) t 25 0 ws' := hp25
        have hp32 : rt_hp KK κ mK ad b'.2.2.2 (mF b) t 32 0 ws' := (hMX 32 25 25 32 hmx).2.2 b'.2.2.2 t 0 0 b'.2.2.2 ws' (mHp_hp R1') (by rw [show t - ((0 : Nat) : Int) = t by omega]; exact hp25)
        obtain ⟨Q1, Q2, Q3, Q7, Q8⟩ := mp_run (uF := uF) hok (by omega) hp32
        have Q1' : mHp KK κ ad t ws' := mHp_mono Q1 (by omega)
        have q53 := mG_ok (mq_at hqk (i := 0) rfl) mE1_ok hp25.2.2.1
        have q52 := mG_ok (mq_at hqk (i := 1) rfl) mE1_ok hp25.2.2.1
        have q28 := mA_ok (mq_at hqk (i := 2) rfl) mE1_ok hp25.2.2.1 r hr
        have q6 := mG_ok (mq_at hqk (i := 3) rfl) mE1_ok hp25.2.2.1
        have q8 := mG_ok (mq_at hqk (i := 4) rfl) mE1_ok hp25.2.2.1
        have J2 := mJ_same hr J1 Q3 q53 q52 q28
        have bA2 := bA Q1'
        have hS4 : mSg k.toInt ws' := mSg_same (bA R1').1 (bZ R1').2 q6 q8 Q8 Q7 hS
        have tk : 1 ≤ mv ws' 0 8 ∧ mv ws' 0 8 ≤ 5 := by
          rcases hS4 with h | ⟨h, h1, h2⟩ | ⟨-, -, h1, h2, -⟩
          · omega
          · exact ⟨h1, h2⟩
          · exact ⟨h1, h2⟩
        show rc_AB p l e s m [Value.ref q].toArray below meth c 2 D w (MQ below (rc_Q D w s.heap.size (fun ov w' => mQb KK κ ad r uF t w ov w')) [Value.ref q].toArray s 0 0 (va_A w s.heap.size)) d (14, b'.2.1, [.int z], ws')
        refine rc_At_loc (V := mV20 [some (.ref q), some (.int k)] [some (.int (mz ws' 0 53)), some (.int (mz ws' 0 52)), some (.int (mz ws' 28 r)), some (.int (mz ws' 0 6)), some (.int (mz ws' 0 8))]) (m_loc (Nat.le_of_ble_eq_true rfl) (m_loc2 y0 y1)) ?_
        refine hrun d 181 [11, 23, 98, 104, 138] false _ _ _ (mb_at hk (i := 2) rfl) (by omega) _ _ 2 _ em (by decide) p e s m _ below meth c w B _ hh.1 ws' t _ (m_start (S := mb_Sz r) (cs := [0, 28]) (τ := [mv ws' 0 53, mv ws' 0 52, mv ws' 28 r, mv ws' 0 6, mv ws' 0 8]) (mHp_hp Q1') rfl (by decide) rfl ⟨m_okB (show (1 : Int) ≤ _ by omega) (show _ ≤ (89 : Int) by omega) (Or.inl rfl), m_okB (show (0 : Int) ≤ _ by omega) (show _ ≤ (7 : Int) by omega) (Or.inl rfl), m_okB (show (0 : Int) ≤ _ by omega) (show _ ≤ (40 : Int) by omega) (Or.inl rfl), m_okB (show (0 : Int) ≤ _ by omega) (show _ ≤ (1600 : Int) by omega) (Or.inl rfl), m_okB (show (1 : Int) ≤ _ by omega) (show _ ≤ (5 : Int) by omega) (Or.inl rfl), trivial⟩ (m_lo20 rfl (by decide) ⟨⟨_, rfl, 0, q, rfl, rfl, hq, rfl⟩, ⟨_, rfl, k, rfl, rt_gI_0.mpr ⟨by omega, by omega⟩⟩, trivial⟩ ⟨⟨_, rfl, _, rfl, m_gI rfl⟩, ⟨_, rfl, _, rfl, m_gI rfl⟩, ⟨_, rfl, _, rfl, m_gI rfl⟩, ⟨_, rfl, _, rfl, m_gI rfl⟩, ⟨_, rfl, _, rfl, m_gI rfl⟩, trivial⟩) ⟨⟨z, rfl, rt_gI_0.mpr ⟨zz0, zz1⟩⟩, trivial⟩ (m_ovOB (ov := [(1, (0, 6), tgI 4 0), (1, (0, 8), tgI 5 0)]) hok hr (m_gI rfl) (m_gI rfl) (m_gI rfl) ⟨m_ovF (f := 6) rfl tyA (m_gI rfl), m_ovF (f := 8) rfl tyT (m_gI rfl), trivial⟩)) (fun S'' b'' x1 x2 x3 => ?_) (fun v S'' b'' ov x1 _ x2 x3 x4 => ?_)
        · obtain ⟨hl0, tg, htg, hat⟩ := rt_tgl_ok hSW x1 x2
          rw [List.mem_singleton.mp htg] at hat
          obtain ⟨τ, ν, lm, hpc, g2', g3, gs, ga, gg, go⟩ := m_end hat (by decide) (by decide) (by omega)
          have hgh' : ∀ (i : Nat) (v : Value), b''.2.1[20 + i]? = some (some v) → [some (Value.int (mz ws' 0 53)), some (Value.int (mz ws' 0 52)), some (Value.int (mz ws' 28 r)), some (Value.int (mz ws' 0 6)), some (Value.int (mz ws' 0 8))][i]? = some (some v) := fun i v h => m_ghost x3 rfl (Nat.le_of_ble_eq_true rfl) h
          obtain ⟨h53, h52, h28, -⟩ := m_pwu (pz := mz ws' 0 53) (wz := mz ws' 0 52) (uz := mz ws' 28 r) hcx.2 g2'.1 g3 gg go hgh' rfl rfl rfl rfl rfl rfl rfl rfl rfl rfl rfl rfl
          have h53 : mv b''.2.2.2 0 53 = mv ws' 0 53 + 0 := h53
          have h52 : mv b''.2.2.2 0 52 = mv ws' 0 52 + 0 := h52
          have h28 : mv b''.2.2.2 28 r = mv ws' 28 r + 0 := h28
          obtain ⟨h6, -, -⟩ := m_gv (z := mz ws' 0 6) (k := 4) (j := 0) (f := 6) (c := 0) hcx.2 g2'.1 g3 gg go hgh' 3 rfl rfl rfl rfl rfl rfl
          have h6 : mv b''.2.2.2 0 6 = mv ws' 0 6 + 0 := h6
          obtain ⟨h8, -, -⟩ := m_gv (z := mz ws' 0 8) (k := 5) (j := 0) (f := 8) (c := 0) hcx.2 g2'.1 g3 gg go hgh' 4 rfl rfl rfl rfl rfl rfl
          have h8 : mv b''.2.2.2 0 8 = mv ws' 0 8 + 0 := h8
          obtain ⟨v0, w0, c0⟩ := ga 0 _ rfl
          have := m_this hq c0
          subst this
          obtain ⟨v1', w1, c1'⟩ := ga 1 _ rfl
          obtain ⟨k', rfl, kk1, kk2⟩ := m_cv c1'
          have : k' = k := Int32.toInt_inj.mp (by omega)
          subst this
          obtain ⟨T1, T2, T3, T7, T8⟩ := mp_run (uF := uF) hok (by omega) g2'
          have T1' : mHp KK κ ad t b''.2.2.2 := mHp_mono T1 (by omega)
          rw [m_eta (hpc.resolve_left (by decide)) (List.length_eq_zero_iff.mp hl0)]
          exact loop _ b''.2.1 k' b''.2.2.2 (Nat.le_refl _) w0 w1 T1' (mFm_tr (mFm_tr R2 Q2) T2) (mJ_same hr J2 T3 (by omega) (by omega) (by omega)) (by omega) (mSg_same (by omega) (bZ Q1').2 (by omega) (by omega) T8 T7 hS4)
        · cases v with
          | none => cases x1
          | some x =>
            obtain ⟨tg, htg, hat⟩ := rt_tgt_ok hSW (show rt_tgt SW [mb_Rz r] S'' = true from x1) x3
            rw [List.mem_singleton.mp htg] at hat
            obtain ⟨τ, ν, lm, -, g2', g3, gs, -, gg, go⟩ := m_end hat (by decide) (by decide) (m_ansL x2)
            obtain ⟨z', rfl, l1, l2⟩ := m_ans x2 gs rfl
            have hgh' : ∀ (i : Nat) (v : Value), b''.2.1[20 + i]? = some (some v) → [some (Value.int (mz ws' 0 53)), some (Value.int (mz ws' 0 52)), some (Value.int (mz ws' 28 r)), some (Value.int (mz ws' 0 6)), some (Value.int (mz ws' 0 8))][i]? = some (some v) := fun i v h => m_ghost x4 rfl (Nat.le_of_ble_eq_true rfl) h
            obtain ⟨h53, h52, h28, -⟩ := m_pwu (pz := mz ws' 0 53) (wz := mz ws' 0 52) (uz := mz ws' 28 r) hcx.2 g2'.1 g3 gg go hgh' rfl rfl rfl rfl rfl rfl rfl rfl rfl rfl rfl rfl
            have h28 : mv b''.2.2.2 28 r = mv ws' 28 r + 0 := h28
            obtain ⟨T1, T2, T3, T7, T8⟩ := mp_run (uF := uF) hok (by omega) g2'
            have f4 := rt_gI_0.mp (m_ov hcx.2 g2'.1 g3.2.1 go (j := 0) (c := 0) (f := 4) (i := 4) rfl rfl rfl)
            exact ⟨z', rfl, mFm_tr (mFm_tr R2 Q2) T2, Or.inr (Or.inr (Or.inr ⟨by omega, mHp_mono T1 (by omega), mD_same hr (mJ_D J2) T3 (by omega), f4.1⟩))⟩
    · refine rc_At_loc (V := mV20 [some (.ref q)] [some (.int (mz w 0 53)), some (.int (mz w 0 52)), some (.int (mz w 28 r)), some (.int (mz w 0 6))]) (m_loc (Nat.le_of_ble_eq_true rfl) (m_loc1 rfl)) ?_
      refine hrun d 181 [11, 23, 98, 104, 138] false _ _ _ (mb_at hk (i := 1) rfl) (by omega) _ _ 2 _ em (by decide) p e s m _ below meth c w B _ hh.1 w t _ (m_start (S := mb_Sn r) (cs := [0, 28]) (τ := [mv w 0 53, mv w 0 52, mv w 28 r, mv w 0 3, mv w 0 6]) (mHp_hp hh) rfl (by decide) rfl ⟨m_okB (show (1 : Int) ≤ _ by omega) (show _ ≤ (89 : Int) by omega) (Or.inl rfl), m_okB (show (0 : Int) ≤ _ by omega) (show _ ≤ (7 : Int) by omega) (Or.inl rfl), m_okB (show (0 : Int) ≤ _ by omega) (show _ ≤ (40 : Int) by omega) (Or.inl rfl), m_okB (show (0 : Int) ≤ _ by omega) (show _ ≤ (1600 : Int) by omega) (Or.inl rfl), m_okB (show (0 : Int) ≤ _ by omega) (show _ ≤ (1600 : Int) by omega) (Or.inr ⟨mv w 0 3, rfl, by omega⟩), trivial⟩ (m_lo20 rfl (by decide) ⟨⟨_, rfl, 0, q, rfl, rfl, hq, rfl⟩, trivial⟩ ⟨⟨_, rfl, _, rfl, m_gI rfl⟩, ⟨_, rfl, _, rfl, m_gI rfl⟩, ⟨_, rfl, _, rfl, m_gI rfl⟩, ⟨_, rfl, _, rfl, m_gI rfl⟩, trivial⟩) trivial (m_ovOB (ov := [(1, (0, 6), tgI 5 0), (1, (0, 3), tgI 4 0)]) hok hr (m_gI rfl) (m_gI rfl) (m_gI rfl) ⟨m_ovF (f := 6) rfl tyA (m_gI rfl), m_ovF (f := 3) rfl tyZ (m_gI rfl), trivial⟩)) (fun S' b' z1 z2 z3 => ?_) (fun v S' b' ov hf => by cases hf)
      have hgh : ∀ (i : Nat) (v : Value), b'.2.1[20 + i]? = some (some v) → [some (Value.int (mz w 0 53)), some (Value.int (mz w 0 52)), some (Value.int (mz w 28 r)), some (Value.int (mz w 0 6))][i]? = some (some v) := fun i v h => m_ghost z3 rfl (Nat.le_of_ble_eq_true rfl) h
      obtain ⟨hl0, tg, htg, hat⟩ := rt_tgl_ok hSW z1 z2
      rcases List.mem_cons.mp htg with rfl | htg
      · exact end0 b' _ hl0 hgh rfl rfl rfl hat
      · rw [List.mem_singleton.mp htg] at hat
        exact end1 b' _ hl0 hgh rfl rfl rfl hat
end MBEH
