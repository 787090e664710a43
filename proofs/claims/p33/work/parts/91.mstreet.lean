/-! street -/
noncomputable def mt_L (KK : List (List rt_K)) (b : Nat) : List Bool := [mSx KK 37 KK 38 44 b, mEn KK 30 23, mEn KK 23 37, mRf KK 30 35 27, mRf KK 30 36 28, mBd KK 23 0 7 0 1600, mBd KK 23 0 3 0 1600, mFzB KK 30 b, mFzB KK 23 b, mFzB KK 34 b, mFzX KK 30, mFzX KK 23, mFzX KK 34, mBd KK 0 0 44 b b, mIn KK 37 0 44 0 1, mO12 KK 23, mO12 KK 37, mIn KK 38 0 3 0 1600, mEn KK 39 31, mFzB KK 39 b, mF1 KK 39 0 97, mFzX KK 0, mRf KK 39 98 65, mBd KK 38 0 3 0 1600]
def mLI (Kb : Nat → List (List rt_K)) (κ : Nat → ClassId) (ad : List Nat) (b nb n : Nat) (w0 w : va_W) : Prop := ri_ad w = ad ∧ rt_gH (Kb nb) 0 κ mK ad w ∧ rt_gH (Kb n) 23 κ mK ad w ∧ mP (1 - b) w ∧ mR b w ∧ mBox nb w ∧ mv w 0 97 = mv w0 0 97
def mQs (Kb Kr : Nat → List (List rt_K)) (κ : Nat → ClassId) (ad : List Nat) (b nb : Nat) (w : va_W) (ov : Option Value) (w' : va_W) : Prop := (∃ z : Int32, ov = some (.int z)) ∧ mv w' 0 97 = mv w 0 97 ∧ ((∃ n, n < 4 ∧ mInv Kb κ ad b nb n w') ∨ (∃ n, n < 4 ∧ mInv Kr κ ad (1 - b) n nb w'))
/-- what is known of a context -/
def mCtx (l : Launch) (D : va_G) (κ : Nat → ClassId) (ad : List Nat) (b d : Nat) (KK : List (List rt_K)) (MX : rt_X) (SW : rt_W) (CS : List rt_Co) (SP : rt_SP) : Prop := rt_ctx KK mK ad (mF b) ∧ rt_MCok l D κ SP.2 ∧ rt_MXok KK κ mK ad (mF b) MX ∧ rt_SWok KK κ mK ad (mF b) SW ∧ (∀ C ∈ CS, rt_Con l D KK κ mK ad (mF b) C) ∧ rt_all1 (fun b => b) (ms_L0 KK MX SW CS SP 3000 d (1 - b)) = true ∧ rt_all1 (fun b => b) (ms_L1 KK MX SW CS SP 3000 d) = true ∧ rt_all1 (fun b => b) (mt_L KK b) = true
section MSTR
variable {l : Launch} {D : va_G} {κ : Nat → ClassId} {ad : List Nat} {KK : List (List rt_K)} {b r d : Nat}
theorem m_at1 {L : List Bool} (h : rt_all1 (fun b => b) L = true) {i : Nat} {b : Bool} (hi : L[i]? = some b) : b = true := rt_all1_ok h b (List.mem_of_getElem? hi)
theorem m_tmb {w : va_W} (h7 : 0 ≤ mv w 0 7) (h3 : 0 ≤ mv w 0 3) : mTm w ≤ 3201 := by
  unfold mTm
  have hi : (if mv w 0 8 = 0 then (0 : Int) else 1) ≤ 1 := (m_ite _).1
  omega
set_option maxHeartbeats 8000000 in
theorem m_street {Kb Kr : Nat → List (List rt_K)} {Xb Xr : Nat → rt_X} {Wb Wr : Nat → rt_W} {Cb Cr : Nat → List rt_Co} {Sb Sr : Nat → rt_SP} (hb : b < 2) (hrb : r = 1 - b) (hd : 2 ≤ d) (hx : ∀ n, n < 4 → mCtx l D κ ad b d (Kb n) (Xb n) (Wb n) (Cb n) (Sb n)) (hy : ∀ n, n < 4 → mCtx l D κ ad r d (Kr n) (Xr n) (Wr n) (Cr n) (Sr n)) (h3 : ∀ nb n, nb < 4 → n < 4 → mG3 (Kb nb) 0 (Kb n) 30 (Kb nb) 0 = true ∧ mG3 (Kb nb) 0 (Kb n) 23 (Kb nb) 0 = true ∧ mG3 (Kb nb) 0 (Kb n) 34 (Kb nb) 0 = true) (h4 : ∀ n, n < 4 → mG3 (Kb n) 34 (Kb n) 34 (Kb (min (n + 1) 3)) 23 = true) (h5 : ∀ n, n < 4 → mG3 (Kb n) 0 (Kb n) 0 (Kr n) 37 = true) (h6 : ∀ n, n < 4 → mSx (Kb n) 37 (Kr n) 39 44 r = true) (h7 : ∀ nb n, nb < 4 → n < 4 → mG3 (Kr nb) 37 (Kr n) 39 (Kr nb) 37 = true ∧ mG3 (Kr nb) 37 (Kr n) 0 (Kr nb) 37 = true) {nb nr : Nat} (hnb : nb < 4) (hnr : nr < 4) (h44 : ∀ n, n < 4 → mIn (Kb n) 23 0 4 0 6 = true) : rc_Met l κ D d 283 (fun vs w => mInv Kb κ ad b nb nr w ∧ ∃ q : Nat, ad[0]? = some q ∧ vs = [.ref q]) (fun _ w ov w' => mQs Kb Kr κ ad b nb w ov w') := by
  have hr2 : r < 2 := by omega
  have em : mT[283]? = some (yX12_street, cX12_street, 2, some .int) := rfl
  have r109 : ri_fetch mt 283 109 = some (.putfield 386, 3, 12, 44, 0) := rfl
  refine rc_body (fun vs _ => mV20 (rc_en vs) []) ?_ ?_ ?_
  · rintro vs w ⟨-, q, -, rfl⟩
    exact m_loc (Nat.le_of_ble_eq_true rfl) (fun i v h => h)
  · rintro y cc nL ret hm vs w ⟨-, q, -, rfl⟩
    rw [em] at hm
    cases hm
    show 1 ≤ 2
    decide
  · rintro y cc nL ret hm w vs ⟨⟨had, hH0, hH37, hR, hBx⟩, q, hq, rfl⟩ p e s m below meth c B
    rw [em] at hm
    cases hm
    -- in the other bank
    have tail : ∀ (V : List (Option Value)) (n : Nat) (w2 : va_W), n < 4 → V[0]? = some (some (.ref q)) → ri_ad w2 = ad → rt_gH (Kr n) 39 κ mK ad w2 → rt_gH (Kr nb) 37 κ mK ad w2 → mR r w2 → mv w2 0 97 = mv w 0 97 → rc_AB p l e s m [Value.ref q].toArray below meth c 2 D w (MQ below (rc_Q D w s.heap.size (fun ov w' => mQs Kb Kr κ ad b nb w ov w')) [Value.ref q].toArray s 0 0 (va_A w s.heap.size)) d (112, V, [], w2) := by
      intro V n w2 hn hV had2 hH39 hH37' hR2 ht2
      obtain ⟨cx, mc, mx, sw, cs, -, L1, tL⟩ := hy n hn
      have hrun := rt_run_ok (SP := Sr n) cx mc mx cs 3000
      refine rc_At_loc (V := mV20 [some (.ref q)] []) (m_loc (Nat.le_of_ble_eq_true rfl) (m_loc1 hV)) ?_
      refine hrun d 283 mt_ck true _ _ _ (m_at1 L1 (i := 1) rfl) (by omega) _ _ 2 _ em (by decide) p e s m _ below meth c w B _ had w2 0 _ (m_start (S := ms_S7) (cs := [0]) (τ := []) ⟨had2, hH39, m_agR hH39, trivial⟩ rfl (by decide) rfl trivial (m_lo20 rfl (by decide) ⟨⟨_, rfl, 0, q, rfl, rfl, hq, rfl⟩, trivial⟩ trivial) trivial trivial) (fun S' b' z1 z2 z3 => ?_) (fun v S' b' ov hf => by cases hf)
      obtain ⟨hl1, tg, htg, hat⟩ := rt_tgl_ok sw z1 z2
      rw [List.mem_singleton.mp htg] at hat
      obtain ⟨τ, ν, lm, hpc, g2, g3, gs, ga, gg, go⟩ := m_end hat (by decide) (by decide) (by omega)
      obtain ⟨v0, y0, c0⟩ := ga 0 _ rfl
      have := m_this hq c0
      subst this
      obtain ⟨v1, y1, c1⟩ := gs 0 _ rfl
      have := m_this hq c1
      subst this
      have hst : b'.2.2.1 = [.ref q] := by
        match hb : b'.2.2.1, hl1 with
        | [x], _ =>
          rw [hb] at y1
          cases y1
          rfl
      have x0 := rt_gI_0.mp (m_O0 cx.2 g2.1 (j := 1) (i := 65) (f := 0) (x := (0, -1, -1)) g3.2.1 (go _ (List.mem_of_getElem? (i := 1) rfl)) rfl rfl)
      have x1 := rt_gI_0.mp (m_O0 cx.2 g2.1 (j := 1) (i := 65) (f := 1) (x := (0, -1, -1)) g3.2.1 (go _ (List.mem_of_getElem? (i := 2) rfl)) rfl rfl)
      have x2 := rt_gI_0.mp (m_O0 cx.2 g2.1 (j := 1) (i := 65) (f := 2) (x := (0, -1, -1)) g3.2.1 (go _ (List.mem_of_getElem? (i := 3) rfl)) rfl rfl)
      have x0 : -1 ≤ mv b'.2.2.2 65 0 ∧ mv b'.2.2.2 65 0 ≤ -1 := x0
      have x1 : -1 ≤ mv b'.2.2.2 65 1 ∧ mv b'.2.2.2 65 1 ≤ -1 := x1
      have x2 : -1 ≤ mv b'.2.2.2 65 2 ∧ mv b'.2.2.2 65 2 ≤ -1 := x2
      have Bx3 : mBox n b'.2.2.2 := fun q hq => by
        match q, hq with
        | 0, _ => exact Or.inl (by omega)
        | 1, _ => exact Or.inl (by omega)
        | 2, _ => exact Or.inl (by omega)
      have hH37'' := mG3_ok (h7 nb n hnb hn).1 hH37' g2.2.1 g2.2.2.1
      have hR3 := mR_fz (m_at1 tL (i := 19) rfl) g2.2.2.1 hR2
      have ht3 := mF1_ok (m_at1 tL (i := 20) rfl) g2.2.2.1
      have hH31 := mEn_ok (m_at1 tL (i := 18) rfl) g2.2.1 g2.1
      rw [m_eta (hpc.resolve_left (by decide)) hst]
      refine rc_At_loc (V := mV20 [some (.ref q)] []) (m_loc (Nat.le_of_ble_eq_true rfl) (m_loc1 y0)) ?_
      refine hrun d 283 mt_ck true _ _ _ (m_at1 L1 (i := 2) rfl) (by omega) _ _ 2 _ em (by decide) p e s m _ below meth c w B _ had b'.2.2.2 0 _ (m_start (S := ms_S8) (cs := [0]) (τ := []) ⟨g2.1, hH31, m_agR hH31, hR3⟩ rfl (by decide) rfl trivial (m_lo20 rfl (by decide) ⟨⟨_, rfl, 0, q, rfl, rfl, hq, rfl⟩, trivial⟩ trivial) ⟨⟨0, q, rfl, rfl, hq, rfl⟩, trivial⟩ trivial) (fun _ _ hf => by cases hf) (fun v S'' b'' ov x1' _ x2' x3' x4' => ?_)
      cases v with
      | none => cases x1'
      | some x =>
        obtain ⟨tg, htg, hat⟩ := rt_tgt_ok sw (show rt_tgt (Wr n) [ms_R8] S'' = true from x1') x3'
        rw [List.mem_singleton.mp htg] at hat
        obtain ⟨τ', ν', lm', -, g2', g3', gs', -, -, -⟩ := m_end hat (by decide) (by decide) (m_ansL x2')
        obtain ⟨z, rfl, -, -⟩ := m_ans x2' gs' rfl
        obtain ⟨bx, tm⟩ := mX_fz (n := n) (m_at1 tL (i := 21) rfl) g2'.2.2.1
        refine ⟨⟨z, rfl⟩, by omega, Or.inr ⟨n, hn, g2'.1, g2'.2.1, mG3_ok (h7 nb n hnb hn).2 hH37'' g2'.2.1 g2'.2.2.1, ?_, bx Bx3⟩⟩
        rw [← hrb]
        exact g2'.2.2.2
    -- behind the lines
    have at95 : ∀ (V : List (Option Value)) (n : Nat) (w1 : va_W), n < 4 → V[0]? = some (some (.ref q)) → mLI Kb κ ad b nb n w w1 → rc_AB p l e s m [Value.ref q].toArray below meth c 2 D w (MQ below (rc_Q D w s.heap.size (fun ov w' => mQs Kb Kr κ ad b nb w ov w')) [Value.ref q].toArray s 0 0 (va_A w s.heap.size)) d (95, V, [], w1) := by
      intro V n w1 hn hV ⟨a1, a2, a3, a4, a5, a6, a7⟩
      obtain ⟨cx, mc, mx, sw, cs, L0, -, tL⟩ := hx n hn
      have hrun := rt_run_ok (SP := Sb n) cx mc mx cs 3000
      have b7 := mBd_v a3 (m_at1 tL (i := 5) rfl)
      have b3 := mBd_v a3 (m_at1 tL (i := 6) rfl)
      refine rc_At_loc (V := mV20 [some (.ref q)] []) (m_loc (Nat.le_of_ble_eq_true rfl) (m_loc1 hV)) ?_
      have hh : rt_hp (Kb n) κ mK ad w1 (mF b) 3201 23 0 w1 := ⟨a1, a3, m_agR a3, a4, by show mTm w1 ≤ 3201 - ((0 : Nat) : Int); have := m_tmb b7.1 b3.1; omega⟩
      refine hrun d 283 mt_ck true _ _ _ (m_at1 L0 (i := 5) rfl) (by omega) _ _ 2 _ em (by decide) p e s m _ below meth c w B _ had w1 3201 _ (m_start (S := ms_S3 95) (cs := [0]) (τ := []) hh rfl (by decide) rfl trivial (m_lo20 rfl (by decide) ⟨⟨_, rfl, 0, q, rfl, rfl, hq, rfl⟩, trivial⟩ trivial) trivial trivial) (fun S' b' z1 z2 z3 => ?_) (fun v S' b' ov z1 _ z2 z3 z4 => ?_)
      · obtain ⟨hl2, tg, htg, hat⟩ := rt_tgl_ok sw z1 z2
        rw [List.mem_singleton.mp htg] at hat
        obtain ⟨τ, ν, lm, hpc, g2, g3, gs, ga, gg, go⟩ := m_end hat (Nat.le_of_ble_eq_true rfl) (by decide) (by omega)
        obtain ⟨v0, y0, c0⟩ := ga 0 _ rfl
        have := m_this hq c0
        subst this
        obtain ⟨v1, y1, c1⟩ := gs 0 _ rfl
        obtain ⟨z, rfl, e1, e2⟩ := m_cv c1
        obtain ⟨v2, y2, c2⟩ := gs 1 _ rfl
        have := m_this hq c2
        subst this
        have hst : b'.2.2.1 = [.int z, .ref q] := by
          match hb : b'.2.2.1, hl2 with
          | [x, x'], _ =>
            rw [hb] at y1 y2
            cases y1
            cases y2
            rfl
        have hz : z.toInt = r := by omega
        have c0 := mG3_ok (h3 nb n hnb hn).2.1 a2 g2.2.1 g2.2.2.1
        have c37 := mEn_ok (m_at1 tL (i := 2) rfl) g2.2.1 g2.1
        have cr37 := mG3_ok (h5 nb hnb) c0 c0 (m_agR c0)
        have tm := (mX_fz (n := nb) (m_at1 tL (i := 11) rfl) g2.2.2.1).2
        have hPr : mP r b'.2.2.2 := by
          rw [hrb]
          exact g2.2.2.2.1
        obtain ⟨o, ho, ho2⟩ := mO12_ok (m_at1 tL (i := 16) rfl)
        obtain ⟨aB, hB1, hB2, hB3⟩ := mIn_ok (m_at1 tL (i := 14) rfl)
        obtain ⟨u1, u2, u3, -⟩ := m_putF (z := z) c37 g2.1 ho hB1 (by omega) (by omega)
        obtain ⟨oR, hoR, -⟩ := mO12_ok (m_at1 (hy nb hnb).2.2.2.2.2.2.2 (i := 16) rfl)
        obtain ⟨aR, hR1, hR2', hR3'⟩ := mIn_ok (m_at1 (hy nb hnb).2.2.2.2.2.2.2 (i := 14) rfl)
        obtain ⟨w1', -, -, -⟩ := m_putF (z := z) cr37 g2.1 hoR hR1 (by omega) (by omega)
        obtain ⟨q', vb, e1', e2', e3'⟩ := m_cell0 c37 g2.1 ho
        rw [hq] at e2'
        cases e2'
        rw [ho2] at e1'
        rw [m_eta (hpc.resolve_left (by decide)) hst]
        have hlen : 44 < vb.length := by
          obtain ⟨q', e', k1, k2, -, -⟩ := m_int c37 hB1
          rw [e1'] at k1
          cases k1
          have k2 : vb[44]? = some (.int (mz b'.2.2.2 0 44)) := k2
          exact (List.getElem?_eq_some_iff.mp k2).1
        refine m_wp (a := (109, b'.2.1, [.int z, .ref q], b'.2.2.2)) B em (by omega) r109 (fun h => by cases h) (show rc_putf _ _ _ from ⟨q, 0, vb, .int z, [], rfl, e1', hlen, Or.inl ⟨rfl, _, rfl⟩, ?_⟩)
        have eP : b'.2.2.2.set 0 (q, .inr (12, vb.set 44 (.int z))) = mPutF b'.2.2.2 44 z := (mPutF_eq e1').symm
        show rc_AB p l e s m [Value.ref q].toArray below meth c 2 D w (MQ below (rc_Q D w s.heap.size (fun ov w' => mQs Kb Kr κ ad b nb w ov w')) [Value.ref q].toArray s 0 0 (va_A w s.heap.size)) d (112, b'.2.1, [], b'.2.2.2.set 0 (q, .inr (12, vb.set 44 (.int z))))
        rw [eP]
        have hbk : mv (mPutF b'.2.2.2 44 z) 0 44 = r := by
          rw [u3, if_pos ⟨rfl, rfl⟩]
          exact hz
        refine tail b'.2.1 n _ hn y0 u2 (mSx_ok (h6 n hn) hB1 u1 u2 hbk) w1' ?_ ?_
        · intro u hu hlt
          rw [u3, if_neg (fun q => by cases q.1)] at hlt
          obtain ⟨⟨q1, q2, q3, q4⟩, -⟩ := hPr.2.2.2.2 u hu hlt
          unfold mOkC
          rw [u3, if_neg (fun q => by cases q.1), u3, if_neg (fun q => by cases q.1)]
          refine ⟨q1, q2, q3, ?_⟩
          rw [hts_congr (g := fun k => mv b'.2.2.2 36 ((mv b'.2.2.2 33 (4 * r + u)).toNat + k))]
          · exact q4
          · intro k _
            show mv (mPutF b'.2.2.2 44 z) 36 _ = _
            rw [u3, if_neg (fun q => by cases q.1)]
        · rw [u3, if_neg (fun q => by cases q.2)]
          omega
      · cases v with
        | none => cases z1
        | some x =>
          obtain ⟨tg, htg, hat⟩ := rt_tgt_ok sw (show rt_tgt (Wb n) [ms_R5] S' = true from z1) z3
          rw [List.mem_singleton.mp htg] at hat
          obtain ⟨τ, ν, lm, -, g2, g3, gs, -, -, -⟩ := m_end hat (by decide) (by decide) (m_ansL z2)
          obtain ⟨z, rfl, -, -⟩ := m_ans z2 gs rfl
          obtain ⟨bx, tm⟩ := mX_fz (n := nb) (m_at1 tL (i := 11) rfl) g2.2.2.1
          exact ⟨⟨z, rfl⟩, by omega, Or.inl ⟨n, hn, g2.1, mG3_ok (h3 nb n hnb hn).2.1 a2 g2.2.1 g2.2.2.1, mEn_ok (m_at1 tL (i := 2) rfl) g2.2.1 g2.1, mR_fz (m_at1 tL (i := 8) rfl) g2.2.2.1 a5, bx a6⟩⟩
    -- the lines
    have step : ∀ {n g s_ : Nat} {w1 w2 : va_W} {t' : Int}, n < 4 → mLI Kb κ ad b nb n w w1 → (g = 23 ∨ g = 34) → rt_hp (Kb n) κ mK ad w1 (mF b) t' g s_ w2 → ∃ n', n' < 4 ∧ mLI Kb κ ad b nb n' w w2 ∧ mTm w2 ≤ t' - s_ := by
      intro n g s_ w1 w2 t' hn ⟨a1, a2, a3, a4, a5, a6, a7⟩ hg g2
      obtain ⟨cx, mc, mx, sw, cs, L0, -, tL⟩ := hx n hn
      rcases hg with rfl | rfl
      · obtain ⟨bx, tm⟩ := mX_fz (n := nb) (m_at1 tL (i := 11) rfl) g2.2.2.1
        exact ⟨n, hn, ⟨g2.1, mG3_ok (h3 nb n hnb hn).2.1 a2 g2.2.1 g2.2.2.1, g2.2.1, g2.2.2.2.1, mR_fz (m_at1 tL (i := 8) rfl) g2.2.2.1 a5, bx a6, by omega⟩, g2.2.2.2.2⟩
      · obtain ⟨bx, tm⟩ := mX_fz (n := nb) (m_at1 tL (i := 12) rfl) g2.2.2.1
        exact ⟨min (n + 1) 3, by omega, ⟨g2.1, mG3_ok (h3 nb n hnb hn).2.2 a2 g2.2.1 g2.2.2.1, mG3_ok (h4 n hn) g2.2.1 g2.2.1 (m_agR g2.2.1), g2.2.2.2.1, mR_fz (m_at1 tL (i := 9) rfl) g2.2.2.1 a5, bx a6, by omega⟩, g2.2.2.2.2⟩
    have hpL : ∀ {n : Nat} {w1 : va_W} {t' : Int}, mLI Kb κ ad b nb n w w1 → mTm w1 ≤ t' → rt_hp (Kb n) κ mK ad w1 (mF b) t' 23 0 w1 := fun {n w1 t'} ⟨a1, _, a3, a4, _, _, _⟩ ht => ⟨a1, a3, m_agR a3, a4, by show mTm w1 ≤ t' - ((0 : Nat) : Int); omega⟩
    have nn : ∀ {n : Nat} {w1 : va_W}, n < 4 → mLI Kb κ ad b nb n w w1 → 0 ≤ mTm w1 := by
      intro n w1 hn ⟨a1, a2, a3, a4, a5, a6, a7⟩
      have b7 := mBd_v a3 (m_at1 (hx n hn).2.2.2.2.2.2.2 (i := 5) rfl)
      have b3 := mBd_v a3 (m_at1 (hx n hn).2.2.2.2.2.2.2 (i := 6) rfl)
      unfold mTm
      have hi : 0 ≤ (if mv w1 0 8 = 0 then (0 : Int) else 1) := (m_ite _).2
      omega
    -- a fault is known
    have bad : ∀ (V : List (Option Value)) (n : Nat) (w1 : va_W), n < 4 → V[0]? = some (some (.ref q)) → mLI Kb κ ad b nb n w w1 → 1 ≤ mv w1 0 4 → mv w1 0 4 ≤ 6 → rc_AB p l e s m [Value.ref q].toArray below meth c 2 D w (MQ below (rc_Q D w s.heap.size (fun ov w' => mQs Kb Kr κ ad b nb w ov w')) [Value.ref q].toArray s 0 0 (va_A w s.heap.size)) d (74, V, [], w1) := by
      intro V n w1 hn hV hI f1 f6
      obtain ⟨cx, mc, mx, sw, cs, L0, L1, tL⟩ := hx n hn
      have hrun := rt_run_ok (SP := Sb n) cx mc mx cs 3000
      obtain ⟨a1, a2, a3, a4, a5, a6, a7⟩ := id hI
      refine rc_At_loc (V := mV20 [some (.ref q)] []) (m_loc (Nat.le_of_ble_eq_true rfl) (m_loc1 hV)) ?_
      refine hrun d 283 mt_ck true _ _ _ (m_at1 L1 (i := 0) rfl) (by omega) _ _ 2 _ em (by decide) p e s m _ below meth c w B _ had w1 (mTm w1) _ (m_start (S := ms_S6) (cs := [0]) (τ := []) (hpL hI (Int.le_refl _)) rfl (by decide) rfl trivial (m_lo20 rfl (by decide) ⟨⟨_, rfl, 0, q, rfl, rfl, hq, rfl⟩, trivial⟩ trivial) trivial ⟨m_ovF (f := 4) rfl (m_ex (h44 n hn)) (rt_gI_0.mpr ⟨f1, f6⟩), trivial⟩) (fun S' b' z1 z2 z3 => ?_) (fun v S' b' ov hf => by cases hf)
      obtain ⟨hl0, tg, htg, hat⟩ := rt_tgl_ok sw z1 z2
      rw [List.mem_singleton.mp htg] at hat
      obtain ⟨τ, ν, lm, hpc, g2, g3, gs, ga, gg, go⟩ := m_end hat (by decide) (by decide) (by omega)
      obtain ⟨v0, y0, c0⟩ := ga 0 _ rfl
      have := m_this hq c0
      subst this
      obtain ⟨n', hn', hI', -⟩ := step hn hI (Or.inl rfl) g2
      rw [m_eta (hpc.resolve_left (by decide)) (List.length_eq_zero_iff.mp hl0)]
      exact at95 b'.2.1 n' b'.2.2.2 hn' y0 hI'
    have lines : ∀ (N : Nat) (V : List (Option Value)) (n : Nat) (w1 : va_W), n < 4 → V[0]? = some (some (.ref q)) → mLI Kb κ ad b nb n w w1 → mTm w1 < N → rc_AB p l e s m [Value.ref q].toArray below meth c 2 D w (MQ below (rc_Q D w s.heap.size (fun ov w' => mQs Kb Kr κ ad b nb w ov w')) [Value.ref q].toArray s 0 0 (va_A w s.heap.size)) d (74, V, [], w1) := by
      intro N
      induction N with
      | zero =>
        intro V n w1 hn hV hI hN
        have := nn hn hI
        omega
      | succ N ih =>
        intro V n w1 hn hV hI hN
        obtain ⟨cx, mc, mx, sw, cs, L0, L1, tL⟩ := hx n hn
        have hrun := rt_run_ok (SP := Sb n) cx mc mx cs 3000
        refine rc_At_loc (V := mV20 [some (.ref q)] []) (m_loc (Nat.le_of_ble_eq_true rfl) (m_loc1 hV)) ?_
        refine hrun d 283 mt_ck true _ _ _ (m_at1 L0 (i := 4) rfl) (by omega) _ _ 2 _ em (by decide) p e s m _ below meth c w B _ had w1 (mTm w1) _ (m_start (S := ms_S3 74) (cs := [0]) (τ := []) (hpL hI (Int.le_refl _)) rfl (by decide) rfl trivial (m_lo20 rfl (by decide) ⟨⟨_, rfl, 0, q, rfl, rfl, hq, rfl⟩, trivial⟩ trivial) trivial trivial) (fun S' b' z1 z2 z3 => ?_) (fun v S' b' ov hf => by cases hf)
        obtain ⟨hl0, tg, htg, hat⟩ := rt_tgl_ok sw (show rt_tgl 0 (Wb n) [ms_T4 74 23 1 [], ms_T4 74 34 1 [], ms_T4 74 23 0 [(1, (0, 4), cI 1 6)], ms_T4 74 34 0 [(1, (0, 4), cI 1 6)], ms_T4 95 23 0 []] S' = true from z1) z2
        have end1 : ∀ (pc g s_ : Nat) (ov : List rt_O), ¬ pc = 0 → (g = 23 ∨ g = 34) → rt_atT (Kb n) κ mK ad w1 (mF b) (mTm w1) (ms_T4 pc g s_ ov) b' → ∃ n', b' = (pc, b'.2.1, [], b'.2.2.2) ∧ b'.2.1[0]? = some (some (.ref q)) ∧ n' < 4 ∧ mLI Kb κ ad b nb n' w b'.2.2.2 ∧ mTm b'.2.2.2 ≤ mTm w1 - s_ ∧ (∀ k : Nat, ov[k]? = some (1, (0, ((4 : Nat) : Int)), cI 1 6) → 1 ≤ mv b'.2.2.2 0 4 ∧ mv b'.2.2.2 0 4 ≤ 6) := by
          intro pc g s_ ov hpc0 hg hat
          obtain ⟨τ, ν, lm, hpc, g2, g3, gs, ga, gg, go⟩ := m_end hat (by decide) (by decide) (by omega)
          obtain ⟨v0, y0, c0⟩ := ga 0 _ rfl
          have := m_this hq c0
          subst this
          obtain ⟨n', hn', hI', hT'⟩ := step hn hI hg g2
          exact ⟨n', m_eta (hpc.resolve_left hpc0) (List.length_eq_zero_iff.mp hl0), y0, hn', hI', hT', fun k hk => rt_gI_0.mp (m_ov cx.2 g2.1 g3.2.1 go (j := 0) (c := 0) (f := 4) hk rfl rfl)⟩
        rcases List.mem_cons.mp htg with rfl | htg
        · obtain ⟨n', eb, y0, hn', hI', hT', -⟩ := end1 74 23 1 [] (by decide) (Or.inl rfl) hat
          rw [eb]
          exact ih b'.2.1 n' b'.2.2.2 hn' y0 hI' (by omega)
        · rcases List.mem_cons.mp htg with rfl | htg
          · obtain ⟨n', eb, y0, hn', hI', hT', -⟩ := end1 74 34 1 [] (by decide) (Or.inr rfl) hat
            rw [eb]
            exact ih b'.2.1 n' b'.2.2.2 hn' y0 hI' (by omega)
          · rcases List.mem_cons.mp htg with rfl | htg
            · obtain ⟨n', eb, y0, hn', hI', hT', hf⟩ := end1 74 23 0 _ (by decide) (Or.inl rfl) hat
              obtain ⟨f1, f6⟩ := hf 0 rfl
              rw [eb]
              exact bad b'.2.1 n' b'.2.2.2 hn' y0 hI' f1 f6
            · rcases List.mem_cons.mp htg with rfl | htg
              · obtain ⟨n', eb, y0, hn', hI', hT', hf⟩ := end1 74 34 0 _ (by decide) (Or.inr rfl) hat
                obtain ⟨f1, f6⟩ := hf 0 rfl
                rw [eb]
                exact bad b'.2.1 n' b'.2.2.2 hn' y0 hI' f1 f6
              · rw [List.mem_singleton.mp htg] at hat
                obtain ⟨n', eb, y0, hn', hI', hT', -⟩ := end1 95 23 0 [] (by decide) (Or.inl rfl) hat
                rw [eb]
                exact at95 b'.2.1 n' b'.2.2.2 hn' y0 hI'
    -- the beginning
    obtain ⟨cx, mc, mx, sw, cs, L0, L1, tL⟩ := hx nr hnr
    have hrun := rt_run_ok (SP := Sb nr) cx mc mx cs 3000
    have hbk := mBd_v hH0 (m_at1 (hx nb hnb).2.2.2.2.2.2.2 (i := 13) rfl)
    obtain ⟨aB, hB1, -, -⟩ := mIn_ok (m_at1 tL (i := 14) rfl)
    have hH38 : rt_gH (Kb nr) 38 κ mK ad w := mSx_ok (m_at1 tL (i := 0) rfl) hB1 hH37 had (by omega)
    have hp38 : rt_hp (Kb nr) κ mK ad w (mF b) 3201 38 0 w := ⟨had, hH38, m_agR hH38, trivial⟩
    -- behind clearBank
    have at70 : ∀ (V : List (Option Value)) (w1 : va_W), V[0]? = some (some (.ref q)) → rt_hp (Kb nr) κ mK ad w (mF b) 3201 30 0 w1 → mv w1 27 r = 0 → mv w1 28 r = 0 → mv w1 0 51 = 400 * (r : Int) → rc_AB p l e s m [Value.ref q].toArray below meth c 2 D w (MQ below (rc_Q D w s.heap.size (fun ov w' => mQs Kb Kr κ ad b nb w ov w')) [Value.ref q].toArray s 0 0 (va_A w s.heap.size)) d (70, V, [], w1) := by
      intro V w1 hV g2 e27 e28 e51
      obtain ⟨bx, tm⟩ := mX_fz (n := nb) (m_at1 tL (i := 10) rfl) g2.2.2.1
      have hH23 := mEn_ok (m_at1 tL (i := 1) rfl) g2.2.1 g2.1
      have hI : mLI Kb κ ad b nb nr w w1 := ⟨g2.1, mG3_ok (h3 nb nr hnb hnr).1 hH0 g2.2.1 g2.2.2.1, hH23, by
        rw [← hrb]
        exact ⟨by omega, by omega, by omega, by omega, fun u hu hlt => by omega⟩, mR_fz (m_at1 tL (i := 7) rfl) g2.2.2.1 hR, bx hBx, tm⟩
      refine rc_At_loc (V := mV20 [some (.ref q)] []) (m_loc (Nat.le_of_ble_eq_true rfl) (m_loc1 hV)) ?_
      refine hrun d 283 mt_ck true _ _ _ (m_at1 L0 (i := 3) rfl) (by omega) _ _ 2 _ em (by decide) p e s m _ below meth c w B _ had w1 (mTm w1) _ (m_start (S := ms_S3 70) (cs := [0]) (τ := []) (hpL hI (Int.le_refl _)) rfl (by decide) rfl trivial (m_lo20 rfl (by decide) ⟨⟨_, rfl, 0, q, rfl, rfl, hq, rfl⟩, trivial⟩ trivial) trivial trivial) (fun S' b' z1 z2 z3 => ?_) (fun v S' b' ov hf => by cases hf)
      obtain ⟨hl0, tg, htg, hat⟩ := rt_tgl_ok sw z1 z2
      rw [List.mem_singleton.mp htg] at hat
      obtain ⟨τ, ν, lm, hpc, g2', g3, gs, ga, gg, go⟩ := m_end hat (by decide) (by decide) (by omega)
      obtain ⟨v0, y0, c0⟩ := ga 0 _ rfl
      have := m_this hq c0
      subst this
      obtain ⟨n', hn', hI', hT'⟩ := step hnr hI (Or.inl rfl) g2'
      rw [m_eta (hpc.resolve_left (by decide)) (List.length_eq_zero_iff.mp hl0)]
      exact lines ((mTm b'.2.2.2).toNat + 1) b'.2.1 n' b'.2.2.2 hn' y0 hI' (by omega)
    have at67 : ∀ (V : List (Option Value)) (w1 : va_W), V[0]? = some (some (.ref q)) → rt_hp (Kb nr) κ mK ad w (mF b) 3201 30 0 w1 → rc_AB p l e s m [Value.ref q].toArray below meth c 2 D w (MQ below (rc_Q D w s.heap.size (fun ov w' => mQs Kb Kr κ ad b nb w ov w')) [Value.ref q].toArray s 0 0 (va_A w s.heap.size)) d (67, V, [.ref q], w1) := by
      intro V w1 hV g2
      refine rc_At_loc (V := mV20 [some (.ref q)] []) (m_loc (Nat.le_of_ble_eq_true rfl) (m_loc1 hV)) ?_
      refine hrun d 283 mt_ck true _ _ _ (m_at1 L0 (i := 2) rfl) (by omega) _ _ 2 _ em (by decide) p e s m _ below meth c w B _ had w 3201 _ (m_start (S := ms_S2) (cs := [0, 27, 28]) (τ := []) g2 rfl (by decide) rfl trivial (m_lo20 rfl (by decide) ⟨⟨_, rfl, 0, q, rfl, rfl, hq, rfl⟩, trivial⟩ trivial) ⟨⟨0, q, rfl, rfl, hq, rfl⟩, trivial⟩ ⟨⟨rfl, 27, 35, rfl, rfl, rfl, m_at1 tL (i := 3) rfl⟩, ⟨rfl, 28, 36, rfl, rfl, rfl, m_at1 tL (i := 4) rfl⟩, trivial⟩) (fun S' b' z1 z2 z3 => ?_) (fun v S' b' ov hf => by cases hf)
      obtain ⟨hl0, tg, htg, hat⟩ := rt_tgl_ok sw z1 z2
      rw [List.mem_singleton.mp htg] at hat
      obtain ⟨τ, ν, lm, hpc, g2', g3, gs, ga, gg, go⟩ := m_end hat (by decide) (by decide) (by omega)
      obtain ⟨v0, y0, c0⟩ := ga 0 _ rfl
      have := m_this hq c0
      subst this
      have x1 := rt_gI_0.mp (m_O0 cx.2 g2'.1 (j := 1) (i := 27) (f := 1 - b) (x := (0, 0, 0)) g3.2.1 (go _ (List.mem_of_getElem? (i := 2) rfl)) rfl rfl)
      have x2 := rt_gI_0.mp (m_O0 cx.2 g2'.1 (j := 2) (i := 28) (f := 1 - b) (x := (0, 0, 0)) g3.2.1 (go _ (List.mem_of_getElem? (i := 3) rfl)) rfl rfl)
      have x3 := rt_gI_0.mp (m_ov cx.2 g2'.1 g3.2.1 go (j := 0) (c := 0) (f := 51) (i := 4) rfl rfl rfl)
      rw [← hrb] at x1 x2 x3
      have x1 : 0 ≤ mv b'.2.2.2 27 r ∧ mv b'.2.2.2 27 r ≤ 0 := x1
      have x2 : 0 ≤ mv b'.2.2.2 28 r ∧ mv b'.2.2.2 28 r ≤ 0 := x2
      have x3 : 400 * (r : Int) ≤ mv b'.2.2.2 0 51 ∧ mv b'.2.2.2 0 51 ≤ 400 * (r : Int) := x3
      rw [m_eta (hpc.resolve_left (by decide)) (List.length_eq_zero_iff.mp hl0)]
      exact at70 b'.2.1 b'.2.2.2 y0 g2' (by omega) (by omega) (by omega)
    have copy : ∀ (N : Nat) (V : List (Option Value)) (i : Int32) (w1 : va_W), V[0]? = some (some (.ref q)) → V[1]? = some (some (.int i)) → 0 ≤ i.toInt → i.toInt ≤ mv w1 0 3 → mv w1 0 3 - i.toInt < N → rt_hp (Kb nr) κ mK ad w (mF b) 3201 38 0 w1 → rc_AB p l e s m [Value.ref q].toArray below meth c 2 D w (MQ below (rc_Q D w s.heap.size (fun ov w' => mQs Kb Kr κ ad b nb w ov w')) [Value.ref q].toArray s 0 0 (va_A w s.heap.size)) d (20, V, [], w1) := by
      intro N
      induction N with
      | zero =>
        intro V i w1 _ _ _ h1 h2
        omega
      | succ N ih =>
        intro V i w1 hV0 hV1 i0 i1 hN g2
        have b3 := mBd_v g2.2.1 (m_at1 tL (i := 23) rfl)
        refine rc_At_loc (V := mV20 [some (.ref q), some (.int i)] [some (.int i), some (.int (mz w1 0 3))]) (m_loc (Nat.le_of_ble_eq_true rfl) (m_loc2 hV0 hV1)) ?_
        refine hrun d 283 mt_ck true _ _ _ (m_at1 L0 (i := 1) rfl) (by omega) _ _ 2 _ em (by decide) p e s m _ below meth c w B _ had w 3201 _ (m_start (S := ms_S1) (cs := [0]) (τ := [i.toInt, mv w1 0 3]) g2 rfl (by decide) rfl ⟨m_okB (show (0 : Int) ≤ _ from i0) (show _ ≤ (1600 : Int) by omega) (Or.inl rfl), m_okB (show (0 : Int) ≤ _ from b3.1) (show _ ≤ (1600 : Int) from b3.2) (Or.inr ⟨i.toInt, rfl, by omega⟩), trivial⟩ (m_lo20 rfl (by decide) ⟨⟨_, rfl, 0, q, rfl, rfl, hq, rfl⟩, ⟨_, rfl, _, rfl, m_gI rfl⟩, trivial⟩ ⟨⟨_, rfl, _, rfl, m_gI rfl⟩, ⟨_, rfl, _, rfl, m_gI rfl⟩, trivial⟩) trivial ⟨m_ovF (f := 3) rfl (m_ex (m_at1 tL (i := 17) rfl)) (m_gI rfl), trivial⟩) (fun S' b' z1 z2 z3 => ?_) (fun v S' b' ov hf => by cases hf)
        have z1 : cond (rt_tgl 0 (Wb nr) [ms_T1] S') true (rt_tgl 1 (Wb nr) [ms_T2] S') = true := z1
        cases hc : rt_tgl 0 (Wb nr) [ms_T1] S' with
        | true =>
          obtain ⟨hl0, tg, htg, hat⟩ := rt_tgl_ok sw hc z2
          rw [List.mem_singleton.mp htg] at hat
          obtain ⟨τ, ν, lm, hpc, g2', g3, gs, ga, gg, go⟩ := m_end hat (by decide) (by decide) (by omega)
          have hgh : ∀ (i_ : Nat) (v : Value), b'.2.1[20 + i_]? = some (some v) → [some (Value.int i), some (Value.int (mz w1 0 3))][i_]? = some (some v) := fun i_ v h => m_ghost z3 rfl (Nat.le_of_ble_eq_true rfl) h
          obtain ⟨x1, t1, l1, l2, -⟩ := m_tg g3.1 (k := 0) rfl
          obtain ⟨x2, t2, l3, l4, l5⟩ := m_tg g3.1 (k := 1) rfl
          obtain ⟨v0, y0, c0⟩ := ga 0 _ rfl
          have := m_this hq c0
          subst this
          obtain ⟨v1, y1, c1⟩ := ga 1 _ rfl
          obtain ⟨i', rfl, c1⟩ := m_tgv c1 t1
          obtain ⟨v2, y2, c2⟩ := gg 0 _ rfl
          obtain ⟨j1, rfl, c2⟩ := m_tgv c2 t1
          have y2 := hgh 0 _ y2
          cases y2
          obtain ⟨f3, -, -⟩ := m_gv (z := mz w1 0 3) (k := 0) (j := 0) (f := 3) (c := 0) cx.2 g2'.1 g3 gg go hgh 1 rfl rfl rfl rfl rfl rfl
          have f3 : mv b'.2.2.2 0 3 = mv w1 0 3 + 0 := f3
          have x3 := m_gIe (m_ov cx.2 g2'.1 g3.2.1 go (j := 0) (c := 0) (f := 3) (i := 0) rfl rfl rfl) t2
          have x3 : mv b'.2.2.2 0 3 = x2 + 0 := x3
          have l5 : x1 + 0 ≤ x2 := by
            rcases l5 with h | ⟨c, h, h'⟩
            · cases h
            · have h : τ[0]? = some c := h
              rw [t1] at h
              cases h
              exact h'
          rw [m_eta (hpc.resolve_left (by decide)) (List.length_eq_zero_iff.mp hl0)]
          exact ih b'.2.1 i' b'.2.2.2 y0 y1 (by omega) (by omega) (by omega) g2'
        | false =>
          rw [hc] at z1
          obtain ⟨hl1, tg, htg, hat⟩ := rt_tgl_ok sw z1 z2
          rw [List.mem_singleton.mp htg] at hat
          obtain ⟨τ, ν, lm, hpc, g2', g3, gs, ga, gg, go⟩ := m_end hat (by decide) (by decide) (by omega)
          obtain ⟨v0, y0, c0⟩ := ga 0 _ rfl
          have := m_this hq c0
          subst this
          obtain ⟨v1, y1, c1⟩ := gs 0 _ rfl
          have := m_this hq c1
          subst this
          have hst : b'.2.2.1 = [.ref q] := by
            match hb : b'.2.2.1, hl1 with
            | [x], _ =>
              rw [hb] at y1
              cases y1
              rfl
          rw [m_eta (hpc.resolve_left (by decide)) hst]
          exact at67 b'.2.1 b'.2.2.2 y0 g2'
    refine hrun d 283 mt_ck false _ _ _ (m_at1 L0 (i := 0) rfl) (by omega) _ _ 2 _ em (by decide) p e s m _ below meth c w B _ had w 3201 (0, mV20 [some (.ref q)] [], [], w) (m_start (S := ms_S0) (cs := [0]) (τ := []) hp38 rfl (by decide) rfl trivial (m_lo20 rfl (by decide) ⟨⟨_, rfl, 0, q, rfl, rfl, hq, rfl⟩, trivial⟩ trivial) trivial trivial) (fun S' b' z1 z2 z3 => ?_) (fun v S' b' ov hf => by cases hf)
    obtain ⟨hl0, tg, htg, hat⟩ := rt_tgl_ok sw z1 z2
    rw [List.mem_singleton.mp htg] at hat
    obtain ⟨τ, ν, lm, hpc, g2', g3, gs, ga, gg, go⟩ := m_end hat (by decide) (by decide) (by omega)
    obtain ⟨v0, y0, c0⟩ := ga 0 _ rfl
    have := m_this hq c0
    subst this
    obtain ⟨v1, y1, c1⟩ := ga 1 _ rfl
    obtain ⟨i', rfl, k1, k2⟩ := m_cv c1
    have b3 := mBd_v g2'.2.1 (m_at1 tL (i := 23) rfl)
    rw [m_eta (hpc.resolve_left (by decide)) (List.length_eq_zero_iff.mp hl0)]
    exact copy ((mv b'.2.2.2 0 3).toNat + 1) b'.2.1 i' b'.2.2.2 y0 y1 k1 (by omega) (by omega) g2'
end MSTR
