/-! e -/
theorem J_new {r : Nat} {uF : Int} {w w' : va_W} (hr : r < 2) (h : mD r uF w) (hu : uF = mv w 0 51) (h53 : mv w' 0 53 = 1) (h52 : mv w' 0 52 = 0) (h28 : mv w' 28 r = mv w 28 r) (h51 : mv w' 0 51 = mv w 0 51) (h38 : mv w' 38 0 = 8) : mJ r uF true w' := by
  obtain ⟨U, C, H, a3, a4, a6, a8, a9⟩ := h
  refine ⟨1, 0, 0, 0, U, C, 0, by omega, by omega, by omega, by rw [h51]; exact a4, ⟨Nat.le_refl _, ?_, ?_, ?_, by omega, h38, fun i h1 h2 => by omega⟩, ⟨by omega, by omega, ?_⟩, by omega, a8, a9, by omega, by omega, rfl⟩
  · show 0 + (if mv w' 38 0 = 3 ∨ 7 ≤ mv w' 38 0 then 0 else 1) = 0
    rw [if_pos (Or.inr (by omega))]
  · show 0 + (if mv w' 38 0 = 3 then 1 else 0) = 0
    rw [if_neg (by omega)]
  · show 0 + (if mv w' 38 0 = 7 then 1 else 0) = 0
    rw [if_neg (by omega)]
  · rw [show (400 * (r : Int) + (C : Int) - uF).toNat = 0 by omega]
    rfl
section ME
variable {l : Launch} {D : va_G} {KK : List (List rt_K)} {κ : Nat → ClassId} {ad : List Nat} {MX : rt_X} {SW : rt_W} {CS : List rt_Co} {SP : rt_SP} {b r d n : Nat} {τ : List Int} {ν : List Nat} {lm : List Int64}
theorem me_at {MX : rt_X} {SW : rt_W} {CS : List rt_Co} {SP : rt_SP} {n d r : Nat} (h : rt_all1 (fun b => b) (me_L0 KK MX SW CS SP n d r) = true) {i : Nat} {b : Bool} (hi : (me_L0 KK MX SW CS SP n d r)[i]? = some b) : b = true := rt_all1_ok h b (List.mem_of_getElem? hi)
set_option maxHeartbeats 4000000 in
theorem m_e {d1 d2 : Nat} (hcx : rt_ctx KK mK ad (mF b)) (hMC : rt_MCok l D κ SP.2) (hMX : rt_MXok KK κ mK ad (mF b) MX) (hSW : rt_SWok KK κ mK ad (mF b) SW) (hCS : ∀ C ∈ CS, rt_Con l D KK κ mK ad (mF b) C) (hok : rt_all1 (fun b => b) (mp_L KK r) = true) (hr : r < 2) (h4 : mIn KK 32 0 4 0 0 = true) (hk : rt_all1 (fun b => b) (me_L0 KK MX SW CS SP n d r) = true) (hU : ∀ t uF : Int, rc_Met l κ D d1 289 (fun vs w => mHp KK κ ad t w ∧ mJ r uF true w ∧ ∃ q : Nat, ad[0]? = some q ∧ vs = [.ref q]) (fun _ w ov w' => mQu KK κ ad r uF t w ov w')) (hB : ∀ t uF : Int, rc_Met l κ D d2 181 (fun vs w => mHp KK κ ad t w ∧ mJ r uF false w ∧ ∃ q : Nat, ad[0]? = some q ∧ vs = [.ref q]) (fun _ w ov w' => mQb KK κ ad r uF t w ov w')) (hd : 2 ≤ d) (hd1 : d1 + 1 ≤ d) (hd2 : d2 + 1 ≤ d) (t uF : Int) : rc_Met l κ D d 198 (fun vs w => mHp KK κ ad t w ∧ mD r uF w ∧ uF = mv w 0 51 ∧ ∃ q : Nat, ad[0]? = some q ∧ vs = [.ref q]) (fun _ w ov w' => ov = none ∧ mHp KK κ ad t w' ∧ mFm KK uF w w' ∧ mD r uF w') := by
  have em : mT[198]? = some (yX12_e, cX12_e, 2, none) := rfl
  have hrun := rt_run_ok (SP := SP) hcx hMC hMX hCS n
  have r14 : ri_rowOK mT yX12_e cX12_e 2 none 14 (.invokevirtual 456, 3, 12 + 4, 255, ((2 + 1 : Nat) : Int)) := ((tab_all 198 _ _ _ _ em).2.2.2.2.2 14 (.invokevirtual 456, 3, 16, 255, 3) rfl).resolve_left (fun h => by cases h)
  have r38 : ri_rowOK mT yX12_e cX12_e 2 none 38 (.invokevirtual 459, 3, 12 + 4, 289, ((0 + 1 : Nat) : Int)) := ((tab_all 198 _ _ _ _ em).2.2.2.2.2 38 (.invokevirtual 459, 3, 16, 289, 1) rfl).resolve_left (fun h => by cases h)
  have r45 : ri_rowOK mT yX12_e cX12_e 2 none 45 (.invokevirtual 462, 3, 12 + 4, 181, ((0 + 1 : Nat) : Int)) := ((tab_all 198 _ _ _ _ em).2.2.2.2.2 45 (.invokevirtual 462, 3, 16, 181, 1) rfl).resolve_left (fun h => by cases h)
  refine rc_body (fun vs w => mV20 (rc_en vs) [some (.int (mz w 28 r))]) ?_ ?_ ?_
  · rintro vs w ⟨-, -, -, q, -, rfl⟩
    exact m_loc (Nat.le_of_ble_eq_true rfl) (fun i v h => h)
  · rintro y cc nL ret hm vs w ⟨-, -, -, q, -, rfl⟩
    rw [em] at hm
    cases hm
    show 1 ≤ 2
    decide
  · rintro y cc nL ret hm w vs ⟨hh, hD, huF, q, hq, rfl⟩ p e s m below meth c B
    rw [em] at hm
    cases hm
    obtain ⟨o, ho, ho2⟩ := mO12_ok (mp_at hok (i := 0) rfl)
    have hD0 := hD
    obtain ⟨U, C, H, d3, d4, d6, d8, d9⟩ := hD0
    have st : ∀ (pc : Nat) (V : List (Option Value)) (A : List (Option rt_V)) (sk : List rt_V) (sv : List Value) (w1 : va_W) (t' : Int), mHp KK κ ad t' w1 → A.length = V.length → A.length ≤ 20 → mLo ad [0, 28] [mv w1 0 53, mv w1 0 52, mv w1 28 r, mv w1 0 4] A V → mStk ad [0, 28] [mv w1 0 53, mv w1 0 52, mv w1 28 r, mv w1 0 4] sk sv → rt_rl KK κ mK ad w1 (mF b) t' (mS pc 32 0 me_E4 [79, 27] A me_g4 sk (me_ov r)) (pc, mV20 V [some (Value.int (mz w1 0 53)), some (Value.int (mz w1 0 52)), some (Value.int (mz w1 28 r)), some (Value.int (mz w1 0 4))], sv, w1) := fun pc V A sk sv w1 t' h l1 l2 l3 l4 => m_start (S := mS pc 32 0 me_E4 [79, 27] A me_g4 sk (me_ov r)) (cs := [0, 28]) (τ := [mv w1 0 53, mv w1 0 52, mv w1 28 r, mv w1 0 4]) (mHp_hp h) rfl (by decide) rfl ⟨m_okB (m_lohi _).1 (m_lohi _).2 (Or.inl rfl), m_okB (m_lohi _).1 (m_lohi _).2 (Or.inl rfl), m_okB (m_lohi _).1 (m_lohi _).2 (Or.inl rfl), m_okB (m_lohi _).1 (m_lohi _).2 (Or.inl rfl), trivial⟩ (m_lo20 l1 l2 l3 ⟨⟨_, rfl, _, rfl, m_gI rfl⟩, ⟨_, rfl, _, rfl, m_gI rfl⟩, ⟨_, rfl, _, rfl, m_gI rfl⟩, ⟨_, rfl, _, rfl, m_gI rfl⟩, trivial⟩) l4 (m_ovOB (ov := [(1, (0, 4), tgI 4 0)]) hok hr (m_gI rfl) (m_gI rfl) (m_gI rfl) ⟨m_ovF (f := 4) rfl (m_ex h4) (m_gI rfl), trivial⟩)
    have four : ∀ {E : List rt_B} {τ : List Int} {ν : List Nat} {lm : List Int64} {b' : rc_C} {w1 : va_W} {B1 B2 B3 B4 : rt_B}, ri_ad b'.2.2.2 = ad → rt_okN mK ad (E, [79, 27], []) τ ν lm → (∀ (i : Nat) (x : rt_V), me_g4[i]? = some (some x) → ∃ v, b'.2.1[20 + i]? = some (some v) ∧ rt_gV τ ν lm mK ad x v) → (∀ o ∈ me_ov r, rt_gO τ ν lm mK ad b'.2.2.2 o) → (∀ (i : Nat) (v : Value), b'.2.1[20 + i]? = some (some v) → [some (Value.int (mz w1 0 53)), some (Value.int (mz w1 0 52)), some (Value.int (mz w1 28 r)), some (Value.int (mz w1 0 4))][i]? = some (some v)) → E[0]? = some B1 → E[1]? = some B2 → E[2]? = some B3 → E[3]? = some B4 → mv b'.2.2.2 0 53 = mv w1 0 53 + 0 ∧ mv b'.2.2.2 0 52 = mv w1 0 52 + 0 ∧ mv b'.2.2.2 28 r = mv w1 28 r + 0 ∧ mv b'.2.2.2 0 4 = mv w1 0 4 + 0 ∧ B1.1.1 ≤ mv w1 0 53 ∧ mv w1 0 4 ≤ B4.1.2 := by
      intro E τ ν lm b' w1 B1 B2 B3 B4 had g3 gg go hgh e1 e2 e3 e4
      obtain ⟨f53, f52, f28, m1, -⟩ := m_pwu (pz := mz w1 0 53) (wz := mz w1 0 52) (uz := mz w1 28 r) hcx.2 had g3 gg go hgh rfl rfl rfl rfl rfl rfl rfl rfl rfl e1 e2 e3
      obtain ⟨f4, -, m4⟩ := m_gv (z := mz w1 0 4) (k := 4) (j := 0) (f := 4) (c := 0) hcx.2 had g3 gg go hgh 3 rfl rfl rfl rfl rfl e4
      exact ⟨f53, f52, f28, f4, m1, m4⟩
    -- behind a call: to the head again
    have toH : ∀ (pc : Nat) (V : List (Option Value)) (z : Int32) (w1 : va_W) (t' : Int), (pc = 41 ∨ pc = 48) → V[0]? = some (some (.ref q)) → (z.toInt = 0 ∨ z.toInt = 1) → mHp KK κ ad t' w1 → (∀ (V' : List (Option Value)) (w2 : va_W), V'[0]? = some (some (.ref q)) → V'[1]? = some (some (.int z)) → mHp KK κ ad t' w2 → mFm KK uF w1 w2 → mSm w1 w2 → mv w2 0 53 = mv w1 0 53 → mv w2 0 52 = mv w1 0 52 → mv w2 28 r = mv w1 28 r → mv w2 0 4 = mv w1 0 4 → rc_AB p l e s m [Value.ref q].toArray below meth c 2 D w (MQ below (rc_Q D w s.heap.size (fun ov w' => ov = none ∧ mHp KK κ ad t w' ∧ mFm KK uF w w' ∧ mD r uF w')) [Value.ref q].toArray s 0 0 (va_A w s.heap.size)) d (19, V', [], w2)) → uF ≤ 800 → rc_AB p l e s m [Value.ref q].toArray below meth c 2 D w (MQ below (rc_Q D w s.heap.size (fun ov w' => ov = none ∧ mHp KK κ ad t w' ∧ mFm KK uF w w' ∧ mD r uF w')) [Value.ref q].toArray s 0 0 (va_A w s.heap.size)) d (pc, V, [.int z], w1) := by
      intro pc V z w1 t' hpc hV hz H1 kk hu8
      refine rc_At_loc (V := mV20 [some (.ref q)] [some (Value.int (mz w1 0 53)), some (Value.int (mz w1 0 52)), some (Value.int (mz w1 28 r)), some (Value.int (mz w1 0 4))]) (m_loc (Nat.le_of_ble_eq_true rfl) (m_loc1 hV)) ?_
      have go1 : ∀ (k : Int), z.toInt = k → me_run KK MX CS SP n d false (rt_tgl 0 SW [me_T1 r k]) rt_kf2 (me_S1 r pc [cI k k]) = true → rc_AB p l e s m [Value.ref q].toArray below meth c 2 D w (MQ below (rc_Q D w s.heap.size (fun ov w' => ov = none ∧ mHp KK κ ad t w' ∧ mFm KK uF w w' ∧ mD r uF w')) [Value.ref q].toArray s 0 0 (va_A w s.heap.size)) d (pc, mV20 [some (.ref q)] [some (Value.int (mz w1 0 53)), some (Value.int (mz w1 0 52)), some (Value.int (mz w1 28 r)), some (Value.int (mz w1 0 4))], [.int z], w1) := by
        intro k hzk hrn
        refine hrun d 198 [14, 19, 38, 45] false _ _ _ hrn (by omega) _ _ 2 _ em (by decide) p e s m _ below meth c w B _ hh.1 w1 t' _ (st pc [some (.ref q)] [some mM] [cI k k] [.int z] w1 t' H1 rfl (by decide) ⟨⟨_, rfl, 0, q, rfl, rfl, hq, rfl⟩, trivial⟩ ⟨⟨z, rfl, rt_gI_0.mpr ⟨by omega, by omega⟩⟩, trivial⟩) (fun S' b' z1 z2 z3 => ?_) (fun v S' b' ov hf => by cases hf)
        obtain ⟨hl0, tg, htg, hat⟩ := rt_tgl_ok hSW z1 z2
        rw [List.mem_singleton.mp htg] at hat
        obtain ⟨τ, ν, lm, hpc', g2, g3, gs, ga, gg, go⟩ := m_end hat (by decide) (Nat.le_of_ble_eq_true rfl) (by omega)
        obtain ⟨f53, f52, f28, f4, -, -⟩ := four (w1 := w1) g2.1 g3 gg go (fun i v h => m_ghost z3 rfl (Nat.le_of_ble_eq_true rfl) h) rfl rfl rfl rfl
        obtain ⟨v0, y0, c0⟩ := ga 0 _ rfl
        have := m_this hq c0
        subst this
        obtain ⟨v1, y1, c1⟩ := ga 1 _ rfl
        obtain ⟨k', rfl, k1, k2⟩ := m_cv c1
        have : k' = z := Int32.toInt_inj.mp (by omega)
        subst this
        obtain ⟨R1, R2, R3, -, -⟩ := mp_run (uF := uF) hok hu8 g2
        rw [m_eta (hpc'.resolve_left (by decide)) (List.length_eq_zero_iff.mp hl0)]
        exact kk b'.2.1 b'.2.2.2 y0 y1 (mHp_mono R1 (by omega)) R2 R3 (by omega) (by omega) (by omega) (by omega)
      rcases hpc with rfl | rfl
      · rcases hz with hz | hz
        · exact go1 0 hz (me_at hk (i := 4) rfl)
        · exact go1 1 hz (me_at hk (i := 5) rfl)
      · rcases hz with hz | hz
        · exact go1 0 hz (me_at hk (i := 6) rfl)
        · exact go1 1 hz (me_at hk (i := 7) rfl)
    have hu8 : uF ≤ 800 := by omega
    -- the run to a call, or to the end
    have go1 : ∀ (k : Int32) (w1 : va_W) (t' : Int), t' ≤ t → mHp KK κ ad t' w1 → mFm KK uF w w1 → mD r uF w1 → ∀ (kk : Int) (pc : Nat), k.toInt = kk → ¬ pc = 0 → me_run KK MX CS SP n d true (rt_tgl 1 SW [me_T2 r pc]) (rt_tgv SW [me_R r]) (me_S2 r kk) = true → (∀ (V' : List (Option Value)) (w2 : va_W), V'[0]? = some (some (.ref q)) → mHp KK κ ad t' w2 → mFm KK uF w1 w2 → mSm w1 w2 → mv w2 0 53 = mv w1 0 53 → mv w2 0 52 = mv w1 0 52 → mv w2 28 r = mv w1 28 r → 1 ≤ mv w1 0 53 → mv w1 0 4 ≤ 0 → rc_AB p l e s m [Value.ref q].toArray below meth c 2 D w (MQ below (rc_Q D w s.heap.size (fun ov w' => ov = none ∧ mHp KK κ ad t w' ∧ mFm KK uF w w' ∧ mD r uF w')) [Value.ref q].toArray s 0 0 (va_A w s.heap.size)) d (pc, V', [.ref q], w2)) → rc_AB p l e s m [Value.ref q].toArray below meth c 2 D w (MQ below (rc_Q D w s.heap.size (fun ov w' => ov = none ∧ mHp KK κ ad t w' ∧ mFm KK uF w w' ∧ mD r uF w')) [Value.ref q].toArray s 0 0 (va_A w s.heap.size)) d (19, mV20 [some (.ref q), some (.int k)] [some (Value.int (mz w1 0 53)), some (Value.int (mz w1 0 52)), some (Value.int (mz w1 28 r)), some (Value.int (mz w1 0 4))], [], w1) := by
      intro k w1 t' ht H1 F1 hDD kk pc hkk hpc0 hrn cc
      refine hrun d 198 [14, 19, 38, 45] true _ _ _ hrn (by omega) _ _ 2 _ em (by decide) p e s m _ below meth c w B _ hh.1 w1 t' _ (st 19 [some (.ref q), some (.int k)] [some mM, some (cI kk kk)] [] [] w1 t' H1 rfl (Nat.le_of_ble_eq_true rfl) ⟨⟨_, rfl, 0, q, rfl, rfl, hq, rfl⟩, ⟨_, rfl, k, rfl, rt_gI_0.mpr ⟨by omega, by omega⟩⟩, trivial⟩ trivial) (fun S' b' z1 z2 z3 => ?_) (fun v S' b' ov z1 _ z2 z3 z4 => ?_)
      · obtain ⟨hl1, tg, htg, hat⟩ := rt_tgl_ok hSW z1 z2
        rw [List.mem_singleton.mp htg] at hat
        obtain ⟨τ, ν, lm, hpc', g2, g3, gs, ga, gg, go⟩ := m_end hat (by decide) (by decide) (by omega)
        obtain ⟨f53, f52, f28, f4, m1, m4⟩ := four (w1 := w1) g2.1 g3 gg go (fun i v h => m_ghost z3 rfl (Nat.le_of_ble_eq_true rfl) h) rfl rfl rfl rfl
        have m1 : 1 ≤ mv w1 0 53 := m1
        have m4 : mv w1 0 4 ≤ 0 := m4
        obtain ⟨v0, y0, c0⟩ := ga 0 _ rfl
        have := m_this hq c0
        subst this
        obtain ⟨v2, y2, c2⟩ := gs 0 _ rfl
        have := m_this hq c2
        subst this
        have hst : b'.2.2.1 = [.ref q] := by
          match hb : b'.2.2.1, hl1 with
          | [x], _ =>
            rw [hb] at y2
            cases y2
            rfl
        obtain ⟨R1, R2, R3, -, -⟩ := mp_run (uF := uF) hok hu8 g2
        rw [m_eta (hpc'.resolve_left hpc0) hst]
        exact cc b'.2.1 b'.2.2.2 y0 (mHp_mono R1 (by omega)) R2 R3 (by omega) (by omega) (by omega) m1 m4
      · cases v with
        | some x => cases z1
        | none =>
          obtain ⟨tg, htg, hat⟩ := rt_tgt_ok hSW (show rt_tgt SW [me_R r] S' = true from z1) z3
          rw [List.mem_singleton.mp htg] at hat
          have hov : ov = none := by
            obtain ⟨_, _, _, -, -, -, -, g5, -⟩ := id z3
            have hs : rt_st S' = [] := by assumption
            rw [hs, z2] at g5
            cases ov with
            | none => rfl
            | some x => exact g5.elim
          obtain ⟨τ, ν, lm, -, g2, g3, gs, ga, gg, go⟩ := m_end hat (by decide) (by decide) (m_ansL z2)
          obtain ⟨f53, f52, f28, f4, -, -⟩ := four (w1 := w1) g2.1 g3 gg go (fun i v h => m_ghost z4 rfl (Nat.le_of_ble_eq_true rfl) h) rfl rfl rfl rfl
          obtain ⟨R1, R2, R3, -, -⟩ := mp_run (uF := uF) hok hu8 g2
          exact ⟨hov, mHp_mono R1 (by omega), mFm_tr F1 R2, mD_same hr hDD R3 (by omega)⟩
    have fin : ∀ (V : List (Option Value)) (k : Int32) (w1 : va_W) (t' : Int), t' ≤ t → V[0]? = some (some (.ref q)) → V[1]? = some (some (.int k)) → (k.toInt = 0 ∨ k.toInt = 1) → mHp KK κ ad t' w1 → mFm KK uF w w1 → mD r uF w1 → (mv w1 0 53 = 0 ∨ 1 ≤ mv w1 0 4) → rc_AB p l e s m [Value.ref q].toArray below meth c 2 D w (MQ below (rc_Q D w s.heap.size (fun ov w' => ov = none ∧ mHp KK κ ad t w' ∧ mFm KK uF w w' ∧ mD r uF w')) [Value.ref q].toArray s 0 0 (va_A w s.heap.size)) d (19, V, [], w1) := by
      intro V k w1 t' ht hV0 hV1 hk01 H1 F1 hDD hx
      refine rc_At_loc (V := mV20 [some (.ref q), some (.int k)] [some (Value.int (mz w1 0 53)), some (Value.int (mz w1 0 52)), some (Value.int (mz w1 28 r)), some (Value.int (mz w1 0 4))]) (m_loc (Nat.le_of_ble_eq_true rfl) (m_loc2 hV0 hV1)) ?_
      rcases hk01 with h | h
      · exact go1 k w1 t' ht H1 F1 hDD 0 45 h (by decide) (me_at hk (i := 3) rfl) (fun V' w2 hV' H2 F2 S2 e53 e52 e28 p1 p4 => by omega)
      · exact go1 k w1 t' ht H1 F1 hDD 1 38 h (by decide) (me_at hk (i := 2) rfl) (fun V' w2 hV' H2 F2 S2 e53 e52 e28 p1 p4 => by omega)
    -- the loop
    have loop : ∀ (N : Nat) (V : List (Option Value)) (k : Int32) (w1 : va_W) (t' : Int), 100 * t' + mv w1 0 53 < N → t' ≤ t → V[0]? = some (some (.ref q)) → V[1]? = some (some (.int k)) → mHp KK κ ad t' w1 → mFm KK uF w w1 → ((k.toInt = 1 ∧ mJ r uF true w1) ∨ (k.toInt = 0 ∧ mJ r uF false w1)) → rc_AB p l e s m [Value.ref q].toArray below meth c 2 D w (MQ below (rc_Q D w s.heap.size (fun ov w' => ov = none ∧ mHp KK κ ad t w' ∧ mFm KK uF w w' ∧ mD r uF w')) [Value.ref q].toArray s 0 0 (va_A w s.heap.size)) d (19, V, [], w1) := by
      intro N
      induction N using Nat.strongRecOn with
      | ind N ih =>
      intro V k w1 t' hN ht hV0 hV1 H1 F1 hI
      have t0' := mHp_nn hok H1
      have hDD : mD r uF w1 := by
        rcases hI with ⟨-, h⟩ | ⟨-, h⟩
        · exact mJ_D h
        · exact mJ_D h
      refine rc_At_loc (V := mV20 [some (.ref q), some (.int k)] [some (Value.int (mz w1 0 53)), some (Value.int (mz w1 0 52)), some (Value.int (mz w1 28 r)), some (Value.int (mz w1 0 4))]) (m_loc (Nat.le_of_ble_eq_true rfl) (m_loc2 hV0 hV1)) ?_
      -- unit is called
      have one : k.toInt = 1 → rc_AB p l e s m [Value.ref q].toArray below meth c 2 D w (MQ below (rc_Q D w s.heap.size (fun ov w' => ov = none ∧ mHp KK κ ad t w' ∧ mFm KK uF w w' ∧ mD r uF w')) [Value.ref q].toArray s 0 0 (va_A w s.heap.size)) d (19, mV20 [some (.ref q), some (.int k)] [some (Value.int (mz w1 0 53)), some (Value.int (mz w1 0 52)), some (Value.int (mz w1 28 r)), some (Value.int (mz w1 0 4))], [], w1) := by
        intro hk1
        refine go1 k w1 t' ht H1 F1 hDD 1 38 hk1 (by decide) (me_at hk (i := 2) rfl) (fun V' w2 hV' H2 F2 S2 e53 e52 e28 p1 p4 => ?_)
        have hJ : mJ r uF true w1 := by
          rcases hI with ⟨-, h⟩ | ⟨h, -⟩
          · exact h
          · omega
        have J2 := mJ_same hr hJ S2 e53 e52 e28
        obtain ⟨q', vb, c1, c2, -⟩ := m_cell0 H2.2.1 H2.1 ho
        rw [hq] at c2
        cases c2
        rw [ho2] at c1
        refine rc_call B (a := (38, V', [.ref q], w2)) (As := []) (rst := []) (qb := q) (kb := 0) (vb := vb) hd1 r38 rfl rfl (by decide) c1 (hU t' uF) ⟨H2, J2, q, hq, rfl⟩ (fun ov ws' hQ _ => ?_)
        obtain ⟨z, rfl, F3, hQ⟩ := hQ
        have F3 : mFm KK uF w2 ws' := F3
        have bP1 := mJ_P hJ
        rcases hQ with ⟨z1, H3, J3⟩ | ⟨z1, H3, J3⟩ | ⟨z1, H3, D3, f3⟩
        · have bP := mJ_P J3
          have n3 := mHp_nn hok H3
          refine toH 41 V' z ws' (t' - 1) (Or.inl rfl) hV' (Or.inr z1) H3 (fun V4 w4 a0 a1 a2 a3 a4 a5 a6 a7 a8 => ?_) hu8
          exact ih (N - 1) (by omega) V4 z w4 (t' - 1) (by omega) (by omega) a0 a1 a2 (mFm_tr (mFm_tr (mFm_tr F1 F2) F3) a3) (Or.inl ⟨z1, mJ_same hr J3 a4 a5 a6 a7⟩) 
        · have bP := mJ_P J3
          have n3 := mHp_nn hok H3
          refine toH 41 V' z ws' (t' - 1) (Or.inl rfl) hV' (Or.inl z1) H3 (fun V4 w4 a0 a1 a2 a3 a4 a5 a6 a7 a8 => ?_) hu8
          exact ih (N - 1) (by omega) V4 z w4 (t' - 1) (by omega) (by omega) a0 a1 a2 (mFm_tr (mFm_tr (mFm_tr F1 F2) F3) a3) (Or.inr ⟨z1, mJ_same hr J3 a4 a5 a6 a7⟩)
        · refine toH 41 V' z ws' t' (Or.inl rfl) hV' (Or.inr z1) H3 (fun V4 w4 a0 a1 a2 a3 a4 a5 a6 a7 a8 => ?_) hu8
          exact fin V4 z w4 t' ht a0 a1 (Or.inr z1) a2 (mFm_tr (mFm_tr (mFm_tr F1 F2) F3) a3) (mD_same hr D3 a4 a7) (Or.inr (by omega))
      have two : k.toInt = 0 → rc_AB p l e s m [Value.ref q].toArray below meth c 2 D w (MQ below (rc_Q D w s.heap.size (fun ov w' => ov = none ∧ mHp KK κ ad t w' ∧ mFm KK uF w w' ∧ mD r uF w')) [Value.ref q].toArray s 0 0 (va_A w s.heap.size)) d (19, mV20 [some (.ref q), some (.int k)] [some (Value.int (mz w1 0 53)), some (Value.int (mz w1 0 52)), some (Value.int (mz w1 28 r)), some (Value.int (mz w1 0 4))], [], w1) := by
        intro hk1
        refine go1 k w1 t' ht H1 F1 hDD 0 45 hk1 (by decide) (me_at hk (i := 3) rfl) (fun V' w2 hV' H2 F2 S2 e53 e52 e28 p1 p4 => ?_)
        have hJ : mJ r uF false w1 := by
          rcases hI with ⟨h, -⟩ | ⟨-, h⟩
          · omega
          · exact h
        have J2 := mJ_same hr hJ S2 e53 e52 e28
        obtain ⟨q', vb, c1, c2, -⟩ := m_cell0 H2.2.1 H2.1 ho
        rw [hq] at c2
        cases c2
        rw [ho2] at c1
        refine rc_call B (a := (45, V', [.ref q], w2)) (As := []) (rst := []) (qb := q) (kb := 0) (vb := vb) hd2 r45 rfl rfl (by decide) c1 (hB t' uF) ⟨H2, J2, q, hq, rfl⟩ (fun ov ws' hQ _ => ?_)
        obtain ⟨z, rfl, F3, hQ⟩ := hQ
        have F3 : mFm KK uF w2 ws' := F3
        have bP1 := mJ_P hJ
        rcases hQ with ⟨z1, H3, J3⟩ | ⟨z1, H3, J3, hlt⟩ | ⟨z1, H3, D3, f3⟩ | ⟨z1, H3, D3, f3⟩
        · have bP := mJ_P J3
          have n3 := mHp_nn hok H3
          refine toH 48 V' z ws' (t' - 1) (Or.inr rfl) hV' (Or.inr z1) H3 (fun V4 w4 a0 a1 a2 a3 a4 a5 a6 a7 a8 => ?_) hu8
          exact ih (N - 1) (by omega) V4 z w4 (t' - 1) (by omega) (by omega) a0 a1 a2 (mFm_tr (mFm_tr (mFm_tr F1 F2) F3) a3) (Or.inl ⟨z1, mJ_same hr J3 a4 a5 a6 a7⟩) 
        · have bP := mJ_P J3
          have hlt : mv ws' 0 53 < mv w2 0 53 := hlt
          refine toH 48 V' z ws' t' (Or.inr rfl) hV' (Or.inl z1) H3 (fun V4 w4 a0 a1 a2 a3 a4 a5 a6 a7 a8 => ?_) hu8
          exact ih (N - 1) (by omega) V4 z w4 t' (by omega) (by omega) a0 a1 a2 (mFm_tr (mFm_tr (mFm_tr F1 F2) F3) a3) (Or.inr ⟨z1, mJ_same hr J3 a4 a5 a6 a7⟩)
        · refine toH 48 V' z ws' t' (Or.inr rfl) hV' (Or.inl z1) H3 (fun V4 w4 a0 a1 a2 a3 a4 a5 a6 a7 a8 => ?_) hu8
          exact fin V4 z w4 t' ht a0 a1 (Or.inl z1) a2 (mFm_tr (mFm_tr (mFm_tr F1 F2) F3) a3) (mD_same hr D3 a4 a7) (Or.inl (by omega))
        · refine toH 48 V' z ws' t' (Or.inr rfl) hV' (Or.inr z1) H3 (fun V4 w4 a0 a1 a2 a3 a4 a5 a6 a7 a8 => ?_) hu8
          exact fin V4 z w4 t' ht a0 a1 (Or.inr z1) a2 (mFm_tr (mFm_tr (mFm_tr F1 F2) F3) a3) (mD_same hr D3 a4 a7) (Or.inr (by omega))
      rcases hI with ⟨h, -⟩ | ⟨h, -⟩
      · exact one h
      · exact two h
    -- the beginning
    refine hrun d 198 [14, 19, 38, 45] false _ _ _ (me_at hk (i := 0) rfl) (by omega) _ _ 2 _ em (by decide) p e s m _ below meth c w B _ hh.1 w t _ (m_start (S := me_S0 r) (cs := [0, 28]) (τ := [mv w 28 r]) (mHp_hp hh) rfl (by decide) rfl ⟨m_okB (show (0 : Int) ≤ _ by omega) (show _ ≤ (40 : Int) by omega) (Or.inl rfl), trivial⟩ (m_lo20 rfl (by decide) ⟨⟨_, rfl, 0, q, rfl, rfl, hq, rfl⟩, trivial⟩ ⟨⟨_, rfl, _, rfl, m_gI rfl⟩, trivial⟩) trivial ⟨⟨rfl, 28, 36, rfl, rfl, rfl, mp_at hok (i := 5) rfl⟩, m_ovF (j := 1) (c := 28) (f := r) rfl (m_exA (mp_at hok (i := 11) rfl) hr) (m_gI rfl), trivial⟩) (fun S' b' z1 z2 z3 => ?_) (fun v S' b' ov hf => by cases hf)
    obtain ⟨hl3, tg, htg, hat⟩ := rt_tgl_ok hSW z1 z2
    rw [List.mem_singleton.mp htg] at hat
    obtain ⟨τ, ν, lm, hpc', g2, g3, gs, ga, gg, go⟩ := m_end hat (by decide) (by decide) (by omega)
    obtain ⟨f28, -, -⟩ := m_gv (z := mz w 28 r) (k := 3) (j := 1) (f := r) (c := 28) hcx.2 g2.1 g3 gg go (fun i v h => m_ghost z3 rfl (Nat.le_of_ble_eq_true rfl) h) 0 rfl rfl rfl rfl rfl rfl
    have f28 : mv b'.2.2.2 28 r = mv w 28 r + 0 := f28
    have f53 := rt_gI_0.mp (m_ov hcx.2 g2.1 g3.2.1 go (j := 0) (c := 0) (f := 53) (i := 0) rfl rfl rfl)
    have f52 := rt_gI_0.mp (m_ov hcx.2 g2.1 g3.2.1 go (j := 0) (c := 0) (f := 52) (i := 1) rfl rfl rfl)
    have f53 : 0 ≤ mv b'.2.2.2 0 53 ∧ mv b'.2.2.2 0 53 ≤ 0 := f53
    have f52 : 0 ≤ mv b'.2.2.2 0 52 ∧ mv b'.2.2.2 0 52 ≤ 0 := f52
    obtain ⟨v0, y0, c0⟩ := gs 0 _ rfl
    obtain ⟨nz, rfl, n1, n2⟩ := m_cv c0
    obtain ⟨v1, y1, c1⟩ := gs 1 _ rfl
    obtain ⟨cz, rfl, e1, e2⟩ := m_cv c1
    obtain ⟨v2, y2, c2⟩ := gs 2 _ rfl
    have := m_this hq c2
    subst this
    obtain ⟨v3, y3, c3⟩ := ga 0 _ rfl
    have := m_this hq c3
    subst this
    obtain ⟨R1, R2, ⟨R3, R4, R5, R6⟩, -, -⟩ := mp_run (uF := uF) hok hu8 g2
    have R1' : mHp KK κ ad t b'.2.2.2 := mHp_mono R1 (by omega)
    obtain ⟨P1, P2, P3, P4, P5, P6, P7, P8⟩ := mp_push (uF := uF) hok R1' (by omega) (by omega) cz nz
    rw [m_eta (hpc'.resolve_left (by decide)) (m_three hl3 y0 y1 y2)]
    refine m_callP B hok hd r14 hq R1' (by omega) (by omega) ?_
    have h51 := P8 0 51 (by decide) (by decide) (fun q => by cases q.2)
    have h52 := P8 0 52 (by decide) (by decide) (fun q => by cases q.2)
    have h28 := P8 28 r (by decide) (by decide) (fun q => by cases q.1)
    rw [show (mv b'.2.2.2 0 53).toNat = 0 by omega] at P4
    have J0 : mJ r uF true (mPsh 38 39 53 cz nz b'.2.2.2) := J_new hr hD huF (by omega) (by omega) (by omega) (by omega) (by omega)
    refine rc_At_loc (V := mV20 [some (.ref q)] [some (Value.int (mz (mPsh 38 39 53 cz nz b'.2.2.2) 0 53)), some (Value.int (mz (mPsh 38 39 53 cz nz b'.2.2.2) 0 52)), some (Value.int (mz (mPsh 38 39 53 cz nz b'.2.2.2) 28 r)), some (Value.int (mz (mPsh 38 39 53 cz nz b'.2.2.2) 0 4))]) (m_loc (Nat.le_of_ble_eq_true rfl) (m_loc1 y3)) ?_
    refine hrun d 198 [14, 19, 38, 45] false _ _ _ (me_at hk (i := 1) rfl) (by omega) _ _ 2 _ em (by decide) p e s m _ below meth c w B _ hh.1 (mPsh 38 39 53 cz nz b'.2.2.2) t _ (st 17 [some (.ref q)] [some mM] [] [] _ t P1 rfl (by decide) ⟨⟨_, rfl, 0, q, rfl, rfl, hq, rfl⟩, trivial⟩ trivial) (fun S'' b'' x1 x2 x3 => ?_) (fun v S' b' ov hf => by cases hf)
    obtain ⟨hl0, tg, htg, hat⟩ := rt_tgl_ok hSW x1 x2
    rw [List.mem_singleton.mp htg] at hat
    obtain ⟨τ', ν', lm', hpc'', g2', g3', gs', ga', gg', go'⟩ := m_end hat (by decide) (by decide) (by omega)
    obtain ⟨i53, i52, i28, i4, -, -⟩ := four (w1 := mPsh 38 39 53 cz nz b'.2.2.2) g2'.1 g3' gg' go' (fun i v h => m_ghost x3 rfl (Nat.le_of_ble_eq_true rfl) h) rfl rfl rfl rfl
    obtain ⟨v4, y4, c4⟩ := ga' 0 _ rfl
    have := m_this hq c4
    subst this
    obtain ⟨v5, y5, c5⟩ := ga' 1 _ rfl
    obtain ⟨k, rfl, k1, k2⟩ := m_cv c5
    obtain ⟨T1, T2, T3, -, -⟩ := mp_run (uF := uF) hok hu8 g2'
    rw [m_eta (hpc''.resolve_left (by decide)) (List.length_eq_zero_iff.mp hl0)]
    exact loop ((100 * t + mv b''.2.2.2 0 53).toNat + 1) b''.2.1 k b''.2.2.2 t (by omega) (Int.le_refl _) y4 y5 (mHp_mono T1 (by omega)) (mFm_tr (mFm_tr R2 P2) T2) (Or.inl ⟨by omega, mJ_same hr J0 T3 (by omega) (by omega) (by omega)⟩)
end ME
