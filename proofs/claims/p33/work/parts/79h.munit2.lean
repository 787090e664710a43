/-! unit -/
def mQu (KK : List (List rt_K)) (κ : Nat → ClassId) (ad : List Nat) (r : Nat) (uF t : Int) (w : va_W) (ov : Option Value) (w' : va_W) : Prop := ∃ z : Int32, ov = some (.int z) ∧ mFm KK uF w w' ∧ ((z.toInt = 1 ∧ mHp KK κ ad (t - 1) w' ∧ mJ r uF true w') ∨ (z.toInt = 0 ∧ mHp KK κ ad (t - 1) w' ∧ mJ r uF false w') ∨ (z.toInt = 1 ∧ mHp KK κ ad t w' ∧ mD r uF w' ∧ 1 ≤ mv w' 0 4))
section MUNIT2
variable {l : Launch} {D : va_G} {KK : List (List rt_K)} {κ : Nat → ClassId} {ad : List Nat} {MX : rt_X} {SW : rt_W} {CS : List rt_Co} {SP : rt_SP} {b r d n : Nat}
theorem m_callP {p : Program} {e : Env} {s : State} {m : MethodId} {args : Array Value} {below : List Frame} {meth : Method} {c : Code} {y : MethodName} {cc : ByteArray} {nL : Nat} {ret : Option FieldType} {ws w2 : va_W} {Q : State → Prop} {pc j q : Nat} {V : List (Option Value)} {cz nz : Int32} {t : Int} (B : rc_Bd p s m args meth c y cc nL ret κ D ws) (hok : rt_all1 (fun b => b) (mp_L KK r) = true) (hd : 2 ≤ d) (hrow : ri_rowOK mT y cc nL ret pc (.invokevirtual j, 3, 12 + 4, 255, ((2 + 1 : Nat) : Int))) (hq : ad[0]? = some q) (h : mHp KK κ ad t w2) (h1 : 0 ≤ mv w2 0 53) (h2 : mv w2 0 53 < 90) (kk : rc_AB p l e s m args below meth c nL D ws Q d (pc + 3, V, [], mPsh 38 39 53 cz nz w2)) : rc_AB p l e s m args below meth c nL D ws Q d (pc, V, [.int nz, .int cz, .ref q], w2) := by
  obtain ⟨o, ho, ho2⟩ := mO12_ok (mp_at hok (i := 0) rfl)
  obtain ⟨q', vb, c1, c2, -⟩ := m_cell0 h.2.1 h.1 ho
  rw [hq] at c2
  cases c2
  rw [ho2] at c1
  refine rc_call B (a := (pc, V, [.int nz, .int cz, .ref q], w2)) (As := [.int cz, .int nz]) (rst := []) (qb := q) (kb := 0) (vb := vb) (d1 := 1) hd hrow rfl rfl (by decide) c1 (mp_cP hok (Nat.le_refl _)) ⟨h.2.1, h.1, h1, h2, h2, q, cz, nz, hq, rfl⟩ (fun ov ws' hQ _ => ?_)
  obtain ⟨rfl, q', cz', nz', e1, rfl⟩ := hQ
  cases e1
  exact kk
theorem m_callE {p : Program} {e : Env} {s : State} {m : MethodId} {args : Array Value} {below : List Frame} {meth : Method} {c : Code} {y : MethodName} {cc : ByteArray} {nL : Nat} {ret : Option FieldType} {ws w2 : va_W} {Q : State → Prop} {pc j q : Nat} {V : List (Option Value)} {cz nz : Int32} {t : Int} (B : rc_Bd p s m args meth c y cc nL ret κ D ws) (hok : rt_all1 (fun b => b) (mp_L KK r) = true) (hd : 2 ≤ d) (hrow : ri_rowOK mT y cc nL ret pc (.invokevirtual j, 3, 12 + 4, 199, ((2 + 1 : Nat) : Int))) (hq : ad[0]? = some q) (h : mHp KK κ ad t w2) (h1 : 0 ≤ mv w2 0 51) (h2 : mv w2 0 51 < 800) (kk : rc_AB p l e s m args below meth c nL D ws Q d (pc + 3, V, [], mPsh 36 37 51 cz nz w2)) : rc_AB p l e s m args below meth c nL D ws Q d (pc, V, [.int nz, .int cz, .ref q], w2) := by
  obtain ⟨o, ho, ho2⟩ := mO12_ok (mp_at hok (i := 0) rfl)
  obtain ⟨q', vb, c1, c2, -⟩ := m_cell0 h.2.1 h.1 ho
  rw [hq] at c2
  cases c2
  rw [ho2] at c1
  refine rc_call B (a := (pc, V, [.int nz, .int cz, .ref q], w2)) (As := [.int cz, .int nz]) (rst := []) (qb := q) (kb := 0) (vb := vb) (d1 := 1) hd hrow rfl rfl (by decide) c1 (mp_cE hok (Nat.le_refl _)) ⟨h.2.1, h.1, h1, h2, h2, q, cz, nz, hq, rfl⟩ (fun ov ws' hQ _ => ?_)
  obtain ⟨rfl, q', cz', nz', e1, rfl⟩ := hQ
  cases e1
  exact kk
/-- the answer at an end -/
theorem m_ans {τ : List Int} {ν : List Nat} {lm : List Int64} {sk : List (Option rt_V)} {b' : rc_C} {ov : Option Value} {lo hi : Int} (h : b'.2.2.1 = ov.toList) (gs : ∀ (i : Nat) (x : rt_V), sk[i]? = some (some x) → ∃ v, b'.2.2.1[i]? = some v ∧ rt_gV τ ν lm mK ad x v) (h0 : sk[0]? = some (some (cI lo hi))) : ∃ z : Int32, ov = some (.int z) ∧ lo ≤ z.toInt ∧ z.toInt ≤ hi := by
  obtain ⟨v, e1, e2⟩ := gs 0 _ h0
  obtain ⟨z, rfl, e2, e3⟩ := m_cv e2
  rw [h] at e1
  cases ov with
  | none => cases e1
  | some y =>
    cases e1
    exact ⟨z, rfl, e2, e3⟩
theorem m_ansL {b' : rc_C} {ov : Option Value} (h : b'.2.2.1 = ov.toList) : b'.2.2.1.length ≤ 8 := by
  rw [h]
  cases ov with
  | none => decide
  | some x =>
    show 1 ≤ 8
    decide
theorem m_three {α : Type} {l : List α} {a b c : α} (h : l.length = 3) (h0 : l[0]? = some a) (h1 : l[1]? = some b) (h2 : l[2]? = some c) : l = [a, b, c] := by
  match l, h with
  | [x, y, z], _ =>
    cases h0
    cases h1
    cases h2
    rfl
set_option maxHeartbeats 2000000 in
theorem m_unit (hcx : rt_ctx KK mK ad (mF b)) (hMC : rt_MCok l D κ SP.2) (hMX : rt_MXok KK κ mK ad (mF b) MX) (hSW : rt_SWok KK κ mK ad (mF b) SW) (hCS : ∀ C ∈ CS, rt_Con l D KK κ mK ad (mF b) C) (hok : rt_all1 (fun b => b) (mp_L KK r) = true) (hr : r < 2) (hk : mu_chk KK MX SW CS SP n d r = true) (hd : 2 ≤ d) (t uF : Int) : rc_Met l κ D d 289 (fun vs w => mHp KK κ ad t w ∧ mJ r uF true w ∧ ∃ q : Nat, ad[0]? = some q ∧ vs = [.ref q]) (fun _ w ov w' => mQu KK κ ad r uF t w ov w') := by
  have em : mT[289]? = some (yX12_unit, cX12_unit, 6, some .boolean) := rfl
  obtain ⟨k0, hk⟩ := rt_cnd hk
  obtain ⟨k1, k2⟩ := rt_cnd hk
  have hrun := rt_run_ok (SP := SP) hcx hMC hMX hCS n
  have r196 : ri_rowOK mT yX12_unit cX12_unit 6 (some .boolean) 196 (.invokevirtual 456, 3, 12 + 4, 255, ((2 + 1 : Nat) : Int)) := ((tab_all 289 _ _ _ _ em).2.2.2.2.2 196 (.invokevirtual 456, 3, 16, 255, 3) rfl).resolve_left (fun h => by cases h)
  have r251 : ri_rowOK mT yX12_unit cX12_unit 6 (some .boolean) 251 (.invokevirtual 468, 3, 12 + 4, 199, ((2 + 1 : Nat) : Int)) := ((tab_all 289 _ _ _ _ em).2.2.2.2.2 251 (.invokevirtual 468, 3, 16, 199, 3) rfl).resolve_left (fun h => by cases h)
  refine rc_body (fun vs w => mV20 (rc_en vs) [some (.int (mz w 0 53)), some (.int (mz w 0 52)), some (.int (mz w 28 r))]) ?_ ?_ ?_
  · rintro vs w ⟨-, -, q, -, rfl⟩
    exact m_loc (Nat.le_of_ble_eq_true rfl) (fun i v h => h)
  · rintro y cc nL ret hm vs w ⟨-, -, q, -, rfl⟩
    rw [em] at hm
    cases hm
    show 1 ≤ 6
    decide
  · rintro y cc nL ret hm w vs ⟨hh, hJ, q, hq, rfl⟩ p e s m below meth c B
    rw [em] at hm
    cases hm
    have hb := mJ_P hJ
    obtain ⟨hu1, hu2⟩ := J_uF hJ
    -- a start with these numbers
    have st : ∀ (pc : Nat) (w1 : va_W) (t' : Int), mHp KK κ ad t' w1 → 1 ≤ mv w1 0 53 → mv w1 0 53 ≤ 89 → 0 ≤ mv w1 0 52 → mv w1 0 52 ≤ 7 → 0 ≤ mv w1 28 r → mv w1 28 r ≤ 40 → rt_rl KK κ mK ad w1 (mF b) t' (mu_S r pc) (pc, mV20 [some (.ref q)] [some (.int (mz w1 0 53)), some (.int (mz w1 0 52)), some (.int (mz w1 28 r))], [], w1) := fun pc w1 t' h c1 c2 c3 c4 c5 c6 => m_start (S := mu_S r pc) (cs := [0, 28]) (τ := [mv w1 0 53, mv w1 0 52, mv w1 28 r]) (mHp_hp h) rfl (by decide) rfl ⟨m_okB c1 c2 (Or.inl rfl), m_okB c3 c4 (Or.inl rfl), m_okB c5 c6 (Or.inl rfl), trivial⟩ (m_lo20 rfl (by decide) ⟨⟨_, rfl, 0, q, rfl, rfl, hq, rfl⟩, trivial⟩ ⟨⟨_, rfl, _, rfl, m_gI rfl⟩, ⟨_, rfl, _, rfl, m_gI rfl⟩, ⟨_, rfl, _, rfl, m_gI rfl⟩, trivial⟩) trivial (m_ovOB (ov := []) hok hr (m_gI rfl) (m_gI rfl) (m_gI rfl) trivial)
    -- behind pushE
    have fin1 : ∀ (V : List (Option Value)) (w1 : va_W) (cz nz : Int32) (du : Nat), V[0]? = some (some (.ref q)) → mHp KK κ ad (t - 1) w1 → mFm KK uF w w1 → mSm w w1 → mv w1 0 53 = mv w 0 53 → mv w1 0 52 = mv w 0 52 → mv w 0 52 ≤ 6 → mv w1 28 r = mv w 28 r + du → ((du = 0 ∧ cz.toInt = 3) ∨ (du = 1 ∧ cz.toInt = 7)) → mv w1 28 r ≤ 40 → nz.toInt = 126 → rc_AB p l e s m [Value.ref q].toArray below meth c 6 D w (MQ below (rc_Q D w s.heap.size (fun ov w' => mQu KK κ ad r uF t w ov w')) [Value.ref q].toArray s 0 0 (va_A w s.heap.size)) d (199, V, [], mPsh 38 39 53 cz nz w1) := by
      intro V w1 cz nz du hV H1 F1 S1 e53 e52 e6 e28 hx e40 hn
      obtain ⟨P1, P2, P3, P4, P5, P6, P7, P8⟩ := mp_push (uF := uF) hok H1 (by omega) (by omega) cz nz
      have g52 := P8 0 52 (by decide) (by decide) (fun q => by cases q.2)
      have g28 := P8 28 r (by decide) (by decide) (fun q => by cases q.1)
      have g51 := P8 0 51 (by decide) (by decide) (fun q => by cases q.2)
      refine rc_At_loc (V := mV20 [some (.ref q)] [some (.int (mz (mPsh 38 39 53 cz nz w1) 0 53)), some (.int (mz (mPsh 38 39 53 cz nz w1) 0 52)), some (.int (mz (mPsh 38 39 53 cz nz w1) 28 r))]) (m_loc (Nat.le_of_ble_eq_true rfl) (m_loc1 hV)) ?_
      refine hrun d 289 [196, 251] true _ _ _ k1 (by omega) _ _ 6 _ em (by decide) p e s m _ below meth c w B _ hh.1 (mPsh 38 39 53 cz nz w1) (t - 1) _ (st 199 _ (t - 1) P1 (by omega) (by omega) (by omega) (by omega) (by omega) (by omega)) (fun _ _ hf => by cases hf) (fun v S' b' ov z1 _ z2 z3 z4 => ?_)
      cases v with
      | none => cases z1
      | some x =>
        obtain ⟨tg, htg, hat⟩ := rt_tgt_ok hSW (show rt_tgt SW [mu_T2 r] S' = true from z1) z3
        rw [List.mem_singleton.mp htg] at hat
        obtain ⟨τ, ν, lm, -, g2, g3, gs, -, gg, go⟩ := m_end hat (by decide) (by decide) (m_ansL z2)
        obtain ⟨z, rfl, l1, l2⟩ := m_ans z2 gs rfl
        obtain ⟨f53, f52, f28, -⟩ := m_pwu hcx.2 g2.1 g3 gg go (fun i v h => m_ghost z4 rfl (Nat.le_of_ble_eq_true rfl) h) rfl rfl rfl rfl rfl rfl rfl rfl rfl rfl rfl rfl
        have f53 : mv b'.2.2.2 0 53 = mv (mPsh 38 39 53 cz nz w1) 0 53 + 0 := f53
        have f52 : mv b'.2.2.2 0 52 = mv (mPsh 38 39 53 cz nz w1) 0 52 + 1 := f52
        have f28 : mv b'.2.2.2 28 r = mv (mPsh 38 39 53 cz nz w1) 28 r + 0 := f28
        obtain ⟨R1, R2, ⟨R3, R4, R5, R6⟩, -, -⟩ := mp_run (uF := uF) hok (by omega) g2
        obtain ⟨S1a, S1b, S1c, S1d⟩ := S1
        refine ⟨z, rfl, mFm_tr (mFm_tr F1 P2) R2, Or.inl ⟨by omega, mHp_mono R1 (by omega), ?_⟩⟩
        rw [e53] at P4 P5 P6 P7
        refine J_push (x := cz.toInt) (du := du) hr hJ (by omega) (by omega) e6 (by omega) hx (by omega) (by omega) (fun j hj => ?_) (fun j hj hne => ?_) ?_ (fun j hj hne => ?_) ?_
        · rw [R3 j hj, P8 36 j (by decide) (by decide) (fun q => by cases q.1)]
          exact S1a j hj
        · rw [R4 j hj, P6 j hne]
          exact S1b j hj
        · rw [R4 _ (by omega)]
          exact P4
        · rw [R5 j hj, P7 j hne]
          exact S1c j hj
        · rw [R5 _ (by omega), P5]
          exact hn
    -- behind emit
    have fin2 : ∀ (V : List (Option Value)) (w1 : va_W) (cz nz : Int32), V[0]? = some (some (.ref q)) → mHp KK κ ad (t - 1) w1 → mFm KK uF w w1 → mSm w w1 → mv w1 0 53 = mv w 0 53 → mv w1 0 52 = mv w 0 52 → mv w1 28 r = mv w 28 r + 1 → mv w1 28 r ≤ 40 → 97 ≤ cz.toInt → cz.toInt ≤ 122 → rc_AB p l e s m [Value.ref q].toArray below meth c 6 D w (MQ below (rc_Q D w s.heap.size (fun ov w' => mQu KK κ ad r uF t w ov w')) [Value.ref q].toArray s 0 0 (va_A w s.heap.size)) d (254, V, [], mPsh 36 37 51 cz nz w1) := by
      intro V w1 cz nz hV H1 F1 S1 e53 e52 e28 e40 c1 c2
      obtain ⟨S1a, S1b, S1c, S1d⟩ := S1
      obtain ⟨P1, P2, P3, P4, P5, P6⟩ := mp_emit (uF := uF) hok hr H1 (by omega) (by omega) (by omega) cz nz
      have g52 := P6 0 52 (by decide) (by decide) (fun q => by cases q.2)
      have g28 := P6 28 r (by decide) (by decide) (fun q => by cases q.1)
      have g53 := P6 0 53 (by decide) (by decide) (fun q => by cases q.2)
      refine rc_At_loc (V := mV20 [some (.ref q)] [some (.int (mz (mPsh 36 37 51 cz nz w1) 0 53)), some (.int (mz (mPsh 36 37 51 cz nz w1) 0 52)), some (.int (mz (mPsh 36 37 51 cz nz w1) 28 r))]) (m_loc (Nat.le_of_ble_eq_true rfl) (m_loc1 hV)) ?_
      refine hrun d 289 [196, 251] true _ _ _ k2 (by omega) _ _ 6 _ em (by decide) p e s m _ below meth c w B _ hh.1 (mPsh 36 37 51 cz nz w1) (t - 1) _ (st 254 _ (t - 1) P1 (by omega) (by omega) (by omega) (by omega) (by omega) (by omega)) (fun _ _ hf => by cases hf) (fun v S' b' ov z1 _ z2 z3 z4 => ?_)
      cases v with
      | none => cases z1
      | some x =>
        obtain ⟨tg, htg, hat⟩ := rt_tgt_ok hSW (show rt_tgt SW [mu_T3 r] S' = true from z1) z3
        rw [List.mem_singleton.mp htg] at hat
        obtain ⟨τ, ν, lm, -, g2, g3, gs, -, gg, go⟩ := m_end hat (by decide) (by decide) (m_ansL z2)
        obtain ⟨z, rfl, l1, l2⟩ := m_ans z2 gs rfl
        obtain ⟨f53, f52, f28, -⟩ := m_pwu hcx.2 g2.1 g3 gg go (fun i v h => m_ghost z4 rfl (Nat.le_of_ble_eq_true rfl) h) rfl rfl rfl rfl rfl rfl rfl rfl rfl rfl rfl rfl
        have f53 : mv b'.2.2.2 0 53 = mv (mPsh 36 37 51 cz nz w1) 0 53 + 0 := f53
        have f52 : mv b'.2.2.2 0 52 = mv (mPsh 36 37 51 cz nz w1) 0 52 + 0 := f52
        have f28 : mv b'.2.2.2 28 r = mv (mPsh 36 37 51 cz nz w1) 28 r + 0 := f28
        obtain ⟨R1, R2, ⟨R3, R4, R5, R6⟩, -, -⟩ := mp_run (uF := uF) hok (by omega) g2
        refine ⟨z, rfl, mFm_tr (mFm_tr F1 P2) R2, Or.inr (Or.inl ⟨by omega, mHp_mono R1 (by omega), ?_⟩)⟩
        rw [S1d] at P4 P5
        refine J_let hr hJ (by omega) (by omega) (by omega) (by omega) (by omega) (fun j hj hne => ?_) ?_ ?_ (fun j hj => ?_) (fun j hj => ?_)
        · rw [R3 j hj, P5 j hne]
          exact S1a j hj
        · rw [R3 _ (by omega), P4]
          exact c1
        · rw [R3 _ (by omega), P4]
          exact c2
        · rw [R4 j hj, P6 38 j (by decide) (by decide) (fun q => by cases q.1)]
          exact S1b j hj
        · rw [R5 j hj, P6 39 j (by decide) (by decide) (fun q => by cases q.1)]
          exact S1c j hj
    refine hrun d 289 [196, 251] false _ _ _ k0 (by omega) _ _ 6 _ em (by decide) p e s m _ below meth c w B _ hh.1 w t _ (st 0 w t hh (by omega) (by omega) (by omega) (by omega) (by omega) (by omega)) (fun S' b' z1 z2 z3 => ?_) (fun v S' b' ov z1 _ z2 z3 z4 => ?_)
    · obtain ⟨hl3, tg, htg, hat⟩ := rt_tgl_ok hSW z1 z2
      have run : ∀ {E : List rt_B} {sk : List (Option rt_V)} {pc : Nat} {du : Int} {B1 B2 B3 : rt_B}, rt_atT KK κ mK ad w (mF b) t (mT8 pc 32 1 E [79, 27] sk [some mM] mg3 (mOB r (tgI 1 0) (tgI 2 0) (tgI 3 du))) b' → sk.length ≤ 8 → ¬ pc = 0 → E[0]? = some B1 → E[1]? = some B2 → E[2]? = some B3 → ∀ {a1 b1 a2 b2 : Int}, sk[0]? = some (some (cI a1 b1)) → sk[1]? = some (some (cI a2 b2)) → sk[2]? = some (some mM) → ∃ nz cz : Int32, b'.1 = pc ∧ b'.2.1[0]? = some (some (.ref q)) ∧ b'.2.2.1 = [.int nz, .int cz, .ref q] ∧ a1 ≤ nz.toInt ∧ nz.toInt ≤ b1 ∧ a2 ≤ cz.toInt ∧ cz.toInt ≤ b2 ∧ mHp KK κ ad (t - 1) b'.2.2.2 ∧ mFm KK uF w b'.2.2.2 ∧ mSm w b'.2.2.2 ∧ mv b'.2.2.2 0 53 = mv w 0 53 + 0 ∧ mv b'.2.2.2 0 52 = mv w 0 52 + 0 ∧ mv b'.2.2.2 28 r = mv w 28 r + du ∧ mv w 0 52 ≤ B2.1.2 ∧ mv w 28 r ≤ B3.1.2 := by
        intro E sk pc du B1 B2 B3 hat h8 hpc0 e1 e2 e3 a1 b1 a2 b2 s0 s1 s2
        obtain ⟨τ, ν, lm, hpc, g2, g3, gs, ga, gg, go⟩ := m_end hat h8 (by decide) (by omega)
        obtain ⟨f53, f52, f28, -, -, -, m6, -, m9⟩ := m_pwu (pz := mz w 0 53) (wz := mz w 0 52) (uz := mz w 28 r) hcx.2 g2.1 g3 gg go (fun i v h => m_ghost z3 rfl (Nat.le_of_ble_eq_true rfl) h) rfl rfl rfl rfl rfl rfl rfl rfl rfl e1 e2 e3
        obtain ⟨v0, x0, y0⟩ := gs 0 _ s0
        obtain ⟨nz, rfl, n1, n2⟩ := m_cv y0
        obtain ⟨v1, x1, y1⟩ := gs 1 _ s1
        obtain ⟨cz, rfl, c1, c2⟩ := m_cv y1
        obtain ⟨v2, x2, y2⟩ := gs 2 _ s2
        have := m_this hq y2
        subst this
        obtain ⟨v3, x3, y3⟩ := ga 0 _ rfl
        have := m_this hq y3
        subst this
        obtain ⟨R1, R2, R3, -, -⟩ := mp_run (uF := uF) hok (by omega) g2
        exact ⟨nz, cz, hpc.resolve_left hpc0, x3, m_three hl3 x0 x1 x2, n1, n2, c1, c2, mHp_mono R1 (by omega), R2, R3, f53, f52, f28, m6, m9⟩
      rcases List.mem_cons.mp htg with rfl | htg
      · obtain ⟨nz, cz, hpc, hV, hst, n1, n2, c1, c2, H1, F1, S1, e53, e52, e28, m6, m9⟩ := run hat (by decide) (by decide) rfl rfl rfl rfl rfl rfl
        have m6 : mv w 0 52 ≤ 6 := m6
        obtain ⟨b1, V, b3, w1⟩ := b'
        have hpc : b1 = 196 := hpc
        have hst : b3 = _ := hst
        subst hpc
        subst hst
        exact m_callP B hok hd r196 hq H1 (by show 0 ≤ mv w1 0 53; have e53 : mv w1 0 53 = mv w 0 53 + 0 := e53; omega) (by show mv w1 0 53 < 90; have e53 : mv w1 0 53 = mv w 0 53 + 0 := e53; omega) (fin1 V w1 cz nz 0 hV H1 F1 S1 (by rw [e53]; omega) (by rw [e52]; omega) m6 (by rw [e28]; rfl) (Or.inl ⟨rfl, by omega⟩) (by rw [e28]; omega) (by omega))
      · rcases List.mem_cons.mp htg with rfl | htg
        · obtain ⟨nz, cz, hpc, hV, hst, n1, n2, c1, c2, H1, F1, S1, e53, e52, e28, m6, m9⟩ := run hat (by decide) (by decide) rfl rfl rfl rfl rfl rfl
          have m6 : mv w 0 52 ≤ 6 := m6
          have m9 : mv w 28 r ≤ 39 := m9
          obtain ⟨b1, V, b3, w1⟩ := b'
          have hpc : b1 = 196 := hpc
          have hst : b3 = _ := hst
          subst hpc
          subst hst
          exact m_callP B hok hd r196 hq H1 (by show 0 ≤ mv w1 0 53; have e53 : mv w1 0 53 = mv w 0 53 + 0 := e53; omega) (by show mv w1 0 53 < 90; have e53 : mv w1 0 53 = mv w 0 53 + 0 := e53; omega) (fin1 V w1 cz nz 1 hV H1 F1 S1 (by rw [e53]; omega) (by rw [e52]; omega) m6 (by rw [e28]; rfl) (Or.inr ⟨rfl, by omega⟩) (by rw [e28]; omega) (by omega))
        · rw [List.mem_singleton.mp htg] at hat
          obtain ⟨nz, cz, hpc, hV, hst, n1, n2, c1, c2, H1, F1, S1, e53, e52, e28, m6, m9⟩ := run hat (by decide) (by decide) rfl rfl rfl rfl rfl rfl
          have m9 : mv w 28 r ≤ 39 := m9
          obtain ⟨b1, V, b3, w1⟩ := b'
          have hpc : b1 = 251 := hpc
          have hst : b3 = _ := hst
          subst hpc
          subst hst
          have e51 : mv w1 0 51 = mv w 0 51 := S1.2.2.2
          exact m_callE B hok hd r251 hq H1 (by omega) (by omega) (fin2 V w1 cz nz hV H1 F1 S1 (by rw [e53]; omega) (by rw [e52]; omega) (by rw [e28]) (by rw [e28]; omega) c1 c2)
    · cases v with
      | none => cases z1
      | some x =>
        obtain ⟨tg, htg, hat⟩ := rt_tgt_ok hSW (show rt_tgt SW [mu_TR r] S' = true from z1) z3
        rw [List.mem_singleton.mp htg] at hat
        obtain ⟨τ, ν, lm, -, g2, g3, gs, -, gg, go⟩ := m_end hat (by decide) (by decide) (m_ansL z2)
        obtain ⟨z, rfl, l1, l2⟩ := m_ans z2 gs rfl
        obtain ⟨f53, f52, f28, -⟩ := m_pwu (pz := mz w 0 53) (wz := mz w 0 52) (uz := mz w 28 r) hcx.2 g2.1 g3 gg go (fun i v h => m_ghost z4 rfl (Nat.le_of_ble_eq_true rfl) h) rfl rfl rfl rfl rfl rfl rfl rfl rfl rfl rfl rfl
        have f28 : mv b'.2.2.2 28 r = mv w 28 r + 0 := f28
        obtain ⟨R1, R2, R3, -, -⟩ := mp_run (uF := uF) hok (by omega) g2
        have f4 := rt_gI_0.mp (m_ov hcx.2 g2.1 g3.2.1 go (j := 0) (c := 0) (f := 4) (i := 4) rfl rfl rfl)
        refine ⟨z, rfl, R2, Or.inr (Or.inr ⟨by omega, mHp_mono R1 (by omega), mD_same hr (mJ_D hJ) R3 (by omega), ?_⟩)⟩
        show 1 ≤ (mz b'.2.2.2 0 4).toInt
        exact f4.1
end MUNIT2
