/-! isCompared, unit -/
noncomputable def mq_L (KK : List (List rt_K)) : List Bool := [mG mE1 KK 25 53, mG mE1 KK 25 52, mA mE1 KK 25 28 2, mG mE1 KK 25 6, mG mE1 KK 25 8, mI1 mAny KK 25 0 38 90, mRf KK 25 48 38, mIn KK 25 0 53 mcB mcT, mA mE1 KK 25 38 90]
section MUNIT
variable {l : Launch} {D : va_G} {KK : List (List rt_K)} {κ : Nat → ClassId} {ad : List Nat} {MX : rt_X} {SW : rt_W} {CS : List rt_Co} {SP : rt_SP} {g b r d n : Nat} {w w' ws0 : va_W} {t t0 : Int} {τ : List Int} {ν : List Nat} {lm : List Int64} {cs : List Nat}
theorem mq_at (h : rt_all1 (fun b => b) (mq_L KK) = true) {i : Nat} {b : Bool} (hi : (mq_L KK)[i]? = some b) : b = true := rt_all1_ok h b (List.mem_of_getElem? hi)
theorem m_ovT {j c k : Nat} {b o : Int} {x : ri_I} (hc : cs[j]? = some c) (hb : rt_bs τ k = some b) (s : Nat) (hs : b + o = (s : Int)) (hty : ∃ a, mTy KK g c s = some a) (hx : rt_gI τ x (mz w c s)) : mOv KK g cs τ w (Nat.succ j, (k, o), .inl x) := by
  obtain ⟨a, hty⟩ := hty
  have e : (b + o).toNat = s := by omega
  exact ⟨c, b, a, hc, hb, by show 0 ≤ b + o; omega, by show mTy KK g c (b + o).toNat = some a; rw [e]; exact hty, by show rt_gI τ x (mz w c (b + o).toNat); rw [e]; exact hx⟩
theorem m_ovF {j c f : Nat} {x : ri_I} (hc : cs[j]? = some c) (hty : ∃ a, mTy KK g c f = some a) (hx : rt_gI τ x (mz w c f)) : mOv KK g cs τ w (Nat.succ j, (0, (f : Int)), .inl x) := m_ovT hc (b := 0) rfl f (by omega) hty hx
theorem m_ex {c j : Nat} {lo hi : Int} (h : mIn KK g c j lo hi = true) : ∃ a, mTy KK g c j = some a := by
  obtain ⟨a, h, -⟩ := mIn_ok h
  exact ⟨a, h⟩
theorem m_exB {c j : Nat} {lo hi : Int} (h : mBd KK g c j lo hi = true) : ∃ a, mTy KK g c j = some a := by
  obtain ⟨a, h, -⟩ := mBd_ok h
  exact ⟨a, h⟩
theorem m_exA {P : Int × Int → Bool} {k i n j : Nat} (h : mI1 P KK g k i n = true) (hj : j < n) : ∃ a, mTy KK g i j = some a := by
  obtain ⟨a, h, -⟩ := mI1_ty h hj
  exact ⟨a, h⟩
theorem m_ovOB (hok : rt_all1 (fun b => b) (mp_L KK r) = true) (hr : r < 2) {p q u : ri_I} {ov : List rt_O} (h1 : rt_gI τ p (mz w 0 53)) (h2 : rt_gI τ q (mz w 0 52)) (h3 : rt_gI τ u (mz w 28 r)) (h : mOvs KK 32 (0 :: 28 :: cs) τ w ov) : mOvs KK 32 (0 :: 28 :: cs) τ w (mOB r (.inl p) (.inl q) (.inl u) ++ ov) := ⟨m_ovF (f := 53) rfl (m_ex (mp_at hok (i := 14) rfl)) h1, m_ovF (f := 52) rfl (m_ex (mp_at hok (i := 15) rfl)) h2, ⟨rfl, 28, 36, rfl, rfl, rfl, mp_at hok (i := 5) rfl⟩, m_ovF (j := 1) (c := 28) (f := r) rfl (m_exA (mp_at hok (i := 11) rfl) hr) h3, h⟩
theorem m_this {q : Nat} {v : Value} (hq : ad[0]? = some q) (h : rt_gV τ ν lm mK ad mM v) : v = .ref q := by
  obtain ⟨p, rfl, ⟨i, h1, h2⟩, -⟩ := h
  have := mK_inj i 0 79 h2 rfl
  subst this
  rw [hq] at h1
  cases h1
  rfl
theorem m_tgv {k : Nat} {o x : Int} {v : Value} (h : rt_gV τ ν lm mK ad (tgI (k + 1) o) v) (hb : τ[k]? = some x) : ∃ z : Int32, v = .int z ∧ z.toInt = x + o := by
  obtain ⟨z, rfl, hz⟩ := h
  exact ⟨z, rfl, m_gIe hz hb⟩
theorem m_cv {lo hi : Int} {v : Value} (h : rt_gV τ ν lm mK ad (cI lo hi) v) : ∃ z : Int32, v = .int z ∧ lo ≤ z.toInt ∧ z.toInt ≤ hi := by
  obtain ⟨z, rfl, hz⟩ := h
  exact ⟨z, rfl, rt_gI_0.mp hz⟩
theorem m_ov {ov : List rt_O} {R : List Nat} (hi : ∀ (i j q : Nat), ad[i]? = some q → ad[j]? = some q → i = j) (had : ri_ad w = ad) (hR : rt_okR mK ad R ν) (go : ∀ o ∈ ov, rt_gO τ ν lm mK ad w o) {j f c kk i : Nat} {x : ri_I} (ho : ov[i]? = some (j + 1, (0, (f : Int)), .inl x)) (h1 : R[j]? = some kk) (h2 : mK[c]? = some kk) : rt_gI τ x (mz w c f) := m_O0 hi had hR (go _ (List.mem_of_getElem? ho)) h1 h2
/-- piled, within, units at an end -/
theorem m_pwu {b' : rc_C} {E : List rt_B} {R' : List Nat} {Gh : List (Option rt_V)} {Vg : List (Option Value)} {ov : List rt_O} (hi : ∀ (i j q : Nat), ad[i]? = some q → ad[j]? = some q → i = j) (had : ri_ad b'.2.2.2 = ad) (g3 : rt_okN mK ad (E, 79 :: 27 :: R', []) τ ν lm) (gg : ∀ (i : Nat) (x : rt_V), Gh[i]? = some (some x) → ∃ v, b'.2.1[20 + i]? = some (some v) ∧ rt_gV τ ν lm mK ad x v) (go : ∀ o ∈ ov, rt_gO τ ν lm mK ad b'.2.2.2 o) (hgh : ∀ (i : Nat) (v : Value), b'.2.1[20 + i]? = some (some v) → Vg[i]? = some (some v)) {t1 t2 t3 : Nat} {pz wz uz : Int32} {dp dw du : Int} {B1 B2 B3 : rt_B} (e1 : Gh[0]? = some (some (tgI (t1 + 1) 0))) (e2 : Gh[1]? = some (some (tgI (t2 + 1) 0))) (e3 : Gh[2]? = some (some (tgI (t3 + 1) 0))) (v1 : Vg[0]? = some (some (.int pz))) (v2 : Vg[1]? = some (some (.int wz))) (v3 : Vg[2]? = some (some (.int uz))) (o1 : ov[0]? = some (1, (0, ((53 : Nat) : Int)), tgI (t1 + 1) dp)) (o2 : ov[1]? = some (1, (0, ((52 : Nat) : Int)), tgI (t2 + 1) dw)) (o3 : ov[3]? = some (2, (0, (r : Int)), tgI (t3 + 1) du)) (b1 : E[t1]? = some B1) (b2 : E[t2]? = some B2) (b3 : E[t3]? = some B3) : mv b'.2.2.2 0 53 = pz.toInt + dp ∧ mv b'.2.2.2 0 52 = wz.toInt + dw ∧ mv b'.2.2.2 28 r = uz.toInt + du ∧ B1.1.1 ≤ pz.toInt ∧ pz.toInt ≤ B1.1.2 ∧ B2.1.1 ≤ wz.toInt ∧ wz.toInt ≤ B2.1.2 ∧ B3.1.1 ≤ uz.toInt ∧ uz.toInt ≤ B3.1.2 := by
  obtain ⟨x1, y1, l1, k1, -⟩ := m_tg g3.1 b1
  obtain ⟨x2, y2, l2, k2, -⟩ := m_tg g3.1 b2
  obtain ⟨x3, y3, l3, k3, -⟩ := m_tg g3.1 b3
  obtain ⟨w1, a1, c1⟩ := gg 0 _ e1
  obtain ⟨z1, rfl, c1⟩ := m_tgv c1 y1
  have a1 := hgh 0 _ a1
  rw [v1] at a1
  cases a1
  obtain ⟨w2, a2, c2⟩ := gg 1 _ e2
  obtain ⟨z2, rfl, c2⟩ := m_tgv c2 y2
  have a2 := hgh 1 _ a2
  rw [v2] at a2
  cases a2
  obtain ⟨w3, a3, c3⟩ := gg 2 _ e3
  obtain ⟨z3, rfl, c3⟩ := m_tgv c3 y3
  have a3 := hgh 2 _ a3
  rw [v3] at a3
  cases a3
  have q1 := m_gIe (m_ov hi had g3.2.1 go (j := 0) (c := 0) (f := 53) o1 rfl rfl) y1
  have q2 := m_gIe (m_ov hi had g3.2.1 go (j := 0) (c := 0) (f := 52) o2 rfl rfl) y2
  have q3 := m_gIe (m_ov hi had g3.2.1 go (j := 1) (c := 28) (f := r) o3 rfl rfl) y3
  refine ⟨?_, ?_, ?_, by omega, by omega, by omega, by omega, by omega, by omega⟩
  · show (mz b'.2.2.2 0 53).toInt = _
    omega
  · show (mz b'.2.2.2 0 52).toInt = _
    omega
  · show (mz b'.2.2.2 28 r).toInt = _
    omega
theorem m_loc1 {V : List (Option Value)} {a : Value} (h0 : V[0]? = some (some a)) : ∀ (i : Nat) (v : Value), [some a][i]? = some (some v) → V[i]? = some (some v) := fun i v h => by
  match i, h with
  | 0, h => cases h; exact h0
  | i + 1, h => cases h
theorem m_loc2 {V : List (Option Value)} {a c : Value} (h0 : V[0]? = some (some a)) (h1 : V[1]? = some (some c)) : ∀ (i : Nat) (v : Value), [some a, some c][i]? = some (some v) → V[i]? = some (some v) := fun i v h => by
  match i, h with
  | 0, h => cases h; exact h0
  | 1, h => cases h; exact h1
  | i + 2, h => cases h
set_option maxHeartbeats 1000000 in
theorem m_isCmp (hcx : rt_ctx KK mK ad (mF b)) (hMC : rt_MCok l D κ SP.2) (hMX : rt_MXok KK κ mK ad (mF b) MX) (hSW : rt_SWok KK κ mK ad (mF b) SW) (hmx : rt_mx MX 32 25 25 = some 32) (hk : mi_chk KK MX SW SP n d = true) (hq : rt_all1 (fun b => b) (mq_L KK) = true) (hd : 1 ≤ d) (t : Int) : rc_Met l κ D d 223 (fun vs w => mHp KK κ ad t w ∧ 1 ≤ mv w 0 53 ∧ mv w 0 53 ≤ 89 ∧ mv w 38 0 = 8 ∧ ∃ q : Nat, ad[0]? = some q ∧ vs = [.ref q]) (fun vs w ov w' => (∃ z : Int32, ov = some (.int z) ∧ 0 ≤ z.toInt ∧ z.toInt ≤ 1) ∧ rt_hp KK κ mK ad w (mF b) t 25 0 w') := by
  have em : mT[223]? = some (yX12_isCompared, cX12_isCompared, 2, some .boolean) := rfl
  obtain ⟨k0, hk⟩ := rt_cnd hk
  obtain ⟨k1, hk⟩ := rt_cnd hk
  obtain ⟨k2, k3⟩ := rt_cnd hk
  have hrun := rt_run_ok (SP := SP) (CS := []) hcx hMC hMX (fun _ h => by cases h) n
  refine rc_body (fun vs _ => mV20 (rc_en vs) []) ?_ ?_ ?_
  · rintro vs w ⟨-, -, -, -, q, -, rfl⟩
    exact m_loc (Nat.le_of_ble_eq_true rfl) (fun i v h => h)
  · rintro y cc nL ret hm vs w ⟨-, -, -, -, q, -, rfl⟩
    rw [em] at hm
    cases hm
    show 1 ≤ 2
    decide
  · rintro y cc nL ret hm w vs ⟨hh, h1, h89, h8, q, hq0, rfl⟩ p e s m below meth c B
    rw [em] at hm
    cases hm
    have hh25 : rt_hp KK κ mK ad w (mF b) t 25 0 w := by
      have := (hMX 32 25 25 32 hmx).1 w t 0 w (mHp_hp hh)
      rw [show t - ((0 : Nat) : Int) = t by omega] at this
      exact this
    have ret_ok : ∀ (v : Option rt_V) (S' : rt_S) (b' : rc_C) (ov : Option Value), rt_tgi SW [mi_R] v S' = true → b'.2.2.1 = ov.toList → rt_rl KK κ mK ad w (mF b) t S' b' → (∃ z : Int32, ov = some (.int z) ∧ 0 ≤ z.toInt ∧ z.toInt ≤ 1) ∧ rt_hp KK κ mK ad w (mF b) t 25 0 b'.2.2.2 := by
      intro v S' b' ov z1 z2 z3
      cases v with
      | none => cases z1
      | some x =>
        obtain ⟨tg, htg, hat⟩ := rt_tgt_ok hSW (show rt_tgt SW [mi_R] S' = true from z1) z3
        rw [List.mem_singleton.mp htg] at hat
        have hlen : b'.2.2.1.length ≤ 8 := by
          rw [z2]
          cases ov with
          | none => decide
          | some x =>
            show 1 ≤ 8
            decide
        obtain ⟨τ, ν, lm, -, g2, g3, gs, -, -, -⟩ := m_end hat (by decide) (by decide) hlen
        obtain ⟨v, e1, e2⟩ := gs 0 _ rfl
        obtain ⟨z, rfl, e2, e3⟩ := m_cv e2
        rw [z2] at e1
        cases ov with
        | none => cases e1
        | some y =>
          cases e1
          exact ⟨⟨z, rfl, e2, e3⟩, g2⟩
    have loop : ∀ (N : Nat) (k : Int32) (w' : va_W), k.toInt.toNat ≤ N → 0 ≤ k.toInt → k.toInt ≤ 88 → rt_hp KK κ mK ad w (mF b) t 25 0 w' → rc_AB p l e s m [Value.ref q].toArray below meth c 2 D w (MQ below (rc_Q D w s.heap.size (fun ov w' => (∃ z : Int32, ov = some (.int z) ∧ 0 ≤ z.toInt ∧ z.toInt ≤ 1) ∧ rt_hp KK κ mK ad w (mF b) t 25 0 w')) [Value.ref q].toArray s 0 0 (va_A w s.heap.size)) d (7, mV20 [some (.ref q), some (.int k)] [some (.int k)], [], w') := by
      intro N
      induction N with
      | zero =>
        intro k w' hN b0 b88 hw
        have e38 := mA_ok (mq_at hq (i := 8) rfl) mE1_ok hw.2.2.1
        have x8 : mv w' 38 k.toInt.toNat = 8 := by
          rw [show k.toInt.toNat = 0 by omega, e38 0 (by decide)]
          exact h8
        refine hrun d 223 [7] true _ _ _ k3 hd _ _ 2 _ em (by decide) p e s m _ below meth c w B _ hh.1 w t _ (m_start (cs := [0, 38]) (τ := [k.toInt, mv w' 38 k.toInt.toNat]) hw rfl (by decide) rfl ⟨m_okB (show (0 : Int) ≤ _ from b0) (show _ ≤ (88 : Int) from b88) (Or.inl rfl), m_okB (show (7 : Int) ≤ _ by omega) (show _ ≤ (2147483647 : Int) by omega) (Or.inl rfl), trivial⟩ (m_lo20 rfl (by decide) ⟨⟨_, rfl, 0, q, rfl, rfl, hq0, rfl⟩, ⟨_, rfl, k, rfl, m_gI rfl⟩, trivial⟩ ⟨⟨_, rfl, k, rfl, m_gI rfl⟩, trivial⟩) trivial ⟨⟨rfl, 38, 48, rfl, rfl, rfl, mq_at hq (i := 6) rfl⟩, m_ovT (j := 1) (c := 38) rfl rfl k.toInt.toNat (by omega) (m_exA (mq_at hq (i := 5) rfl) (by omega)) (m_gI rfl), trivial⟩) (fun _ _ hf => by cases hf) (fun v S' b' ov z1 _ z2 z3 _ => ret_ok v S' b' ov z1 z2 z3)
      | succ N ih =>
        intro k w' hN b0 b88 hw
        have e38 := mA_ok (mq_at hq (i := 8) rfl) mE1_ok hw.2.2.1
        have st : ∀ {lo hi x y : Int}, lo ≤ k.toInt → k.toInt ≤ hi → x ≤ mv w' 38 k.toInt.toNat → mv w' 38 k.toInt.toNat ≤ y → rt_rl KK κ mK ad w (mF b) t (mi_S lo hi x y) (7, mV20 [some (.ref q), some (.int k)] [some (.int k)], [], w') := fun c1 c2 c3 c4 => m_start (S := mi_S _ _ _ _) (cs := [0, 38]) (τ := [k.toInt, mv w' 38 k.toInt.toNat]) hw rfl (by decide) rfl ⟨m_okB c1 c2 (Or.inl rfl), m_okB c3 c4 (Or.inl rfl), trivial⟩ (m_lo20 rfl (by decide) ⟨⟨_, rfl, 0, q, rfl, rfl, hq0, rfl⟩, ⟨_, rfl, k, rfl, m_gI rfl⟩, trivial⟩ ⟨⟨_, rfl, k, rfl, m_gI rfl⟩, trivial⟩) trivial ⟨⟨rfl, 38, 48, rfl, rfl, rfl, mq_at hq (i := 6) rfl⟩, m_ovT (j := 1) (c := 38) rfl rfl k.toInt.toNat (by omega) (m_exA (mq_at hq (i := 5) rfl) (by omega)) (m_gI rfl), trivial⟩
        have lo1 : (-2147483648 : Int) ≤ mv w' 38 k.toInt.toNat := Int32.le_toInt _
        have hi1 : mv w' 38 k.toInt.toNat < 2147483648 := Int32.toInt_lt _
        rcases (show mv w' 38 k.toInt.toNat ≤ 4 ∨ (5 ≤ mv w' 38 k.toInt.toNat ∧ mv w' 38 k.toInt.toNat ≤ 6) ∨ 7 ≤ mv w' 38 k.toInt.toNat by omega) with c1 | ⟨c1, c2⟩ | c1
        · exact hrun d 223 [7] true _ _ _ k2 hd _ _ 2 _ em (by decide) p e s m _ below meth c w B _ hh.1 w t _ (st b0 b88 lo1 c1) (fun _ _ hf => by cases hf) (fun v S' b' ov z1 _ z2 z3 _ => ret_ok v S' b' ov z1 z2 z3)
        · have hk1 : 1 ≤ k.toInt := by
            rcases (show k.toInt = 0 ∨ 1 ≤ k.toInt by omega) with h0 | h0
            · exfalso
              rw [show k.toInt.toNat = 0 by omega, e38 0 (by decide), h8] at c2
              omega
            · exact h0
          refine hrun d 223 [7] true _ _ _ k1 hd _ _ 2 _ em (by decide) p e s m _ below meth c w B _ hh.1 w t _ (st hk1 b88 c1 c2) (fun S' b' z1 z2 z3 => ?_) (fun v S' b' ov hf => by cases hf)
          obtain ⟨hl0, tg, htg, hat⟩ := rt_tgl_ok hSW z1 z2
          rw [List.mem_singleton.mp htg] at hat
          obtain ⟨τ, ν, lm, hpc, g2, g3, -, ga, gg, -⟩ := m_end hat (by decide) (by decide) (by omega)
          have hpc : b'.1 = 7 := hpc.resolve_left (by decide)
          have hb0 : b'.2.2.1 = [] := List.length_eq_zero_iff.mp hl0
          obtain ⟨x, tx, x0, x1, -⟩ := m_tg g3.1 (k := 0) rfl
          obtain ⟨v0, p0, q0⟩ := ga 0 _ rfl
          have := m_this hq0 q0
          subst this
          obtain ⟨v1, p1, q1⟩ := ga 1 _ rfl
          obtain ⟨k', rfl, q1⟩ := m_tgv q1 tx
          obtain ⟨v2, p2, q2⟩ := gg 0 _ rfl
          obtain ⟨k2', rfl, q2⟩ := m_tgv q2 tx
          have p2 := m_ghost z3 rfl (Nat.le_of_ble_eq_true rfl) p2
          cases p2
          have x0 : 0 ≤ x := x0
          refine rc_At_loc (V := mV20 [some (.ref q), some (.int k')] [some (.int k')]) (m_loc (Nat.le_of_ble_eq_true rfl) (m_loc2 p0 p1)) ?_
          rw [hb0, hpc]
          exact ih k' b'.2.2.2 (by omega) (by omega) (by omega) g2
        · exact hrun d 223 [7] true _ _ _ k3 hd _ _ 2 _ em (by decide) p e s m _ below meth c w B _ hh.1 w t _ (st b0 b88 c1 (by show _ ≤ (2147483647 : Int); omega)) (fun _ _ hf => by cases hf) (fun v S' b' ov z1 _ z2 z3 _ => ret_ok v S' b' ov z1 z2 z3)
    refine hrun d 223 [7] false _ _ _ k0 hd _ _ 2 _ em (by decide) p e s m _ below meth c w B _ hh.1 w t (0, mV20 [some (.ref q)] [], [], w) (m_start (cs := [0]) (τ := [mv w 0 53]) hh25 rfl (by decide) rfl ⟨m_okB (show (1 : Int) ≤ _ from h1) (show _ ≤ (89 : Int) from h89) (Or.inl rfl), trivial⟩ (m_lo20 rfl (by decide) ⟨⟨_, rfl, 0, q, rfl, rfl, hq0, rfl⟩, trivial⟩ trivial) trivial ⟨m_ovF (f := 53) rfl (m_ex (mq_at hq (i := 7) rfl)) (m_gI rfl), trivial⟩) (fun S' b' z1 z2 z3 => ?_) (fun v S' b' ov hf => by cases hf)
    obtain ⟨hl0, tg, htg, hat⟩ := rt_tgl_ok hSW z1 z2
    rw [List.mem_singleton.mp htg] at hat
    obtain ⟨τ, ν, lm, hpc, g2, g3, -, ga, -, -⟩ := m_end hat (by decide) (by decide) (by omega)
    have hpc : b'.1 = 7 := hpc.resolve_left (by decide)
    have hb0 : b'.2.2.1 = [] := List.length_eq_zero_iff.mp hl0
    obtain ⟨x, tx, x0, x1, -⟩ := m_tg g3.1 (k := 0) rfl
    obtain ⟨v0, p0, q0⟩ := ga 0 _ rfl
    have := m_this hq0 q0
    subst this
    obtain ⟨v1, p1, q1⟩ := ga 1 _ rfl
    obtain ⟨k', rfl, q1⟩ := m_tgv q1 tx
    have x0 : 0 ≤ x := x0
    have x1 : x ≤ 88 := x1
    refine rc_At_loc (V := mV20 [some (.ref q), some (.int k')] [some (.int k')]) (m_loc (Nat.le_of_ble_eq_true rfl) (m_loc2 p0 p1)) ?_
    rw [hb0, hpc]
    exact loop _ k' b'.2.2.2 (Nat.le_refl _) (by omega) (by omega) g2
end MUNIT
