/-! readCross -/
noncomputable def mEn (KK : List (List rt_K)) (g g' : Nat) : Bool := match ri_nth KK g with
  | none => false
  | some l => (match ri_nth KK g' with
    | none => false
    | some m => rt_cK rt_enP l l m)
noncomputable def mr_L (KK : List (List rt_K)) : List Bool := [mEn KK 23 33, mEn KK 33 32, mEn KK 32 33, mEn KK 33 23, mFl KK 33 23, mA mE1 KK 33 36 800, mG mE1 KK 33 51, mA mE1 KK 33 28 2, mRf KK 33 35 27, mRf KK 33 41 33, mRf KK 33 42 34, mI1 mAny KK 33 0 27 2, mI1 mAny KK 33 0 33 8, mI1 mAny KK 33 0 34 8, mBd KK 33 0 51 0 800]
def mr_C (d r : Nat) : rt_Co := ((258, d), 23, (([((0, 3), (0, 0), none, none)], [79, 26], []), [some (.inr (.inl (79, 1)))], [(1, (0, 35), .inr (.inl (26, 2))), (2, (0, (r : Int)), .inl (1, 0, 0))]), [((23, 0), none, [])])
section MCROSS
variable {l : Launch} {D : va_G} {KK : List (List rt_K)} {κ : Nat → ClassId} {ad : List Nat} {MX : rt_X} {SW : rt_W} {CS : List rt_Co} {SP : rt_SP} {b r d n g : Nat} {τ : List Int} {ν : List Nat} {lm : List Int64} {cs : List Nat} {w : va_W}
theorem mr_at (h : rt_all1 (fun b => b) (mr_L KK) = true) {i : Nat} {b : Bool} (hi : (mr_L KK)[i]? = some b) : b = true := rt_all1_ok h b (List.mem_of_getElem? hi)
theorem mEn_ok {g' : Nat} (h : mEn KK g g' = true) (hH : rt_gH KK g κ mK ad w) (had : ri_ad w = ad) : rt_gH KK g' κ mK ad w := by
  unfold mEn at h
  rw [ri_nth_eq, ri_nth_eq] at h
  cases e1 : KK[g]? with
  | none => rw [e1] at h; cases h
  | some l =>
    rw [e1] at h
    cases e2 : KK[g']? with
    | none => rw [e2] at h; cases h
    | some m =>
      rw [e2] at h
      exact (rt_ent_hp (Φ := fun _ _ _ => True) (t0 := 0) (t1 := 0) (s := 0) (s' := 0) (ws0 := w) e1 e2 h trivial ⟨had, hH, m_agR hH, trivial⟩).2.1
theorem mOvs_app : ∀ {a c : List rt_O}, mOvs KK g cs τ w a → mOvs KK g cs τ w c → mOvs KK g cs τ w (a ++ c)
  | [], _, _, h => h
  | _ :: _, _, h, h' => ⟨h.1, mOvs_app h.2 h'⟩
theorem mr_os_ok {j cell t : Nat} (hc : cs[j]? = some cell) : ∀ {c : Nat}, (∀ i, i < c → ∃ a, mTy KK g cell (4 * r + i) = some a) → (∀ i, i < c → τ[t + i]? = some (mv w cell (4 * r + i))) → mOvs KK g cs τ w (mr_os r (j + 1) c t)
  | 0, _, _ => trivial
  | c + 1, h1, h2 => mOvs_app (mr_os_ok hc (fun i hi => h1 i (by omega)) (fun i hi => h2 i (by omega))) ⟨m_ovF (f := 4 * r + c) hc (h1 c (by omega)) (m_gI (h2 c (by omega))), trivial⟩
theorem mr_os_mem {nm t i : Nat} : ∀ {c : Nat}, i < c → (nm, (0, ((4 * r + i : Nat) : Int)), tgI (t + i + 1) 0) ∈ mr_os r nm c t
  | 0, h => by omega
  | c + 1, h => by
    show _ ∈ mr_os r nm c t ++ _
    rcases (show i = c ∨ i < c by omega) with rfl | h
    · exact List.mem_append_right _ List.mem_cons_self
    · exact List.mem_append_left _ (mr_os_mem h)
theorem mr_E_ok : ∀ {n : Nat} {X : List Int}, X.length = n → (∀ x ∈ X, 0 ≤ x ∧ x ≤ 800) → mEs τ (mr_E n) X
  | 0, [], _, _ => trivial
  | 0, _ :: _, h, _ => by cases h
  | _ + 1, [], h, _ => by cases h
  | n + 1, x :: X, h, hx => by
    show mEs τ (List.replicate (n + 1) (eB 0 800)) (x :: X)
    rw [List.replicate_succ]
    exact ⟨m_okB (hx x List.mem_cons_self).1 (hx x List.mem_cons_self).2 (Or.inl rfl), mr_E_ok (n := n) (by simpa using h) (fun y hy => hx y (List.mem_cons_of_mem _ hy))⟩
theorem mr_gh_lo {X : List Int32} {n : Nat} (hX : X.length = n) : rt_gL (X.map Int32.toInt) ν lm mK ad (mr_gh n) (X.map (fun z => some (Value.int z))) := by
  intro i x hx
  unfold mr_gh at hx
  rw [List.getElem?_map] at hx
  rcases Nat.lt_or_ge i n with hi | hi
  · rw [List.getElem?_range hi] at hx
    have hx : some (some (tgI (i + 1) 0)) = some (some x) := hx
    cases hx
    refine ⟨.int (X[i]'(by omega)), ?_, X[i]'(by omega), rfl, m_gI ?_⟩
    · rw [List.getElem?_map, List.getElem?_eq_getElem (by omega)]
      rfl
    · rw [List.getElem?_map, List.getElem?_eq_getElem (by omega)]
      rfl
  · rw [List.getElem?_eq_none (by simpa using hi)] at hx
    cases hx
theorem mr_tags {X : List Int32} {n : Nat} {R : List Nat} {b' : rc_C} (hX : X.length = n) (g3 : rt_okN mK ad (mr_E n, R, []) τ ν lm) (gg : ∀ (i : Nat) (x : rt_V), (mr_gh n)[i]? = some (some x) → ∃ v, b'.2.1[20 + i]? = some (some v) ∧ rt_gV τ ν lm mK ad x v) (hgh : ∀ (i : Nat) (v : Value), b'.2.1[20 + i]? = some (some v) → (X.map (fun z => some (Value.int z)))[i]? = some (some v)) {k : Nat} {z : Int32} (hz : X[k]? = some z) : τ[k]? = some z.toInt := by
  have hk : k < n := by
    have := (List.getElem?_eq_some_iff.mp hz).1
    omega
  refine (m_gb g3 gg hgh k (z := z) (B1 := eB 0 800) ?_ ?_ ?_).1
  · unfold mr_gh
    rw [List.getElem?_map, List.getElem?_range hk]
    rfl
  · rw [List.getElem?_map, hz]
    rfl
  · show (List.replicate n (eB 0 800))[k]? = _
    rw [List.getElem?_replicate, if_pos hk]
/-- codes, where crosses begin, where they end -/
def mr_X (w : va_W) (r c1 c2 : Nat) : List Int32 := mz w 0 51 :: ((List.range c1).map (fun i => mz w 33 (4 * r + i)) ++ (List.range c2).map (fun i => mz w 34 (4 * r + i)))
theorem mr_X0 {c1 c2 : Nat} : (mr_X w r c1 c2)[0]? = some (mz w 0 51) := rfl
theorem mr_X1 {c1 c2 i : Nat} (hi : i < c1) : (mr_X w r c1 c2)[1 + i]? = some (mz w 33 (4 * r + i)) := by
  unfold mr_X
  rw [show 1 + i = i + 1 by omega, List.getElem?_cons_succ, List.getElem?_append_left (by simpa using hi), List.getElem?_map, List.getElem?_range hi]
  rfl
theorem mr_X2 {c1 c2 i : Nat} (hi : i < c2) : (mr_X w r c1 c2)[1 + c1 + i]? = some (mz w 34 (4 * r + i)) := by
  unfold mr_X
  rw [show 1 + c1 + i = (c1 + i) + 1 by omega, List.getElem?_cons_succ, List.getElem?_append_right (by simp), List.length_map, List.length_range, show c1 + i - c1 = i by omega, List.getElem?_map, List.getElem?_range hi]
  rfl
theorem mr_Xl {c1 c2 : Nat} : (mr_X w r c1 c2).length = 1 + (c1 + c2) := by
  unfold mr_X
  simp
  omega
theorem mr_Xm {c1 c2 : Nat} (h0 : 0 ≤ mv w 0 51 ∧ mv w 0 51 ≤ 800) (h1 : ∀ i, i < c1 → 0 ≤ mv w 33 (4 * r + i) ∧ mv w 33 (4 * r + i) ≤ 800) (h2 : ∀ i, i < c2 → 0 ≤ mv w 34 (4 * r + i) ∧ mv w 34 (4 * r + i) ≤ 800) : ∀ x ∈ (mr_X w r c1 c2).map Int32.toInt, 0 ≤ x ∧ x ≤ 800 := by
  intro x hx
  obtain ⟨z, hz, rfl⟩ := List.mem_map.mp hx
  rcases List.mem_cons.mp hz with rfl | hz
  · exact h0
  · rcases List.mem_append.mp hz with hz | hz
    · obtain ⟨i, hi, rfl⟩ := List.mem_map.mp hz
      exact h1 i (List.mem_range.mp hi)
    · obtain ⟨i, hi, rfl⟩ := List.mem_map.mp hz
      exact h2 i (List.mem_range.mp hi)
theorem mr_tt {X : List Int32} {k : Nat} {z : Int32} (h : X[k]? = some z) : (X.map Int32.toInt)[k]? = some z.toInt := by
  rw [List.getElem?_map, h]
  rfl
set_option maxHeartbeats 4000000 in
theorem m_readCross {d1 : Nat} (hb : b < 2) (hrb : r = 1 - b) (hcx : rt_ctx KK mK ad (mF b)) (hMC : rt_MCok l D κ SP.2) (hMX : rt_MXok KK κ mK ad (mF b) MX) (hSW : rt_SWok KK κ mK ad (mF b) SW) (hCS : ∀ C ∈ CS, rt_Con l D KK κ mK ad (mF b) C) (hok : rt_all1 (fun b => b) (mp_L KK r) = true) (hrk : rt_all1 (fun b => b) (mr_L KK) = true) (hk : ∀ c, c < 4 → mr_chk KK MX SW CS SP n d r c = true) (hE : ∀ t uF : Int, rc_Met l κ D d1 198 (fun vs w => mHp KK κ ad t w ∧ mD r uF w ∧ uF = mv w 0 51 ∧ ∃ q : Nat, ad[0]? = some q ∧ vs = [.ref q]) (fun _ w ov w' => ov = none ∧ mHp KK κ ad t w' ∧ mFm KK uF w w' ∧ mD r uF w')) (hd : 2 ≤ d) (hd1 : d1 + 1 ≤ d) : rt_Con l D KK κ mK ad (mF b) (mr_C d r) := by
  have hr : r < 2 := by omega
  have em : mT[258]? = some (yX12_readCross, cX12_readCross, 3, none) := rfl
  have hrun := rt_run_ok (SP := SP) hcx hMC hMX hCS n
  have r107 : ri_rowOK mT yX12_readCross cX12_readCross 3 none 107 (.invokevirtual 447, 3, 12 + 4, 198, ((0 + 1 : Nat) : Int)) := ((tab_all 258 _ _ _ _ em).2.2.2.2.2 107 (.invokevirtual 447, 3, 16, 198, 1) rfl).resolve_left (fun h => by cases h)
  intro t1 τ ν lm
  have core : rc_Met l κ D d 258 (rt_pre KK κ mK ad (mF b) t1 τ ν lm 23 (mr_C d r).2.2.1) (fun _ w ov w' => ov = none ∧ rt_hp KK κ mK ad w (mF b) t1 23 0 w') := by
    refine rc_body (fun vs w => mV20 (rc_en vs) []) ?_ ?_ ?_
    · rintro vs w ⟨-, -, -, -, hlen⟩
      have hlen : (rc_en vs).length = 1 := hlen
      exact m_loc (by omega) (fun i v h => h)
    · rintro y cc nL ret hm vs w ⟨-, -, -, -, hlen⟩
      rw [em] at hm
      cases hm
      have hlen : (rc_en vs).length = 1 := hlen
      omega
    · rintro y cc nL ret hm w vs ⟨hh, hN, hL, hO, hlen⟩ p e s m below meth c_ B
      rw [em] at hm
      cases hm
      obtain ⟨v0, p0, q, rfl, ⟨i0, hq, p2⟩, -⟩ := hL 0 _ rfl
      have := mK_inj i0 0 79 p2 rfl
      subst this
      have hP : mP r w := by
        rw [hrb]
        exact hh.2.2.2.1
      have hT : mTm w ≤ t1 := by
        have : mTm w ≤ t1 - ((0 : Nat) : Int) := hh.2.2.2.2
        omega
      obtain ⟨P1, P2, P3, P4, P5⟩ := id hP
      obtain ⟨x0, tx, l0, l3, -⟩ := m_tg hN.1 (k := 0) rfl
      have o27 := m_gIe (m_O0 hcx.2 hh.1 (j := 1) (i := 27) (f := r) hN.2.1 (hO _ (List.mem_cons_of_mem _ List.mem_cons_self)) rfl rfl) tx
      have l0 : 0 ≤ x0 := l0
      have l3 : x0 ≤ 3 := l3
      obtain ⟨c, hc⟩ : ∃ c : Nat, mv w 27 r = c := ⟨x0.toNat, by show (mz w 27 r).toInt = _; omega⟩
      have hc4 : c < 4 := by
        have : mv w 27 r = x0 + 0 := o27
        omega
      obtain ⟨k0, k1⟩ := rt_cnd (hk c hc4)
      obtain ⟨o, ho, ho2⟩ := mO12_ok (mp_at hok (i := 0) rfl)
      have hH33 : rt_gH KK 33 κ mK ad w := mEn_ok (mr_at hrk (i := 0) rfl) hh.2.1 hh.1
      have hp33 : ∀ {w1 : va_W}, ri_ad w1 = ad → rt_gH KK 33 κ mK ad w1 → mTm w1 ≤ t1 → rt_hp KK κ mK ad w1 (mF b) t1 33 0 w1 := fun {w1} h1 h2 h3 => ⟨h1, h2, m_agR h2, by show mTm w1 ≤ t1 - ((0 : Nat) : Int); omega⟩
      have t27 : ∃ a, mTy KK 33 27 r = some a := m_exA (mr_at hrk (i := 11) rfl) hr
      have t33 : ∀ i, i < 4 → ∃ a, mTy KK 33 33 (4 * r + i) = some a := fun i hi => m_exA (mr_at hrk (i := 12) rfl) (by omega)
      have t34 : ∀ i, i < 4 → ∃ a, mTy KK 33 34 (4 * r + i) = some a := fun i hi => m_exA (mr_at hrk (i := 13) rfl) (by omega)
      -- the overlay at a start
      have ovS : ∀ (w1 : va_W) (c1 c2 : Nat), c1 ≤ 4 → c2 ≤ 4 → mv w1 27 r = c → mOvs KK 33 [0, 27, 33, 34] ((mr_X w1 r c1 c2).map Int32.toInt) w1 (mr_ov r (cI c c) ++ mr_os r 3 c1 1 ++ mr_os r 4 c2 (1 + c1)) := fun w1 c1 c2 h1 h2 hc1 => mOvs_app (mOvs_app ⟨m_ovF (f := 51) rfl (m_exB (mr_at hrk (i := 14) rfl)) (m_gI (mr_tt mr_X0)), ⟨rfl, 27, 35, rfl, rfl, rfl, mr_at hrk (i := 8) rfl⟩, ⟨rfl, 33, 41, rfl, rfl, rfl, mr_at hrk (i := 9) rfl⟩, ⟨rfl, 34, 42, rfl, rfl, rfl, mr_at hrk (i := 10) rfl⟩, m_ovF (j := 1) (c := 27) (f := r) rfl t27 (rt_gI_0.mpr ⟨by show (c : Int) ≤ mv w1 27 r; omega, by show mv w1 27 r ≤ (c : Int); omega⟩), trivial⟩ (mr_os_ok (j := 2) (cell := 33) rfl (fun i hi => t33 i (by omega)) (fun i hi => mr_tt (mr_X1 hi)))) (mr_os_ok (j := 3) (cell := 34) rfl (fun i hi => t34 i (by omega)) (fun i hi => mr_tt (mr_X2 hi)))
      -- what holds from the start on: uF is where the code begins
      have fin : ∀ (V : List (Option Value)) (kz : Int32) (w1 w2 : va_W), V[0]? = some (some (.ref q)) → V[1]? = some (some (.int kz)) → kz.toInt = ((4 * r + c : Nat) : Int) → rt_ag (fun f => f = 1) KK 23 mK w w2 → ri_ad w2 = ad → rt_gH KK 33 κ mK ad w2 → mTm w2 ≤ t1 → mv w2 27 r = c → (∀ i, i < c → mv w2 33 (4 * r + i) = mv w 33 (4 * r + i)) → (∀ i, i < c → mv w2 34 (4 * r + i) = mv w 34 (4 * r + i)) → mv w2 33 (4 * r + c) = mv w 0 51 → mD r (mv w 0 51) w2 → (∀ j : Nat, (j : Int) < mv w 0 51 → mv w2 36 j = mv w 36 j) → rc_AB p l e s m vs.toArray below meth c_ 3 D w (MQ below (rc_Q D w s.heap.size (fun ov w' => ov = none ∧ rt_hp KK κ mK ad w (mF b) t1 23 0 w')) vs.toArray s 0 0 (va_A w s.heap.size)) d (110, V, [], w2) := by
        intro V kz w1 w2 hV0 hV1 hkz hag had2 hH2 hT2 e27 e33 e34 e33c hD2 e36
        obtain ⟨U, C, H, d3, d4, ⟨d5, d5', d6⟩, d8, d9⟩ := hD2
        have b51 := mBd_v hH2 (mr_at hrk (i := 14) rfl : mBd KK 33 0 51 0 800 = true)
        have bF : ∀ i, i < c + 1 → 0 ≤ mv w2 33 (4 * r + i) ∧ mv w2 33 (4 * r + i) ≤ 800 := fun i hi => by
          rcases (show i = c ∨ i < c by omega) with rfl | hi
          · omega
          · obtain ⟨⟨q1, q2, q3, -⟩, -⟩ := P5 i (by omega) (by omega)
            have := e33 i hi
            omega
        have bT : ∀ i, i < c → 0 ≤ mv w2 34 (4 * r + i) ∧ mv w2 34 (4 * r + i) ≤ 800 := fun i hi => by
          obtain ⟨⟨q1, q2, q3, -⟩, -⟩ := P5 i (by omega) (by omega)
          have := e34 i hi
          omega
        have hXl : (mr_X w2 r (c + 1) c).length = 2 + 2 * c := by
          rw [mr_Xl]
          omega
        refine rc_At_loc (V := mV20 [some (.ref q), some (.int kz)] ((mr_X w2 r (c + 1) c).map (fun z => some (Value.int z)))) (m_loc (Nat.le_of_ble_eq_true rfl) (m_loc2 hV0 hV1)) ?_
        have hlo : rt_gL ((mr_X w2 r (c + 1) c).map Int32.toInt) (mNu ad [0, 27, 33, 34]) [] mK ad (rt_lo (mr_S1 r c)) (mV20 [some (.ref q), some (.int kz)] ((mr_X w2 r (c + 1) c).map (fun z => some (Value.int z)))) := by
          obtain ⟨a1, a2⟩ := rt_gL_pad (mLo_ok (lm := []) (show mLo ad [0, 27, 33, 34] ((mr_X w2 r (c + 1) c).map Int32.toInt) [some mM, some (cI ((4 * r + c : Nat) : Int) ((4 * r + c : Nat) : Int))] [some (.ref q), some (.int kz)] from ⟨⟨_, rfl, 0, q, rfl, rfl, hq, rfl⟩, ⟨_, rfl, kz, rfl, rt_gI_0.mpr ⟨by omega, by omega⟩⟩, trivial⟩)) rfl 20
          exact rt_gL_app a1 (mr_gh_lo hXl) a2
        refine hrun d 258 [107] true _ _ _ k1 (by omega) _ _ 3 _ em (by decide) p e s m _ below meth c_ w B _ hh.1 w2 t1 _ (m_start (S := mr_S1 r c) (cs := [0, 27, 33, 34]) (τ := (mr_X w2 r (c + 1) c).map Int32.toInt) (hp33 had2 hH2 hT2) rfl (by decide) rfl (mr_E_ok (by rw [List.length_map]; exact hXl) (mr_Xm b51 bF bT)) hlo trivial (by
          have := ovS w2 (c + 1) c (by omega) (by omega) e27
          rw [show 1 + (c + 1) = 2 + c by omega] at this
          exact this)) (fun _ _ hf => by cases hf) (fun v S' b' ov z1 hs z2 z3 z4 => ?_)
        cases v with
        | some x => cases z1
        | none =>
          obtain ⟨tg, htg, hat⟩ := rt_tgt_ok hSW (show rt_tgt SW [mr_R r c] S' = true from z1) z3
          rw [List.mem_singleton.mp htg] at hat
          have hov : ov = none := by
            obtain ⟨_, _, _, -, -, -, -, g5, -⟩ := id z3
            rw [hs, z2] at g5
            cases ov with
            | none => rfl
            | some x => exact g5.elim
          obtain ⟨τ', ν', lm', -, g2, g3, gs, ga, gg, go⟩ := m_end hat (by decide) (by decide) (m_ansL z2)
          have hgh : ∀ (i : Nat) (v : Value), b'.2.1[20 + i]? = some (some v) → ((mr_X w2 r (c + 1) c).map (fun z => some (Value.int z)))[i]? = some (some v) := fun i v h => m_ghost z4 rfl (Nat.le_of_ble_eq_true rfl) h
          have tag : ∀ {k : Nat} {z : Int32}, (mr_X w2 r (c + 1) c)[k]? = some z → τ'[k]? = some z.toInt := fun hz => mr_tags hXl g3 gg hgh hz
          have hag3 := g2.2.2.1
          have f27 := rt_gI_0.mp (m_O0 hcx.2 g2.1 (j := 1) (i := 27) (f := r) (x := (0, ((c + 1 : Nat) : Int), ((c + 1 : Nat) : Int))) g3.2.1 (go _ (List.mem_append_left _ (List.mem_append_left _ (List.mem_append_left _ (List.mem_of_getElem? (i := 4) rfl))))) rfl rfl)
          have f27 : ((c + 1 : Nat) : Int) ≤ mv b'.2.2.2 27 r ∧ mv b'.2.2.2 27 r ≤ ((c + 1 : Nat) : Int) := f27
          have f33 : ∀ i, i < c + 1 → mv b'.2.2.2 33 (4 * r + i) = mv w2 33 (4 * r + i) := fun i hi => by
            have := m_gIe (m_O0 hcx.2 g2.1 (j := 2) (i := 33) (f := 4 * r + i) g3.2.1 (go _ (List.mem_append_left _ (List.mem_append_left _ (List.mem_append_right _ (mr_os_mem hi))))) rfl rfl) (tag (mr_X1 hi))
            show (mz b'.2.2.2 33 (4 * r + i)).toInt = (mz w2 33 (4 * r + i)).toInt
            omega
          have f34 : ∀ i, i < c → mv b'.2.2.2 34 (4 * r + i) = mv w2 34 (4 * r + i) := fun i hi => by
            have := m_gIe (m_O0 hcx.2 g2.1 (j := 3) (i := 34) (f := 4 * r + i) g3.2.1 (go _ (List.mem_append_left _ (List.mem_append_right _ (mr_os_mem hi)))) rfl rfl) (tag (by rw [show 2 + c + i = 1 + (c + 1) + i by omega]; exact mr_X2 hi))
            show (mz b'.2.2.2 34 (4 * r + i)).toInt = (mz w2 34 (4 * r + i)).toInt
            omega
          have f34c : mv b'.2.2.2 34 (4 * r + c) = mv w2 0 51 := by
            have := m_gIe (m_O0 hcx.2 g2.1 (j := 3) (i := 34) (f := 4 * r + c) (x := (1, 0, 0)) g3.2.1 (go _ (List.mem_append_right _ List.mem_cons_self)) rfl rfl) (tag mr_X0)
            show (mz b'.2.2.2 34 (4 * r + c)).toInt = (mz w2 0 51).toInt
            omega
          have g36 := mA_ok (mr_at hrk (i := 5) rfl) mE1_ok hag3
          have g51 := mG_ok (mr_at hrk (i := 6) rfl) mE1_ok hag3
          have g28 := mA_ok (mr_at hrk (i := 7) rfl) mE1_ok hag3 r hr
          refine ⟨hov, g2.1, mEn_ok (mr_at hrk (i := 3) rfl) g2.2.1 g2.1, m_agT hag (mFl_ok κ (mr_at hrk (i := 4) rfl) hag3), ?_, g2.2.2.2⟩
          rw [← hrb]
          refine ⟨by omega, by omega, by omega, by omega, fun u hu hlt => ?_⟩
          rcases (show u = c ∨ u < c by omega) with rfl | hu2
          · have e1 := f33 u (by omega)
            refine ⟨⟨by omega, by omega, by omega, ?_⟩, by omega⟩
            rw [e1, e33c, f34c, hts_congr (g := fun j => mv w2 36 ((mv w 0 51).toNat + j)), show (mv w2 0 51 - mv w 0 51).toNat = (400 * (r : Int) + (C : Int) - mv w 0 51).toNat by omega, d6]
            · rfl
            · intro k hk
              exact g36 _ (by omega)
          · obtain ⟨⟨q1, q2, q3, q4⟩, q5⟩ := P5 u hu (by omega)
            have e1 := f33 u (by omega)
            have e2 := f34 u hu2
            have e3 := e33 u hu2
            have e4 := e34 u hu2
            refine ⟨⟨by omega, by omega, by omega, ?_⟩, by omega⟩
            rw [e1, e3, e2, e4, hts_congr (g := fun j => mv w 36 ((mv w 33 (4 * r + u)).toNat + j))]
            · exact q4
            · intro k hk
              rw [g36 _ (by omega)]
              exact e36 _ (by omega)
      -- the first part
      have bF : ∀ i, i < c → 0 ≤ mv w 33 (4 * r + i) ∧ mv w 33 (4 * r + i) ≤ 800 := fun i hi => by
        obtain ⟨⟨q1, q2, q3, -⟩, -⟩ := P5 i (by omega) (by omega)
        omega
      have bT : ∀ i, i < c → 0 ≤ mv w 34 (4 * r + i) ∧ mv w 34 (4 * r + i) ≤ 800 := fun i hi => by
        obtain ⟨⟨q1, q2, q3, -⟩, -⟩ := P5 i (by omega) (by omega)
        omega
      have hXl : (mr_X w r c c).length = 1 + 2 * c := by
        rw [mr_Xl]
        omega
      refine rc_At_loc (V := mV20 [some (.ref q)] ((mr_X w r c c).map (fun z => some (Value.int z)))) (m_loc (Nat.le_of_ble_eq_true rfl) (m_loc1 (show (mV20 (rc_en vs) [])[0]? = _ from by
        unfold mV20
        have hlen : (rc_en vs).length = 1 := hlen
        rw [List.getElem?_append_left (by rw [rc_pad_len (by omega)]; decide)]
        exact rc_pad_mono p0))) ?_
      have hlo : rt_gL ((mr_X w r c c).map Int32.toInt) (mNu ad [0, 27, 33, 34]) [] mK ad (rt_lo (mr_S0 r c)) (mV20 [some (.ref q)] ((mr_X w r c c).map (fun z => some (Value.int z)))) := by
        obtain ⟨a1, a2⟩ := rt_gL_pad (mLo_ok (lm := []) (show mLo ad [0, 27, 33, 34] ((mr_X w r c c).map Int32.toInt) [some mM] [some (.ref q)] from ⟨⟨_, rfl, 0, q, rfl, rfl, hq, rfl⟩, trivial⟩)) rfl 20
        exact rt_gL_app a1 (mr_gh_lo hXl) a2
      refine hrun d 258 [107, 110] false _ _ _ k0 (by omega) _ _ 3 _ em (by decide) p e s m _ below meth c_ w B _ hh.1 w t1 _ (m_start (S := mr_S0 r c) (cs := [0, 27, 33, 34]) (τ := (mr_X w r c c).map Int32.toInt) (hp33 hh.1 hH33 hT) rfl (by decide) rfl (mr_E_ok (by rw [List.length_map]; exact hXl) (mr_Xm ⟨by omega, by omega⟩ bF bT)) hlo trivial (ovS w c c (by omega) (by omega) hc)) (fun S' b' z1 z2 z3 => ?_) (fun v S' b' ov hf => by cases hf)
      have hgh : ∀ (i : Nat) (v : Value), b'.2.1[20 + i]? = some (some v) → ((mr_X w r c c).map (fun z => some (Value.int z)))[i]? = some (some v) := fun i v h => m_ghost z3 rfl (Nat.le_of_ble_eq_true rfl) h
      have arr : ∀ (pc : Nat) (sk : List (Option rt_V)), sk.length ≤ 8 → b'.2.2.1.length ≤ 8 → ¬ pc = 0 → rt_atT KK κ mK ad w (mF b) t1 (mr_T r c pc sk) b' → ∃ kz : Int32, b'.1 = pc ∧ b'.2.1[0]? = some (some (.ref q)) ∧ b'.2.1[1]? = some (some (.int kz)) ∧ kz.toInt = ((4 * r + c : Nat) : Int) ∧ rt_hp KK κ mK ad w (mF b) t1 33 0 b'.2.2.2 ∧ mv b'.2.2.2 27 r = c ∧ (∀ i, i < c → mv b'.2.2.2 33 (4 * r + i) = mv w 33 (4 * r + i)) ∧ (∀ i, i < c → mv b'.2.2.2 34 (4 * r + i) = mv w 34 (4 * r + i)) ∧ mv b'.2.2.2 33 (4 * r + c) = mv w 0 51 := by
        intro pc sk h8 hb8 hpc0 hat
        obtain ⟨τ', ν', lm', hpc, g2, g3, gs, ga, gg, go⟩ := m_end hat h8 (Nat.le_of_ble_eq_true rfl) hb8
        have tag : ∀ {k : Nat} {z : Int32}, (mr_X w r c c)[k]? = some z → τ'[k]? = some z.toInt := fun hz => mr_tags hXl g3 gg hgh hz
        obtain ⟨v0, y0, c0⟩ := ga 0 _ rfl
        have := m_this hq c0
        subst this
        obtain ⟨v1, y1, c1⟩ := ga 1 _ rfl
        obtain ⟨kz, rfl, kz1, kz2⟩ := m_cv c1
        have f27 := rt_gI_0.mp (m_O0 hcx.2 g2.1 (j := 1) (i := 27) (f := r) (x := (0, (c : Int), (c : Int))) g3.2.1 (go _ (List.mem_append_left _ (List.mem_append_left _ (List.mem_append_left _ (List.mem_of_getElem? (i := 4) rfl))))) rfl rfl)
        have f27 : (c : Int) ≤ mv b'.2.2.2 27 r ∧ mv b'.2.2.2 27 r ≤ (c : Int) := f27
        refine ⟨kz, hpc.resolve_left hpc0, y0, y1, by omega, g2, by omega, fun i hi => ?_, fun i hi => ?_, ?_⟩
        · have := m_gIe (m_O0 hcx.2 g2.1 (j := 2) (i := 33) (f := 4 * r + i) g3.2.1 (go _ (List.mem_append_left _ (List.mem_append_left _ (List.mem_append_right _ (mr_os_mem hi))))) rfl rfl) (tag (mr_X1 hi))
          show (mz b'.2.2.2 33 (4 * r + i)).toInt = (mz w 33 (4 * r + i)).toInt
          omega
        · have := m_gIe (m_O0 hcx.2 g2.1 (j := 3) (i := 34) (f := 4 * r + i) g3.2.1 (go _ (List.mem_append_left _ (List.mem_append_right _ (mr_os_mem hi)))) rfl rfl) (tag (mr_X2 hi))
          show (mz b'.2.2.2 34 (4 * r + i)).toInt = (mz w 34 (4 * r + i)).toInt
          omega
        · have := m_gIe (m_O0 hcx.2 g2.1 (j := 2) (i := 33) (f := 4 * r + c) (x := (1, 0, 0)) g3.2.1 (go _ (List.mem_append_right _ List.mem_cons_self)) rfl rfl) (tag mr_X0)
          show (mz b'.2.2.2 33 (4 * r + c)).toInt = (mz w 0 51).toInt
          omega
      have mid : ∀ {w1 : va_W}, rt_hp KK κ mK ad w (mF b) t1 33 0 w1 → mTm w1 ≤ t1 ∧ rt_ag (fun f => f = 1) KK 23 mK w w1 ∧ (∀ j, j < 800 → mv w1 36 j = mv w 36 j) ∧ mv w1 0 51 = mv w 0 51 ∧ mD r (mv w 0 51) w1 := by
        intro w1 g2
        have g36 := mA_ok (mr_at hrk (i := 5) rfl) mE1_ok g2.2.2.1
        have g51 := mG_ok (mr_at hrk (i := 6) rfl) mE1_ok g2.2.2.1
        have g28 := mA_ok (mr_at hrk (i := 7) rfl) mE1_ok g2.2.2.1 r hr
        have hT1 : mTm w1 ≤ t1 - ((0 : Nat) : Int) := g2.2.2.2
        refine ⟨by omega, mFl_ok κ (mr_at hrk (i := 4) rfl) g2.2.2.1, g36, g51, (mv w 28 r).toNat, (mv w 0 51 - 400 * (r : Int)).toNat, 0, by omega, by omega, ⟨by omega, by omega, ?_⟩, by omega, by omega⟩
        rw [show (400 * (r : Int) + (((mv w 0 51 - 400 * (r : Int)).toNat : Nat) : Int) - mv w 0 51).toNat = 0 by omega]
        rfl
      have z1 : cond (rt_tgl 1 SW [mr_T r c 107 [some mM]] S') true (rt_tgl 0 SW [mr_T r c 110 []] S') = true := z1
      cases hc1 : rt_tgl 1 SW [mr_T r c 107 [some mM]] S' with
      | true =>
        obtain ⟨hl1, tg, htg, hat⟩ := rt_tgl_ok hSW hc1 z2
        rw [List.mem_singleton.mp htg] at hat
        obtain ⟨kz, hpc, y0, y1, hkz, g2, e27, e33, e34, e33c⟩ := arr 107 [some mM] (by decide) (by omega) (by decide) hat
        obtain ⟨τ', ν', lm', -, -, -, gs, -, -, -⟩ := m_end hat (by decide) (Nat.le_of_ble_eq_true rfl) (by omega)
        obtain ⟨v2, y2, c2⟩ := gs 0 _ rfl
        have := m_this hq c2
        subst this
        have hst : b'.2.2.1 = [.ref q] := by
          match hb : b'.2.2.1, hl1 with
          | [x], _ =>
            rw [hb] at y2
            cases y2
            rfl
        obtain ⟨hT1, hag1, g36, g51, hD1⟩ := mid g2
        rw [m_eta hpc hst]
        have H1 : mHp KK κ ad t1 b'.2.2.2 := ⟨g2.1, mEn_ok (mr_at hrk (i := 1) rfl) g2.2.1 g2.1, hT1⟩
        obtain ⟨q', vb, c1, c2', -⟩ := m_cell0 H1.2.1 H1.1 ho
        rw [hq] at c2'
        cases c2'
        rw [ho2] at c1
        refine rc_call B (a := (107, b'.2.1, [.ref q], b'.2.2.2)) (As := []) (rst := []) (qb := q) (kb := 0) (vb := vb) hd1 r107 rfl rfl (by decide) c1 (hE t1 (mv w 0 51)) ⟨H1, hD1, by show mv w 0 51 = mv b'.2.2.2 0 51; omega, q, hq, rfl⟩ (fun ov ws' hQ _ => ?_)
        obtain ⟨rfl, H2, F2, D2⟩ := hQ
        have F2 : mFm KK (mv w 0 51) b'.2.2.2 ws' := F2
        obtain ⟨F21, F22, F23, F24, F25⟩ := F2
        refine fin b'.2.1 kz w ws' y0 y1 hkz (m_agT hag1 F21) H2.1 (mEn_ok (mr_at hrk (i := 2) rfl) H2.2.1 H2.1) H2.2.2 (by rw [F22 r hr]; exact e27) (fun i hi => by rw [F23 _ (by omega)]; exact e33 i hi) (fun i hi => by rw [F24 _ (by omega)]; exact e34 i hi) (by rw [F23 _ (by omega)]; exact e33c) D2 (fun j hj => by rw [F25 j hj]; exact g36 j (by omega))
      | false =>
        rw [hc1] at z1
        obtain ⟨hl0, tg, htg, hat⟩ := rt_tgl_ok hSW z1 z2
        rw [List.mem_singleton.mp htg] at hat
        obtain ⟨kz, hpc, y0, y1, hkz, g2, e27, e33, e34, e33c⟩ := arr 110 [] (by decide) (by omega) (by decide) hat
        obtain ⟨hT1, hag1, g36, g51, hD1⟩ := mid g2
        rw [m_eta hpc (List.length_eq_zero_iff.mp hl0)]
        exact fin b'.2.1 kz w b'.2.2.2 y0 y1 hkz hag1 g2.1 g2.2.1 hT1 e27 e33 e34 e33c hD1 (fun j hj => g36 j (by omega))
  intro y cc nL ret hm w sz vs hp
  refine MetFree.mono (core y cc nL ret hm w sz vs hp) (fun _ _ g => g) (fun _ _ _ _ _ g => g) (fun a st o t _ hQ => ?_)
  obtain ⟨⟨⟨w', ov, m1, ⟨m2, m2'⟩, m3⟩, m9⟩, hf⟩ := hQ
  exact ⟨⟨⟨w', ov, m1, ⟨_, List.mem_cons_self, m2', m2, fun x hx => by cases hx⟩, m3⟩, m9⟩, hf⟩
end MCROSS
