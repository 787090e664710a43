/-! emit, pushE: what they do, exactly -/
def mPut (w : va_W) (i j : Nat) (z : Int32) : va_W := match (w[i]? : Option (Nat × va_E)) with
  | some (q, Sum.inl (cl, n, Sum.inl f)) => w.set i (q, .inl (cl, n, .inl (upd f j z)))
  | _ => w
def mPutF (w : va_W) (j : Nat) (z : Int32) : va_W := match (w[0]? : Option (Nat × va_E)) with
  | some (q, Sum.inr (c, vs)) => w.set 0 (q, .inr (c, vs.set j (.int z)))
  | _ => w
/-- flags of slots: not frozen -/
noncomputable def mNf (KK : List (List rt_K)) (g i j : Nat) : Bool := match ri_nth mK i with
  | none => false
  | some k => (match rt_kd KK g k with
    | some kd => (match rt_sT kd j with
      | some f => cond (Nat.beq f.1 1) false true
      | none => false)
    | none => false)
section MPUSH
variable {l : Launch} {D : va_G} {KK : List (List rt_K)} {κ : Nat → ClassId} {ad : List Nat} {g : Nat} {w : va_W}
theorem mPut_eq {i j q n : Nat} {cl : ClassId} {f : Nat → Int32} {z : Int32} (h : w[i]? = some (q, .inl (cl, n, .inl f))) : mPut w i j z = w.set i (q, .inl (cl, n, .inl (upd f j z))) := by
  unfold mPut
  rw [h]
theorem mPutF_eq {j q c : Nat} {vs : List Value} {z : Int32} (h : w[0]? = some (q, .inr (c, vs))) : mPutF w j z = w.set 0 (q, .inr (c, vs.set j (.int z))) := by
  unfold mPutF
  rw [h]
theorem m_slA {cl : ClassId} {n j : Nat} {f : Nat → Int32} {z : Int32} (hj : j < n) : rt_sl (.inl (cl, n, .inl (upd f j z))) j = some (.int z) ∧ ∀ i, i ≠ j → rt_sl (.inl (cl, n, .inl (upd f j z))) i = rt_sl (.inl (cl, n, .inl f)) i := by
  refine ⟨?_, fun i hi => ?_⟩
  · show (if j < n then some (Value.int (upd f j z j)) else none) = _
    rw [if_pos hj]
    unfold upd
    rw [if_pos rfl]
  · show (if i < n then some (Value.int (upd f j z i)) else none) = (if i < n then some (Value.int (f i)) else none)
    unfold upd
    rw [if_neg hi]
theorem m_slF {c j : Nat} {vs : List Value} {z : Int32} (hj : j < vs.length) : rt_sl (.inr (c, vs.set j (.int z))) j = some (.int z) ∧ ∀ i, i ≠ j → rt_sl (.inr (c, vs.set j (.int z))) i = rt_sl (.inr (c, vs)) i := by
  refine ⟨List.getElem?_set_self hj, fun i hi => ?_⟩
  show (vs.set j (.int z))[i]? = vs[i]?
  rw [List.getElem?_set_ne (fun q => hi q.symm)]
theorem m_shA {cl : ClassId} {n : Nat} {f f' : Nat → Int32} (kd : rt_K) (h : rt_shp κ kd (.inl (cl, n, .inl f))) : rt_shp κ kd (.inl (cl, n, .inl f')) := by
  rcases kd with o | o
  · obtain ⟨vs, h1, -⟩ := h
    cases h1
  · rcases h with ⟨h1, f0, h2⟩ | ⟨-, f0, h2⟩ | ⟨-, -, f0, h2⟩
    · cases h2
      exact Or.inl ⟨h1, f', rfl⟩
    · cases h2
    · cases h2
theorem m_shF {c j : Nat} {vs : List Value} {v : Value} (kd : rt_K) (h : rt_shp κ kd (.inr (c, vs))) : rt_shp κ kd (.inr (c, vs.set j v)) := by
  rcases kd with o | o
  · obtain ⟨vs', h1, h2⟩ := h
    cases h1
    exact ⟨_, rfl, by rw [List.length_set]; exact h2⟩
  · rcases h with ⟨-, f0, h2⟩ | ⟨-, f0, h2⟩ | ⟨-, -, f0, h2⟩
    · cases h2
    · cases h2
    · cases h2
theorem m_TyT {i j k : Nat} {a : Int × Int} {z : Int32} (h : mTy KK g i j = some a) (h1 : a.1 ≤ z.toInt) (h2 : z.toInt ≤ a.2) (hk : mK[i]? = some k) : ∀ kd f, rt_kd KK g k = some kd → rt_sT kd j = some f → rt_gT mK ad f.2 (.int z) := by
  intro kd f hkd hf
  unfold mTy at h
  rw [ri_nth_eq, hk] at h
  have h : (match (generalizing := false) rt_kd KK g k with
    | none => none
    | some kd => (match (generalizing := false) rt_sT kd j with
      | some f => (match (generalizing := false) f.2 with
        | .inl a => some a
        | .inr _ => none)
      | none => none)) = some a := h
  rw [hkd] at h
  have h : (match (generalizing := false) rt_sT kd j with
      | some f => (match (generalizing := false) f.2 with
        | .inl a => some a
        | .inr _ => none)
      | none => none) = some a := h
  rw [hf] at h
  have h : (match (generalizing := false) f.2 with
        | .inl a => some a
        | .inr _ => none) = some a := h
  rcases hf2 : f.2 with b | b
  · rw [hf2] at h
    cases h
    exact ⟨z, rfl, h1, h2⟩
  · rw [hf2] at h
    cases h
theorem mNf_ok {i j k : Nat} (h : mNf KK g i j = true) (hk : mK[i]? = some k) : ∀ kd f, rt_kd KK g k = some kd → rt_sT kd j = some f → ¬ f.1 = 1 := by
  intro kd f hkd hf h1
  unfold mNf at h
  rw [ri_nth_eq, hk] at h
  have h : (match (generalizing := false) rt_kd KK g k with
    | some kd => (match (generalizing := false) rt_sT kd j with
      | some f => cond (Nat.beq f.1 1) false true
      | none => false)
    | none => false) = true := h
  rw [hkd] at h
  have h : (match (generalizing := false) rt_sT kd j with
      | some f => cond (Nat.beq f.1 1) false true
      | none => false) = true := h
  rw [hf] at h
  have h : cond (Nat.beq f.1 1) false true = true := h
  rw [h1] at h
  cases h
/-- a store into an array of ints -/
theorem m_put {P : Int × Int → Bool} {t i n j : Nat} {z : Int32} {a : Int × Int} (ht : t ≤ 2) (hH : rt_gH KK g κ mK ad w) (had : ri_ad w = ad) (hI : mI1 P KK g t i n = true) (hj : j < n) (hT : mTy KK g i j = some a) (h1 : a.1 ≤ z.toInt) (h2 : z.toInt ≤ a.2) : rt_gH KK g κ mK ad (mPut w i j z) ∧ ri_ad (mPut w i j z) = ad ∧ (∀ i' j', mv (mPut w i j z) i' j' = if i' = i ∧ j' = j then z.toInt else mv w i' j') ∧ ∀ g', mNf KK g' i j = true → rt_ag (fun f => f = 1) KK g' mK w (mPut w i j z) := by
  obtain ⟨q, f, e1, -, -⟩ := m_arr hH had ht hI
  rw [mPut_eq e1]
  obtain ⟨s1, s2⟩ := m_slA (cl := κ t) (f := f) (z := z) hj
  have hk : ∃ k, mK[i]? = some k := by
    unfold mI1 at hI
    rw [ri_nth_eq] at hI
    cases hk : mK[i]? with
    | none => rw [hk] at hI; cases hI
    | some k => exact ⟨k, rfl⟩
  obtain ⟨k, hk⟩ := hk
  exact ⟨m_setH hH e1 hk (fun kd => m_shA kd) s1 s2 (m_TyT hT h1 h2 hk), by rw [ri_ad_set e1]; exact had, fun i' j' => m_mvS e1 s1 s2 i' j', fun g' hn => m_setA hH e1 hk s2 (mNf_ok hn hk)⟩
/-- a store into a field -/
theorem m_putF {j : Nat} {z : Int32} {a : Int × Int} {o : Nat × List rt_F} (hH : rt_gH KK g κ mK ad w) (had : ri_ad w = ad) (ho : rt_kd KK g 79 = some (.inl o)) (hT : mTy KK g 0 j = some a) (h1 : a.1 ≤ z.toInt) (h2 : z.toInt ≤ a.2) : rt_gH KK g κ mK ad (mPutF w j z) ∧ ri_ad (mPutF w j z) = ad ∧ (∀ i' j', mv (mPutF w j z) i' j' = if i' = 0 ∧ j' = j then z.toInt else mv w i' j') ∧ ∀ g', mNf KK g' 0 j = true → rt_ag (fun f => f = 1) KK g' mK w (mPutF w j z) := by
  obtain ⟨q, vs, e1, -, hl⟩ := m_cell0 hH had ho
  rw [mPutF_eq e1]
  obtain ⟨q', e', w1, w2, -, -⟩ := m_int hH hT
  rw [e1] at w1
  cases w1
  have hj : j < vs.length := by
    have w2 : vs[j]? = some (.int (mz w 0 j)) := w2
    exact (List.getElem?_eq_some_iff.mp w2).1
  obtain ⟨s1, s2⟩ := m_slF (c := o.1) (z := z) hj
  exact ⟨m_setH hH e1 (k0 := 79) rfl (fun kd => m_shF kd) s1 s2 (m_TyT hT h1 h2 rfl), by rw [ri_ad_set e1]; exact had, fun i' j' => m_mvS e1 s1 s2 i' j', fun g' hn => m_setA hH e1 (k0 := 79) rfl s2 (mNf_ok hn rfl)⟩
/-- one row -/
theorem m_wp {p : Program} {e : Env} {s : State} {m : MethodId} {args : Array Value} {below : List Frame} {meth : Method} {c : Code} {y : MethodName} {cc : ByteArray} {nL d mi : Nat} {ret : Option FieldType} {ws : va_W} {Q : State → Prop} {a : rc_C} {r : ri_R} (B : rc_Bd p s m args meth c y cc nL ret κ D ws) (hm : mT[mi]? = some (y, cc, nL, ret)) (hd : 1 ≤ d) (hf : ri_fetch mt mi a.1 = some r) (hn : ¬ r.1 = .nop) (h : rc_wp κ r a (rc_AB p l e s m args below meth c nL D ws Q d)) : rc_AB p l e s m args below meth c nL D ws Q d a := by
  obtain ⟨hx, hb, hml, hown, hnm, hts, hK, hN, -, -, -⟩ := B
  rcases (tab_all mi y cc nL ret hm).2.2.2.2.2 a.1 r hf with hnop | hrow
  · exact absurd hnop hn
  · exact rc_sound co_all ao_all hx hb hml hown hnm hts hK hd (show 100 ≤ 100 * d by omega) hrow h (fun _ h => h)
/-- what emit and pushE leave -/
def mPsh (i1 i2 fC : Nat) (c n : Int32) (w : va_W) : va_W := mPutF (mPut (mPut w i1 (mv w 0 fC).toNat c) i2 (mv w 0 fC).toNat n) fC (mz w 0 fC + 1)
set_option maxHeartbeats 2000000 in
theorem m_push {P : Int × Int → Bool} {mi i1 i2 f1 f2 fC n1 n2 j1 j2 jC : Nat} {y : MethodName} {cc : ByteArray} {o : Nat × List rt_F} {d : Nat} (hd : 1 ≤ d) (em : mT[mi]? = some (y, cc, 3, none)) (r0 : ri_fetch mt mi 0 = some (.aload_n 0, 1, 0, 0, 0)) (r1 : ri_fetch mt mi 1 = some (.getfield j1, 3, 12, f1, 2)) (r4 : ri_fetch mt mi 4 = some (.aload_n 0, 1, 0, 0, 0)) (r5 : ri_fetch mt mi 5 = some (.getfield jC, 3, 12, fC, 0)) (r8 : ri_fetch mt mi 8 = some (.iload_n 1, 1, 1, 0, 0)) (r9 : ri_fetch mt mi 9 = some (.iastore, 1, 0, 0, 0)) (r10 : ri_fetch mt mi 10 = some (.aload_n 0, 1, 0, 0, 0)) (r11 : ri_fetch mt mi 11 = some (.getfield j2, 3, 12, f2, 2)) (r14 : ri_fetch mt mi 14 = some (.aload_n 0, 1, 0, 0, 0)) (r15 : ri_fetch mt mi 15 = some (.getfield jC, 3, 12, fC, 0)) (r18 : ri_fetch mt mi 18 = some (.iload_n 2, 1, 2, 0, 0)) (r19 : ri_fetch mt mi 19 = some (.iastore, 1, 0, 0, 0)) (r20 : ri_fetch mt mi 20 = some (.aload_n 0, 1, 0, 0, 0)) (r21 : ri_fetch mt mi 21 = some (.dup, 1, 0, 0, 0)) (r22 : ri_fetch mt mi 22 = some (.getfield jC, 3, 12, fC, 0)) (r25 : ri_fetch mt mi 25 = some (.iconst 1, 1, 0, 0, 1)) (r26 : ri_fetch mt mi 26 = some (.iadd, 1, 0, 0, 0)) (r27 : ri_fetch mt mi 27 = some (.putfield jC, 3, 12, fC, 0)) (r30 : ri_fetch mt mi 30 = some (.return_, 1, 0, 0, 0)) (ho : rt_kd KK g 79 = some (.inl o)) (ho12 : o.1 = 12) (hi1 : ¬ i1 = 0) (hi2 : ¬ i2 = 0) (hne : ¬ i2 = i1) (k1 : mRf KK g f1 i1 = true) (k2 : mRf KK g f2 i2 = true) (k3 : mI1 P KK g 0 i1 n1 = true) (k4 : mI1 P KK g 0 i2 n2 = true) {aC : Int × Int} (k5 : mTy KK g 0 fC = some aC) : rc_Met l κ D d mi (fun vs w => rt_gH KK g κ mK ad w ∧ ri_ad w = ad ∧ 0 ≤ mv w 0 fC ∧ mv w 0 fC < n1 ∧ mv w 0 fC < n2 ∧ ∃ (q : Nat) (cz nz : Int32), ad[0]? = some q ∧ vs = [.ref q, .int cz, .int nz]) (fun vs w ov w' => ov = none ∧ ∃ (q : Nat) (cz nz : Int32), vs = [.ref q, .int cz, .int nz] ∧ w' = mPsh i1 i2 fC cz nz w) := by
  refine rc_body (fun vs _ => rc_pad 20 (rc_en vs)) (fun _ _ _ _ _ _ h => rc_pad_at h) ?_ ?_
  · rintro y' cc' nL' ret' hm vs w ⟨-, -, -, -, -, q, cz, nz, -, rfl⟩
    rw [em] at hm
    cases hm
    show 3 ≤ 3
    decide
  · rintro y' cc' nL' ret' hm w vs ⟨hH, had, b0, b1, b2, q, cz, nz, hq, rfl⟩ p e s m below meth c B
    rw [em] at hm
    cases hm
    obtain ⟨q0, vs, c1, c2, hl⟩ := m_cell0 hH had ho
    rw [hq] at c2
    cases c2
    rw [ho12] at c1
    obtain ⟨qa, fa, a1, a2, -⟩ := m_arr hH had (by decide) k3
    obtain ⟨qb, fb, b1', b2', -⟩ := m_arr hH had (by decide) k4
    obtain ⟨q0', q1', e0, e1, r1', r2', r3', r4'⟩ := m_ref hH had k1
    rw [c1] at r1'
    cases r1'
    rw [a2] at r4'
    cases r4'
    have v1 : vs[f1]? = some (.ref qa) := r3'
    obtain ⟨q0', q2', e0, e2, s1', s2', s3', s4'⟩ := m_ref hH had k2
    rw [c1] at s1'
    cases s1'
    rw [b2'] at s4'
    cases s4'
    have v2 : vs[f2]? = some (.ref qb) := s3'
    obtain ⟨q0', e0, u1, u2, -, -⟩ := m_int hH k5
    rw [c1] at u1
    cases u1
    have v3 : vs[fC]? = some (.int (mz w 0 fC)) := u2
    have hC := (List.getElem?_eq_some_iff.mp v3).1
    have hb0 : 0 ≤ (mz w 0 fC).toInt := b0
    obtain ⟨p1, p2⟩ := m_vpin (n := n1) hb0 b1
    obtain ⟨p3, p4⟩ := m_vpin (n := n2) hb0 b2
    have g0 : (rc_pad 20 (rc_en [Value.ref q, .int cz, .int nz]))[0]? = some (some (.ref q)) := rfl
    have g1 : (rc_pad 20 (rc_en [Value.ref q, .int cz, .int nz]))[1]? = some (some (.int cz)) := rfl
    have g2 : (rc_pad 20 (rc_en [Value.ref q, .int cz, .int nz]))[2]? = some (some (.int nz)) := rfl
    have z1 : (w.set i1 (qa, .inl (κ 0, n1, .inl (upd fa (mz w 0 fC).toNatClampNeg cz))))[0]? = some (q, .inr (12, vs)) := by
      rw [List.getElem?_set_ne hi1]
      exact c1
    have z2 : (w.set i1 (qa, .inl (κ 0, n1, .inl (upd fa (mz w 0 fC).toNatClampNeg cz))))[i2]? = some (qb, .inl (κ 0, n2, .inl fb)) := by
      rw [List.getElem?_set_ne (fun q => hne q.symm)]
      exact b1'
    have z3 : ((w.set i1 (qa, .inl (κ 0, n1, .inl (upd fa (mz w 0 fC).toNatClampNeg cz)))).set i2 (qb, .inl (κ 0, n2, .inl (upd fb (mz w 0 fC).toNatClampNeg nz))))[0]? = some (q, .inr (12, vs)) := by
      rw [List.getElem?_set_ne hi2]
      exact z1
    refine m_wp B em hd r0 (fun h => by cases h) (show rc_aload _ _ _ from ⟨(by decide), q, g0, ?_⟩)
    refine m_wp B em hd r1 (fun h => by cases h) (show rc_getf _ _ _ from ⟨q, 0, vs, _, _, rfl, c1, v1, ?_⟩)
    refine m_wp B em hd r4 (fun h => by cases h) (show rc_aload _ _ _ from ⟨(by decide), q, g0, ?_⟩)
    refine m_wp B em hd r5 (fun h => by cases h) (show rc_getf _ _ _ from ⟨q, 0, vs, _, _, rfl, c1, v3, ?_⟩)
    refine m_wp B em hd r8 (fun h => by cases h) (show rc_iload _ _ _ from ⟨(by decide), cz, g1, ?_⟩)
    refine m_wp B em hd r9 (fun h => by cases h) (show rc_ast κ 0 _ _ _ from ⟨qa, i1, n1, fa, mz w 0 fC, cz, _, rfl, a1, p1, rfl, ?_⟩)
    refine m_wp B em hd r10 (fun h => by cases h) (show rc_aload _ _ _ from ⟨(by decide), q, g0, ?_⟩)
    refine m_wp B em hd r11 (fun h => by cases h) (show rc_getf _ _ _ from ⟨q, 0, vs, _, _, rfl, z1, v2, ?_⟩)
    refine m_wp B em hd r14 (fun h => by cases h) (show rc_aload _ _ _ from ⟨(by decide), q, g0, ?_⟩)
    refine m_wp B em hd r15 (fun h => by cases h) (show rc_getf _ _ _ from ⟨q, 0, vs, _, _, rfl, z1, v3, ?_⟩)
    refine m_wp B em hd r18 (fun h => by cases h) (show rc_iload _ _ _ from ⟨(by decide), nz, g2, ?_⟩)
    refine m_wp B em hd r19 (fun h => by cases h) (show rc_ast κ 0 _ _ _ from ⟨qb, i2, n2, fb, mz w 0 fC, nz, _, rfl, z2, p3, rfl, ?_⟩)
    refine m_wp B em hd r20 (fun h => by cases h) (show rc_aload _ _ _ from ⟨(by decide), q, g0, ?_⟩)
    refine m_wp B em hd r21 (fun h => by cases h) ⟨.ref q, _, rfl, rfl, ?_⟩
    refine m_wp B em hd r22 (fun h => by cases h) (show rc_getf _ _ _ from ⟨q, 0, vs, _, _, rfl, z3, v3, ?_⟩)
    refine m_wp B em hd r25 (fun h => by cases h) (show rc_push _ _ _ from ⟨1, (by decide), ?_⟩)
    refine m_wp B em hd r26 (fun h => by cases h) (show rc_bin _ _ _ _ from ⟨mz w 0 fC, 1, _, rfl, ?_⟩)
    refine m_wp B em hd r27 (fun h => by cases h) (show rc_putf _ _ _ from ⟨q, 0, vs, .int (mz w 0 fC + 1), [], rfl, z3, hC, Or.inl ⟨rfl, _, rfl⟩, ?_⟩)
    have hrow : decode cc 30 = .ok (.return_, 1) := by
      rcases (tab_all mi y cc 3 none em).2.2.2.2.2 30 _ r30 with hnop | hrow
      · cases hnop
      · exact hrow.1
    have hfin : mPsh i1 i2 fC cz nz w = ((w.set i1 (qa, .inl (κ 0, n1, .inl (upd fa (mz w 0 fC).toNatClampNeg cz)))).set i2 (qb, .inl (κ 0, n2, .inl (upd fb (mz w 0 fC).toNatClampNeg nz)))).set 0 (q, .inr (12, vs.set fC (.int (mz w 0 fC + 1)))) := by
      unfold mPsh
      have hk : (mv w 0 fC).toNat = (mz w 0 fC).toNatClampNeg := rfl
      rw [hk, mPut_eq a1, mPut_eq z2, mPutF_eq z3]
    refine rc_retv B (a := (30, _, [], _)) hrow rfl ?_ ⟨rfl, q, cz, nz, rfl, hfin.symm⟩
    rw [ri_ad_set z3, ri_ad_set z2, ri_ad_set a1]
end MPUSH
