/-! latest: its answer is -1, or the place of a tick before the given one -/
def ml_V (q : Nat) (c a g z i : Int32) : List (Option Value) := [some (.ref q), some (.int c), some (.int a), some (.int g), some (.int z), some (.int i), none, none, none, none, none, none, none, none, none, none, none, none, none, none, some (.int z), some (.int i), some (.int a)]
def ml_lo (ta tz ti : Nat) : List (Option rt_V) := [some (.inr (.inl (79, 1))), some (.inl (0, mcB, mcT)), some (.inl (ta, 0, 0)), some (.inl (0, mcB, mcT)), some (.inl (tz, 0, 0)), some (.inl (ti, 0, 0)), none, none, none, none, none, none, none, none, none, none, none, none, none, none, some (.inl (tz, 0, 0)), some (.inl (ti, 0, 0)), some (.inl (ta, 0, 0))]
noncomputable def ml_S0 : rt_S := (0, (1, 0), ([((mcB, mcT), (0, 0), none, none)], [79], []), List.append (rt_pad 20 [some (.inr (.inl (79, 1))), some (.inl (0, mcB, mcT)), some (.inl (1, 0, 0)), some (.inl (0, mcB, mcT))]) (List.append (rt_non 2) [some (.inl (1, 0, 0))]), [], [])
def ml_T0 : rt_Tg := (6, (1, 0), ([((mcB, mcT), (0, 0), none, none)], [79], []), [none, none, none, none, none, none, none, none, some (.inr (.inl (79, 1))), some (.inl (0, mcB, mcT)), some (.inl (1, 0, 0)), some (.inl (0, mcB, mcT)), some (.inl (0, -1, -1)), some (.inl (0, 0, 0)), none, none, none, none, none, none, none, none, none, none, none, none, none, none, none, none, some (.inl (1, 0, 0))], [])
def ml_S6 : rt_S := (6, (1, 0), ([((mcB, mcT), (0, 0), none, none), ((-1, 59), (0, 0), none, none), ((0, 60), (0, 0), none, none)], [79], []), ml_lo 1 2 3, [], [])
def ml_TN : rt_Tg := (6, (1, 0), ([((mcB, mcT), (0, 0), none, none), ((-1, 59), (0, 0), none, none), ((0, 60), (0, 0), none, none)], [79], []), [none, none, none, none, none, none, none, none, some (.inr (.inl (79, 1))), some (.inl (0, mcB, mcT)), some (.inl (1, 0, 0)), some (.inl (0, mcB, mcT)), some (.inl (2, 0, 0)), some (.inl (3, 0, 0)), none, none, none, none, none, none, none, none, none, none, none, none, none, none, some (.inl (2, 0, 0)), some (.inl (3, -1, -1)), some (.inl (1, 0, 0))], [])
def ml_TB : rt_Tg := (6, (1, 0), ([((mcB, mcT), (0, 0), none, none), ((0, 59), (0, 0), none, none)], [79], []), [none, none, none, none, none, none, none, none, some (.inr (.inl (79, 1))), some (.inl (0, mcB, mcT)), some (.inl (1, 0, 0)), some (.inl (0, mcB, mcT)), some (.inl (2, 0, 0)), some (.inl (2, 1, 1)), none, none, none, none, none, none, none, none, none, none, none, none, none, none, none, some (.inl (2, 0, 0)), some (.inl (1, 0, 0))], [])
def ml_T4 : rt_Tg := (42, (1, 0), ([((0, 59), (0, 0), none, none), ((mcB, mcT), (0, 0), none, none), ((-1, 59), (0, 0), none, none)], [59, 79], []), [some (.inl (1, 0, 0)), some (.inr (.inl (59, 1))), none, none, none, none, none, none, some (.inr (.inl (79, 2))), some (.inl (0, mcB, mcT)), some (.inl (2, 0, 0)), some (.inl (0, mcB, mcT)), some (.inl (3, 0, 0)), some (.inl (1, 0, 0)), none, none, none, none, none, none, none, none, none, none, none, none, none, none, some (.inl (3, 0, 0)), some (.inl (1, 0, 0)), some (.inl (2, 0, 0))], [])
def ml_R : rt_Tg := (0, (1, 0), ([((-1, 59), (0, 0), none, none)], [], []), [some (.inl (1, 0, 0)), none, none, none, none, none, none, none, none, none, none, none, none, none, none, none, none, none, none, none, none, none, none, none, none, none, none, none, some (.inl (1, 0, 0))], [])
def ml_Sl : rt_S := (42, (1, 0), ([((mcB, mcT), (2, 1), none, none), ((mcB, mcT), (0, 0), none, none), ((-1, 59), (0, 0), none, none), ((0, 59), (0, 0), none, none)], [79, 59], []), ml_lo 1 3 4, [.inl (4, 0, 0), .inr (.inl (59, 2))], [(1, (0, 91), .inr (.inl (59, 2))), (2, (4, 0), .inl (2, 0, 0))])
def ml_Sg : rt_S := (42, (1, 0), ([((mcB, mcT), (0, 0), none, none), ((mcB, mcT), (1, 0), none, none), ((-1, 59), (0, 0), none, none), ((0, 59), (0, 0), none, none)], [79, 59], []), ml_lo 1 3 4, [.inl (4, 0, 0), .inr (.inl (59, 2))], [(1, (0, 91), .inr (.inl (59, 2))), (2, (4, 0), .inl (2, 0, 0))])
noncomputable def ml_k6 (SW : rt_W) (S : rt_S) : Bool := cond (rt_tgl 0 SW [ml_TN] S) true (rt_tgl 2 SW [ml_T4] S)
noncomputable def ml_chk (KK : List (List rt_K)) (MX : rt_X) (SW : rt_W) (SP : rt_SP) (n d : Nat) : Bool := cond (rt_run KK MX [] SP n d 240 [6] false (rt_tgl 0 SW [ml_T0]) rt_kf2 ml_S0) (cond (rt_run KK MX [] SP n d 240 [6, 42] true (ml_k6 SW) (rt_tgi SW [ml_R]) ml_S6) (cond (rt_run KK MX [] SP n d 240 [6, 42] true (rt_tgl 0 SW [ml_TN, ml_TB]) rt_kf2 ml_Sl) (cond (rt_run KK MX [] SP n d 240 [6, 42] true (rt_tgl 0 SW [ml_TN]) rt_kf2 ml_Sg) (cond (mA mE1 KK 1 60 60) (mRf KK 1 91 60) false) false) false) false) false
noncomputable def ml_ty (KK : List (List rt_K)) : Bool := cond (mA mE1 KK 1 60 60) (cond (mRf KK 1 91 60) (rt_allK (fun j (_ : Unit) => match mTy KK 1 60 j with
  | some _ => true
  | none => false) (List.replicate 60 ()) 0) false) false
theorem m_two {α : Type} {l : List α} (h : l.length = 2) : ∃ a b, l = [a, b] := by
  match l, h with
  | [a, b], _ => exact ⟨a, b, rfl⟩
section MLA
variable {l : Launch} {D : va_G} {KK : List (List rt_K)} {κ : Nat → ClassId} {ad : List Nat} {MX : rt_X} {SW : rt_W} {SP : rt_SP} {b d n : Nat}
theorem ml_gL {τ : List Int} {ν : List Nat} {lm : List Int64} {q ta tz ti : Nat} {c a g z i : Int32} (hq : ad[0]? = some q) (hν : ν[0]? = some q) (h0 : τ[ta]? = some a.toInt) (h1 : τ[tz]? = some z.toInt) (h2 : τ[ti]? = some i.toInt) : rt_gL τ ν lm mK ad (ml_lo (ta + 1) (tz + 1) (ti + 1)) (ml_V q c a g z i) := by
  have hany : ∀ x : Int32, rt_gI τ (0, mcB, mcT) x := fun x => rt_gI_0.mpr ⟨Int32.le_toInt x, by
    have := Int32.toInt_lt x
    show x.toInt ≤ 2147483647
    omega⟩
  intro j x hx
  match j, hx with
  | 0, hx =>
    cases hx
    exact ⟨_, rfl, q, rfl, ⟨0, hq, rfl⟩, Or.inr ⟨0, rfl, hν⟩⟩
  | 1, hx =>
    cases hx
    exact ⟨_, rfl, c, rfl, hany c⟩
  | 2, hx =>
    cases hx
    exact ⟨_, rfl, a, rfl, m_gI h0⟩
  | 3, hx =>
    cases hx
    exact ⟨_, rfl, g, rfl, hany g⟩
  | 4, hx =>
    cases hx
    exact ⟨_, rfl, z, rfl, m_gI h1⟩
  | 5, hx =>
    cases hx
    exact ⟨_, rfl, i, rfl, m_gI h2⟩
  | 6, hx => cases hx
  | 7, hx => cases hx
  | 8, hx => cases hx
  | 9, hx => cases hx
  | 10, hx => cases hx
  | 11, hx => cases hx
  | 12, hx => cases hx
  | 13, hx => cases hx
  | 14, hx => cases hx
  | 15, hx => cases hx
  | 16, hx => cases hx
  | 17, hx => cases hx
  | 18, hx => cases hx
  | 19, hx => cases hx
  | 20, hx =>
    cases hx
    exact ⟨_, rfl, z, rfl, m_gI h1⟩
  | 21, hx =>
    cases hx
    exact ⟨_, rfl, i, rfl, m_gI h2⟩
  | 22, hx =>
    cases hx
    exact ⟨_, rfl, a, rfl, m_gI h0⟩
  | j + 23, hx => cases hx
theorem ml_loc {V : List (Option Value)} {q : Nat} {c a g z k : Int32} (h0 : V[0]? = some (some (.ref q))) (h1 : V[1]? = some (some (.int c))) (h2 : V[2]? = some (some (.int a))) (h3 : V[3]? = some (some (.int g))) (h4 : V[4]? = some (some (.int z))) (h5 : V[5]? = some (some (.int k))) : ∀ (i : Nat) (v : Value), i < 20 → (ml_V q c a g z k)[i]? = some (some v) → V[i]? = some (some v) := by
  intro i v hi hv
  match i, hv with
  | 0, hv => cases hv; exact h0
  | 1, hv => cases hv; exact h1
  | 2, hv => cases hv; exact h2
  | 3, hv => cases hv; exact h3
  | 4, hv => cases hv; exact h4
  | 5, hv => cases hv; exact h5
  | 6, hv => cases hv
  | 7, hv => cases hv
  | 8, hv => cases hv
  | 9, hv => cases hv
  | 10, hv => cases hv
  | 11, hv => cases hv
  | 12, hv => cases hv
  | 13, hv => cases hv
  | 14, hv => cases hv
  | 15, hv => cases hv
  | 16, hv => cases hv
  | 17, hv => cases hv
  | 18, hv => cases hv
  | 19, hv => cases hv
  | i + 20, hv => omega
/-- the answer -/
def mlQ (KK : List (List rt_K)) (κ : Nat → ClassId) (ad : List Nat) (b : Nat) (t1 : Int) (w0 : va_W) (a : Int32) (ov : Option Value) (w'' : va_W) : Prop := rt_hp KK κ mK ad w0 (mF b) t1 1 0 w'' ∧ ∃ z : Int32, ov = some (.int z) ∧ -1 ≤ z.toInt ∧ z.toInt ≤ 59 ∧ (z.toInt = -1 ∨ mv w0 60 z.toInt.toNat < a.toInt)
set_option maxHeartbeats 1000000 in
theorem ml_loop (hcx : rt_ctx KK mK ad (mF b)) (hMC : rt_MCok l D κ SP.2) (hMX : rt_MXok KK κ mK ad (mF b) MX) (hSW : rt_SWok KK κ mK ad (mF b) SW) (hk : ml_chk KK MX SW SP n d = true) (hty : ml_ty KK = true) (hd : 1 ≤ d) {y : MethodName} {cc : ByteArray} {ret : Option FieldType} (hm : mT[240]? = some (y, cc, 6, ret)) {p : Program} {e : Env} {s : State} {m : MethodId} {args : Array Value} {below : List Frame} {meth : Method} {c : Code} {ws : va_W} (B : rc_Bd p s m args meth c y cc 6 ret κ D ws) (had : ri_ad ws = ad) {w0 : va_W} {t1 : Int} {q : Nat} (hq : ad[0]? = some q) {az : Int32} : ∀ (N : Nat) (cz gz zz iz : Int32) (w' : va_W), (60 - iz.toInt).toNat ≤ N → -1 ≤ zz.toInt → zz.toInt ≤ 59 → 0 ≤ iz.toInt → iz.toInt ≤ 60 → (zz.toInt = -1 ∨ mv w0 60 zz.toInt.toNat < az.toInt) → rt_hp KK κ mK ad w0 (mF b) t1 1 0 w' → rc_AB p l e s m args below meth c 6 D ws (MQ below (rc_Q D ws s.heap.size (mlQ KK κ ad b t1 w0 az)) args s 0 0 (va_A ws s.heap.size)) d (6, ml_V q cz az gz zz iz, [], w') := by
  obtain ⟨-, hk⟩ := rt_cnd hk
  obtain ⟨k6, hk⟩ := rt_cnd hk
  obtain ⟨kl, hk⟩ := rt_cnd hk
  obtain ⟨kg, -⟩ := rt_cnd hk
  obtain ⟨y1, hty⟩ := rt_cnd hty
  obtain ⟨y2, y3⟩ := rt_cnd hty
  have hrun := rt_run_ok (SP := SP) (CS := []) hcx hMC hMX (fun _ h => by cases h) n
  have hT : ∀ j : Nat, j < 60 → ∃ a, mTy KK 1 60 j = some a := by
    intro j h1
    have := rt_allK_ok y3 j () (by
      rw [List.getElem?_replicate, if_pos h1])
    rw [Nat.zero_add] at this
    cases h : mTy KK 1 60 j with
    | none => rw [h] at this; cases this
    | some a => exact ⟨a, rfl⟩
  have any1 : ∀ x : Int32, mcB ≤ x.toInt ∧ x.toInt ≤ mcT := fun x => ⟨Int32.le_toInt x, by
    have := Int32.toInt_lt x
    show x.toInt ≤ 2147483647
    omega⟩
  have step : ∀ (cz gz zz iz : Int32) (w' : va_W), -1 ≤ zz.toInt → zz.toInt ≤ 59 → 0 ≤ iz.toInt → iz.toInt ≤ 60 → (zz.toInt = -1 ∨ mv w0 60 zz.toInt.toNat < az.toInt) → rt_hp KK κ mK ad w0 (mF b) t1 1 0 w' → (∀ (cz' gz' zz' iz' : Int32) (w'' : va_W), iz'.toInt = iz.toInt + 1 → -1 ≤ zz'.toInt → zz'.toInt ≤ 59 → iz'.toInt ≤ 60 → (zz'.toInt = -1 ∨ mv w0 60 zz'.toInt.toNat < az.toInt) → rt_hp KK κ mK ad w0 (mF b) t1 1 0 w'' → rc_AB p l e s m args below meth c 6 D ws (MQ below (rc_Q D ws s.heap.size (mlQ KK κ ad b t1 w0 az)) args s 0 0 (va_A ws s.heap.size)) d (6, ml_V q cz' az gz' zz' iz', [], w'')) → rc_AB p l e s m args below meth c 6 D ws (MQ below (rc_Q D ws s.heap.size (mlQ KK κ ad b t1 w0 az)) args s 0 0 (va_A ws s.heap.size)) d (6, ml_V q cz az gz zz iz, [], w') := by
    intro cz gz zz iz w' z1 z2 i1 i2 hz hw nx
    have fromN : ∀ (cz gz : Int32) (b' : rc_C), rt_atT KK κ mK ad w0 (mF b) t1 ml_TN b' → b'.2.2.1.length = 0 → (∀ (i : Nat) (v : Value), 20 ≤ i → b'.2.1[i]? = some (some v) → (ml_V q cz az gz zz iz)[i]? = some (some v)) → rc_AB p l e s m args below meth c 6 D ws (MQ below (rc_Q D ws s.heap.size (mlQ KK κ ad b t1 w0 az)) args s 0 0 (va_A ws s.heap.size)) d b' := by
      intro cz gz b' hat hl0 G
      obtain ⟨τ, ν, lm, hpc, g2, g3, g4, -⟩ := hat
      have hb0 : b'.2.2.1 = [] := List.length_eq_zero_iff.mp hl0
      have hpc : b'.1 = 6 := by
        rcases hpc with hpc | hpc
        · cases hpc
        · exact hpc
      rw [hb0] at g4
      obtain ⟨t0, p0, q0x, rfl, ⟨i0, p1, p2⟩, -⟩ := g4 8 (.inr (.inl (79, 1))) rfl
      have := mK_inj i0 0 79 p2 rfl
      subst this
      rw [hq] at p1
      cases p1
      obtain ⟨v1, pu, cz', rfl, -⟩ := g4 9 (.inl (0, mcB, mcT)) rfl
      obtain ⟨v2, pa, az', rfl, ga⟩ := g4 10 (.inl (1, 0, 0)) rfl
      obtain ⟨v3, pg, gz', rfl, -⟩ := g4 11 (.inl (0, mcB, mcT)) rfl
      obtain ⟨v4, pz, zz', rfl, gz2⟩ := g4 12 (.inl (2, 0, 0)) rfl
      obtain ⟨v5, pi, iz', rfl, gi⟩ := g4 13 (.inl (3, 0, 0)) rfl
      obtain ⟨v6, h20, x20, rfl, g20⟩ := g4 28 (.inl (2, 0, 0)) rfl
      obtain ⟨v7, h21, x21, rfl, g21⟩ := g4 29 (.inl (3, -1, -1)) rfl
      obtain ⟨v8, h22, x22, rfl, g22⟩ := g4 30 (.inl (1, 0, 0)) rfl
      obtain ⟨ta, ea, -, -, -⟩ := m_tg g3.1 (k := 0) rfl
      obtain ⟨tz, ez, bz1, bz2, -⟩ := m_tg g3.1 (k := 1) rfl
      obtain ⟨ti, ei, -, bi2, -⟩ := m_tg g3.1 (k := 2) rfl
      have ga := m_gIe ga ea
      have gz2 := m_gIe gz2 ez
      have gi := m_gIe gi ei
      have g20 := m_gIe g20 ez
      have g21 := m_gIe g21 ei
      have g22 := m_gIe g22 ea
      have v20 := G 20 _ (by decide) (show b'.2.1[20]? = some (some (.int x20)) from h20)
      have v20 : some (some (Value.int zz)) = some (some (.int x20)) := v20
      cases v20
      have v21 := G 21 _ (by decide) (show b'.2.1[21]? = some (some (.int x21)) from h21)
      have v21 : some (some (Value.int iz)) = some (some (.int x21)) := v21
      cases v21
      have v22 := G 22 _ (by decide) (show b'.2.1[22]? = some (some (.int x22)) from h22)
      have v22 : some (some (Value.int az)) = some (some (.int x22)) := v22
      cases v22
      have bi2 : ti ≤ 60 := bi2
      have hza : az' = az := Int32.toInt_inj.mp (by omega)
      subst hza
      have hzz : zz' = zz := Int32.toInt_inj.mp (by omega)
      subst hzz
      refine rc_At_loc (V := ml_V q cz' az' gz' zz' iz') (ml_loc (show b'.2.1[0]? = _ from p0) (show b'.2.1[1]? = _ from pu) (show b'.2.1[2]? = _ from pa) (show b'.2.1[3]? = _ from pg) (show b'.2.1[4]? = _ from pz) (show b'.2.1[5]? = _ from pi)) ?_
      rw [hb0, hpc]
      exact nx cz' gz' zz' iz' _ (by omega) z1 z2 (by omega) hz g2
    have fromB : ∀ (cz gz : Int32) (b' : rc_C), mv w0 60 iz.toInt.toNat < az.toInt → rt_atT KK κ mK ad w0 (mF b) t1 ml_TB b' → b'.2.2.1.length = 0 → (∀ (i : Nat) (v : Value), 20 ≤ i → b'.2.1[i]? = some (some v) → (ml_V q cz az gz zz iz)[i]? = some (some v)) → rc_AB p l e s m args below meth c 6 D ws (MQ below (rc_Q D ws s.heap.size (mlQ KK κ ad b t1 w0 az)) args s 0 0 (va_A ws s.heap.size)) d b' := by
      intro cz gz b' hlt hat hl0 G
      obtain ⟨τ, ν, lm, hpc, g2, g3, g4, -⟩ := hat
      have hb0 : b'.2.2.1 = [] := List.length_eq_zero_iff.mp hl0
      have hpc : b'.1 = 6 := by
        rcases hpc with hpc | hpc
        · cases hpc
        · exact hpc
      rw [hb0] at g4
      obtain ⟨t0, p0, q0x, rfl, ⟨i0, p1, p2⟩, -⟩ := g4 8 (.inr (.inl (79, 1))) rfl
      have := mK_inj i0 0 79 p2 rfl
      subst this
      rw [hq] at p1
      cases p1
      obtain ⟨v1, pu, cz', rfl, -⟩ := g4 9 (.inl (0, mcB, mcT)) rfl
      obtain ⟨v2, pa, az', rfl, ga⟩ := g4 10 (.inl (1, 0, 0)) rfl
      obtain ⟨v3, pg, gz', rfl, -⟩ := g4 11 (.inl (0, mcB, mcT)) rfl
      obtain ⟨v4, pz, zz', rfl, gz2⟩ := g4 12 (.inl (2, 0, 0)) rfl
      obtain ⟨v5, pi, iz', rfl, gi⟩ := g4 13 (.inl (2, 1, 1)) rfl
      obtain ⟨v7, h21, x21, rfl, g21⟩ := g4 29 (.inl (2, 0, 0)) rfl
      obtain ⟨v8, h22, x22, rfl, g22⟩ := g4 30 (.inl (1, 0, 0)) rfl
      obtain ⟨ta, ea, -, -, -⟩ := m_tg g3.1 (k := 0) rfl
      obtain ⟨tz, ez, bz1, bz2, -⟩ := m_tg g3.1 (k := 1) rfl
      have ga := m_gIe ga ea
      have gz2 := m_gIe gz2 ez
      have gi := m_gIe gi ez
      have g21 := m_gIe g21 ez
      have g22 := m_gIe g22 ea
      have v21 := G 21 _ (by decide) (show b'.2.1[21]? = some (some (.int x21)) from h21)
      have v21 : some (some (Value.int iz)) = some (some (.int x21)) := v21
      cases v21
      have v22 := G 22 _ (by decide) (show b'.2.1[22]? = some (some (.int x22)) from h22)
      have v22 : some (some (Value.int az)) = some (some (.int x22)) := v22
      cases v22
      have bz1 : 0 ≤ tz := bz1
      have bz2 : tz ≤ 59 := bz2
      have hza : az' = az := Int32.toInt_inj.mp (by omega)
      subst hza
      have hzz : zz' = iz := Int32.toInt_inj.mp (by omega)
      subst hzz
      refine rc_At_loc (V := ml_V q cz' az' gz' zz' iz') (ml_loc (show b'.2.1[0]? = _ from p0) (show b'.2.1[1]? = _ from pu) (show b'.2.1[2]? = _ from pa) (show b'.2.1[3]? = _ from pg) (show b'.2.1[4]? = _ from pz) (show b'.2.1[5]? = _ from pi)) ?_
      rw [hb0, hpc]
      exact nx cz' gz' zz' iz' _ (by omega) (by omega) (by omega) (by omega) (Or.inr hlt) g2
    refine hrun d 240 [6, 42] true _ _ ml_S6 k6 hd y cc 6 ret hm (by decide) p e s m args below meth c ws B _ had w0 t1 _ ⟨[az.toInt, zz.toInt, iz.toInt], [q], [], rfl, hw, ⟨m_okE rfl ?_, ⟨rfl, ?_⟩, ⟨rfl, fun j c h1 => by cases h1⟩⟩, ml_gL (ta := 0) (tz := 1) (ti := 2) hq rfl rfl rfl rfl, trivial, fun o ho => by cases ho⟩ (fun S' b' x1 x2 x3 => ?_) (fun v S' b' ov h1 _ h3 h4 h5 => ?_)
    · intro j e b h1 h2
      match j, h1, h2 with
      | 0, h1, h2 => cases h1; cases h2; exact m_okB (any1 az).1 (any1 az).2 (Or.inl rfl)
      | 1, h1, h2 => cases h1; cases h2; exact m_okB z1 z2 (Or.inl rfl)
      | 2, h1, h2 => cases h1; cases h2; exact m_okB i1 i2 (Or.inl rfl)
      | j + 3, h1, h2 => cases h1
    · intro j k h1
      match j, h1 with
      | 0, h1 => cases h1; exact ⟨_, rfl, 0, hq, rfl⟩
      | j + 1, h1 => cases h1
    · unfold ml_k6 at x1
      cases hN : rt_tgl 0 SW [ml_TN] S' with
      | true =>
        obtain ⟨hl0, tg, htg, hat⟩ := rt_tgl_ok hSW hN x2
        rw [List.mem_singleton.mp htg] at hat
        exact fromN cz gz b' hat hl0 x3
      | false =>
        rw [hN] at x1
        obtain ⟨hl0, tg, htg, hat⟩ := rt_tgl_ok hSW (show rt_tgl 2 SW [ml_T4] S' = true from x1) x2
        rw [List.mem_singleton.mp htg] at hat
        obtain ⟨τ, ν, lm, hpc, g2, g3, g4, -⟩ := hat
        obtain ⟨sa, sb, hb0⟩ := m_two hl0
        have hpc : b'.1 = 42 := by
          rcases hpc with hpc | hpc
          · cases hpc
          · exact hpc
        rw [hb0] at g4
        obtain ⟨w0', s0, is, rfl, gis⟩ := g4 0 (.inl (1, 0, 0)) rfl
        have s0 : some (some sa) = some (some (Value.int is)) := s0
        cases s0
        obtain ⟨w1', s1, qT, rfl, ⟨iT, s2, s3⟩, -⟩ := g4 1 (.inr (.inl (59, 1))) rfl
        have s1 : some (some sb) = some (some (Value.ref qT)) := s1
        cases s1
        have := mK_inj iT 60 59 s3 rfl
        subst this
        obtain ⟨t0, p0, q0x, rfl, ⟨i0, p1, p2⟩, -⟩ := g4 8 (.inr (.inl (79, 2))) rfl
        have := mK_inj i0 0 79 p2 rfl
        subst this
        rw [hq] at p1
        cases p1
        obtain ⟨v1, pu, cz', rfl, -⟩ := g4 9 (.inl (0, mcB, mcT)) rfl
        obtain ⟨v2, pa, az', rfl, ga⟩ := g4 10 (.inl (2, 0, 0)) rfl
        obtain ⟨v3, pg, gz', rfl, -⟩ := g4 11 (.inl (0, mcB, mcT)) rfl
        obtain ⟨v4, pz, zz', rfl, gz2⟩ := g4 12 (.inl (3, 0, 0)) rfl
        obtain ⟨v5, pi, iz', rfl, gi⟩ := g4 13 (.inl (1, 0, 0)) rfl
        obtain ⟨v6, h20, x20, rfl, g20⟩ := g4 28 (.inl (3, 0, 0)) rfl
        obtain ⟨v7, h21, x21, rfl, g21⟩ := g4 29 (.inl (1, 0, 0)) rfl
        obtain ⟨v8, h22, x22, rfl, g22⟩ := g4 30 (.inl (2, 0, 0)) rfl
        obtain ⟨ti, ei, bi1, bi2, -⟩ := m_tg g3.1 (k := 0) rfl
        obtain ⟨ta, ea, -, -, -⟩ := m_tg g3.1 (k := 1) rfl
        obtain ⟨tz, ez, bz1, bz2, -⟩ := m_tg g3.1 (k := 2) rfl
        have gis := m_gIe gis ei
        have ga := m_gIe ga ea
        have gz2 := m_gIe gz2 ez
        have gi := m_gIe gi ei
        have g20 := m_gIe g20 ez
        have g21 := m_gIe g21 ei
        have g22 := m_gIe g22 ea
        have v20 := x3 20 _ (by decide) (show b'.2.1[20]? = some (some (.int x20)) from h20)
        have v20 : some (some (Value.int zz)) = some (some (.int x20)) := v20
        cases v20
        have v21 := x3 21 _ (by decide) (show b'.2.1[21]? = some (some (.int x21)) from h21)
        have v21 : some (some (Value.int iz)) = some (some (.int x21)) := v21
        cases v21
        have v22 := x3 22 _ (by decide) (show b'.2.1[22]? = some (some (.int x22)) from h22)
        have v22 : some (some (Value.int az)) = some (some (.int x22)) := v22
        cases v22
        have bi1 : 0 ≤ ti := bi1
        have bi2 : ti ≤ 59 := bi2
        have hza : az' = az := Int32.toInt_inj.mp (by omega)
        subst hza
        have hzz : zz' = zz := Int32.toInt_inj.mp (by omega)
        subst hzz
        have hii : iz' = iz := Int32.toInt_inj.mp (by omega)
        subst hii
        have his : is = iz' := Int32.toInt_inj.mp (by omega)
        subst his
        refine rc_At_loc (V := ml_V q cz' az' gz' zz' is) (ml_loc (show b'.2.1[0]? = _ from p0) (show b'.2.1[1]? = _ from pu) (show b'.2.1[2]? = _ from pa) (show b'.2.1[3]? = _ from pg) (show b'.2.1[4]? = _ from pz) (show b'.2.1[5]? = _ from pi)) ?_
        rw [hb0, hpc]
        obtain ⟨q0, qR, e0, eR, r1, r2, r3, r4⟩ := m_ref g2.2.1 g2.1 y2
        have hq0 : q0 = q := by
          have := ri_ad_at r1
          rw [g2.1, hq] at this
          exact (Option.some.inj this).symm
        subst hq0
        rw [s2] at r4
        cases r4
        obtain ⟨aT, hTi⟩ := hT is.toInt.toNat (by omega)
        obtain ⟨qT', eT', j1, j2, -, -⟩ := m_int g2.2.1 hTi
        rw [r2] at j1
        cases j1
        have fT : mv b'.2.2.2 60 is.toInt.toNat = mv w0 60 is.toInt.toNat := mA_ok y1 mE1_ok g2.2.2.1 _ (by omega)
        have go : ∀ (S : rt_S) (tg : List rt_Tg) (e1 e2 : rt_B), rt_run KK MX [] SP n d 240 [6, 42] true (rt_tgl 0 SW tg) rt_kf2 S = true → S = (42, (1, 0), ([e1, e2, ((-1, 59), (0, 0), none, none), ((0, 59), (0, 0), none, none)], [79, 59], []), ml_lo 1 3 4, [.inl (4, 0, 0), .inr (.inl (59, 2))], [(1, (0, 91), .inr (.inl (59, 2))), (2, (4, 0), .inl (2, 0, 0))]) → rt_okB [az'.toInt, mv b'.2.2.2 60 is.toInt.toNat, zz'.toInt, is.toInt] [] e1 az'.toInt → rt_okB [az'.toInt, mv b'.2.2.2 60 is.toInt.toNat, zz'.toInt, is.toInt] [] e2 (mv b'.2.2.2 60 is.toInt.toNat) → (∀ (b'' : rc_C), b''.2.2.1.length = 0 → (∃ t ∈ tg, rt_atT KK κ mK ad w0 (mF b) t1 t b'') → (∀ (i : Nat) (v : Value), 20 ≤ i → b''.2.1[i]? = some (some v) → (ml_V q0 cz' az' gz' zz' is)[i]? = some (some v)) → rc_AB p l e s m args below meth c 6 D ws (MQ below (rc_Q D ws s.heap.size (mlQ KK κ ad b t1 w0 az')) args s 0 0 (va_A ws s.heap.size)) d b'') → rc_AB p l e s m args below meth c 6 D ws (MQ below (rc_Q D ws s.heap.size (mlQ KK κ ad b t1 w0 az')) args s 0 0 (va_A ws s.heap.size)) d (42, ml_V q0 cz' az' gz' zz' is, [.int is, .ref qT], b'.2.2.2) := by
          intro S tg e1 e2 hr hS o1 o2 kk
          subst hS
          refine hrun d 240 [6, 42] true _ _ _ hr hd y cc 6 ret hm (by decide) p e s m args below meth c ws B _ had w0 t1 _ ⟨[az'.toInt, mv b'.2.2.2 60 is.toInt.toNat, zz'.toInt, is.toInt], [q0, qT], [], rfl, g2, ⟨m_okE rfl ?_, ⟨rfl, ?_⟩, ⟨rfl, fun j c h1 => by cases h1⟩⟩, ml_gL (ta := 0) (tz := 2) (ti := 3) hq rfl rfl rfl rfl, ?_, ?_⟩ (fun S' b'' u1 u2 u3 => ?_) (fun v S' b' ov h1 => by cases h1)
          · intro j e b h1 h2
            match j, h1, h2 with
            | 0, h1, h2 => cases h1; cases h2; exact o1
            | 1, h1, h2 => cases h1; cases h2; exact o2
            | 2, h1, h2 => cases h1; cases h2; exact m_okB z1 z2 (Or.inl rfl)
            | 3, h1, h2 => cases h1; cases h2; exact m_okB i1 (by show is.toInt ≤ 59; omega) (Or.inl rfl)
            | j + 4, h1, h2 => cases h1
          · intro j k h1
            match j, h1 with
            | 0, h1 => cases h1; exact ⟨_, rfl, 0, hq, rfl⟩
            | 1, h1 => cases h1; exact ⟨_, rfl, 60, s2, rfl⟩
            | j + 2, h1 => cases h1
          · exact ⟨⟨is, rfl, m_gI (k := 3) rfl⟩, ⟨qT, rfl, ⟨60, s2, rfl⟩, Or.inr ⟨1, rfl, rfl⟩⟩, trivial⟩
          · intro o ho
            rcases List.mem_cons.mp ho with rfl | ho
            · exact m_mkR (j := 0) (j' := 1) (i := 60) (f := 91) rfl rfl r1 r3 s2 rfl
            · rw [List.mem_singleton.mp ho]
              exact m_mkOt (j := 1) (i := 60) (t := 3) rfl r2 rfl i1 j2 (m_gI (k := 1) rfl)
          · obtain ⟨hl0, hat⟩ := rt_tgl_ok hSW u1 u2
            exact kk b'' hl0 hat u3
        by_cases hlt : mv w0 60 is.toInt.toNat < az'.toInt
        · refine go ml_Sl [ml_TN, ml_TB] _ _ kl rfl (m_okB (any1 az').1 (any1 az').2 (Or.inr ⟨mv b'.2.2.2 60 is.toInt.toNat, rfl, by omega⟩)) (m_okB (any1 (mz b'.2.2.2 60 is.toInt.toNat)).1 (any1 (mz b'.2.2.2 60 is.toInt.toNat)).2 (Or.inl rfl)) (fun b'' hl ht G => ?_)
          obtain ⟨tg, htg, hat⟩ := ht
          rcases List.mem_cons.mp htg with rfl | htg
          · exact fromN cz' gz' b'' hat hl G
          · rw [List.mem_singleton.mp htg] at hat
            exact fromB cz' gz' b'' hlt hat hl G
        · refine go ml_Sg [ml_TN] _ _ kg rfl (m_okB (any1 az').1 (any1 az').2 (Or.inl rfl)) (m_okB (any1 (mz b'.2.2.2 60 is.toInt.toNat)).1 (any1 (mz b'.2.2.2 60 is.toInt.toNat)).2 (Or.inr ⟨az'.toInt, rfl, by omega⟩)) (fun b'' hl ht G => ?_)
          obtain ⟨tg, htg, hat⟩ := ht
          rw [List.mem_singleton.mp htg] at hat
          exact fromN cz' gz' b'' hat hl G
    · cases v with
      | none => cases h1
      | some x =>
        obtain ⟨tg, htg, hat⟩ := rt_tgt_ok hSW (show rt_tgt SW [ml_R] S' = true from h1) h4
        rw [List.mem_singleton.mp htg] at hat
        obtain ⟨τ, ν, lm, -, g2, g3, g4, -⟩ := hat
        refine ⟨g2, ?_⟩
        obtain ⟨v, g5, zr, rfl, gr⟩ := g4 0 (.inl (1, 0, 0)) rfl
        obtain ⟨tz, ez, -, -, -⟩ := m_tg g3.1 (k := 0) rfl
        obtain ⟨v6, h20, x20, rfl, g20⟩ := g4 28 (.inl (1, 0, 0)) rfl
        rw [h3] at g5 h20
        cases ov with
        | none => cases g5
        | some w =>
          cases g5
          have v20 := h5 20 _ (by decide) (show b'.2.1[20]? = some (some (.int x20)) from h20)
          have v20 : some (some (Value.int zz)) = some (some (.int x20)) := v20
          cases v20
          have gr := m_gIe gr ez
          have g20 := m_gIe g20 ez
          have : zr = zz := Int32.toInt_inj.mp (by omega)
          subst this
          exact ⟨zr, rfl, z1, z2, hz⟩
  intro N
  induction N with
  | zero =>
    intro cz gz zz iz w' hN z1 z2 i1 i2 hz hw
    exact step cz gz zz iz w' z1 z2 i1 i2 hz hw (fun cz' gz' zz' iz' w'' e1 e2 e3 e4 _ _ => by omega)
  | succ N ih =>
    intro cz gz zz iz w' hN z1 z2 i1 i2 hz hw
    exact step cz gz zz iz w' z1 z2 i1 i2 hz hw (fun cz' gz' zz' iz' w'' e1 e2 e3 e4 e5 e6 => ih cz' gz' zz' iz' w'' (by omega) e2 e3 (by omega) e4 e5 e6)
end MLA
