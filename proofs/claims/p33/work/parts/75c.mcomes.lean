/-! comes: by the heights of its code -/
def mcB : Int := -2147483648
def mcT : Int := 2147483647
/-- locals and ghosts -/
def mc_V (q : Nat) (u c n k : Int32) : List (Option Value) := [some (.ref q), some (.int u), some (.int c), some (.int n), some (.int k), none, none, none, none, none, none, none, none, none, none, none, none, none, none, none, some (.int n), some (.int k)]
def mc_lo (u : Int) : List (Option rt_V) := [some (.inr (.inl (79, 1))), some (.inl (0, u, u)), some (.inl (1, 0, 0)), some (.inl (2, 0, 0)), some (.inl (3, 0, 0)), none, none, none, none, none, none, none, none, none, none, none, none, none, none, none, some (.inl (2, 0, 0)), some (.inl (3, 0, 0))]
/-- at the head, before the entry's loop -/
def mc_T0 (u : Int) : rt_Tg := (10, (0, 0), ([((0, 4), (0, 0), none, none), ((0, 800), (0, 0), none, none)], [79, 32], []), [none, none, none, none, none, none, none, none, some (.inr (.inl (79, 1))), some (.inl (0, u, u)), some (.inl (1, 0, 0)), some (.inl (0, 0, 0)), some (.inl (2, 0, 0))], [(1, (0, 41), .inr (.inl (32, 2))), (2, (0, u), .inl (2, 0, 0))])
/-- at the head again: the height by dn more, the place by one -/
def mc_TB (u dn : Int) : rt_Tg := (10, (0, 0), ([((0, 4), (0, 0), none, none), ((mcB, mcT), (0, 0), none, none), ((mcB, mcT), (0, 0), none, none)], [79], []), [none, none, none, none, none, none, none, none, some (.inr (.inl (79, 1))), some (.inl (0, u, u)), some (.inl (1, 0, 0)), some (.inl (2, 0, 0)), some (.inl (3, 0, 0)), none, none, none, none, none, none, none, none, none, none, none, none, none, none, none, some (.inl (2, -dn, -dn)), some (.inl (3, -1, -1))], [])
def mc_R : rt_Tg := (0, (0, 0), ([], [], []), [some (.inl (0, mcB, mcT))], [])
/-- at the head: the end; a place with the code x .. y and heights l .. h -/
def mc_SE (u : Int) : rt_S := (10, (0, 0), ([((0, 4), (0, 0), none, none), ((0, 60), (0, 0), none, none), ((0, 800), (4, 0), none, none), ((0, 800), (0, 0), none, none)], [79, 33], []), mc_lo u, [], [(1, (0, 42), .inr (.inl (33, 2))), (2, (0, u), .inl (4, 0, 0))])
def mc_S (u l h x y : Int) : rt_S := (10, (0, 0), ([((0, 4), (0, 0), none, none), ((l, h), (0, 0), none, none), ((0, 799), (0, 0), none, none), ((0, 800), (3, 1), none, none), ((x, y), (0, 0), none, none)], [79, 33, 35], []), mc_lo u, [], [(1, (0, 42), .inr (.inl (33, 2))), (2, (0, u), .inl (4, 0, 0)), (1, (0, 46), .inr (.inl (35, 3))), (3, (3, 0), .inl (5, 0, 0))])
noncomputable def mc_S0 (TN : rt_N) (tl : List (Option rt_V)) (to : List rt_O) : rt_S := (0, (0, 0), TN, rt_pad 20 tl, [], to)
def rt_kf2 (_ : Option rt_V) (_ : rt_S) : Bool := false
/-- an end with so many on the stack -/
noncomputable def rt_tgl (k : Nat) (SW : rt_W) (tg : List rt_Tg) (S : rt_S) : Bool := cond (Nat.beq (ri_len (rt_st S)) k) (rt_tgt SW tg S) false
/-- the runs that are wanted -/
noncomputable def mc_chk (KK : List (List rt_K)) (MX : rt_X) (SW : rt_W) (CS : List rt_Co) (SP : rt_SP) (n d : Nat) (u : Int) : Bool := cond (rt_run KK MX CS SP n d 190 [10] true rt_kf (rt_tgi SW [mc_R]) (mc_SE u)) (cond (rt_run KK MX CS SP n d 190 [10] true (rt_tgl 0 SW [mc_TB u 0]) rt_kf2 (mc_S u 1 60 126 126)) (cond (rt_run KK MX CS SP n d 190 [10] true (rt_tgl 0 SW [mc_TB u 1]) rt_kf2 (mc_S u 0 59 97 122)) (cond (rt_run KK MX CS SP n d 190 [10] true (rt_tgl 0 SW [mc_TB u (-1)]) rt_kf2 (mc_S u 2 60 mcB 96)) (cond (rt_run KK MX CS SP n d 190 [10] true (rt_tgl 0 SW [mc_TB u (-1)]) rt_kf2 (mc_S u 2 60 123 125)) (rt_run KK MX CS SP n d 190 [10] true (rt_tgl 0 SW [mc_TB u (-1)]) rt_kf2 (mc_S u 2 60 127 mcT)) false) false) false) false) false
/-- what is known of arrays -/
noncomputable def mc_ty (KK : List (List rt_K)) (u b : Nat) : Bool := cond (mRf KK 0 42 34) (cond (mRf KK 0 46 36) (cond (mA mE1 KK 0 33 8) (cond (mA mE1 KK 0 34 8) (cond (mA mE1 KK 0 36 800) (cond (match mTy KK 0 34 u with
  | some a => cond (ri_le 0 a.1) (ri_le a.2 800) false
  | none => false) (rt_allK (fun j (_ : Unit) => match mTy KK 0 36 (Nat.add (Nat.mul 400 b) j) with
  | some _ => true
  | none => false) (List.replicate 400 ()) 0) false) false) false) false) false) false
section MCO
variable {l : Launch} {D : va_G} {KK : List (List rt_K)} {κ : Nat → ClassId} {ad : List Nat} {MX : rt_X} {SW : rt_W} {CS : List rt_Co} {SP : rt_SP} {b d n u : Nat}
theorem mc_gL {τ : List Int} {ν : List Nat} {lm : List Int64} {q : Nat} {uz c nn k : Int32} (hq : ad[0]? = some q) (hν : ν[0]? = some q) (hu : uz.toInt = u) (h0 : τ[0]? = some c.toInt) (h1 : τ[1]? = some nn.toInt) (h2 : τ[2]? = some k.toInt) : rt_gL τ ν lm mK ad (mc_lo u) (mc_V q uz c nn k) := by
  intro i x hx
  match i, hx with
  | 0, hx =>
    cases hx
    exact ⟨_, rfl, q, rfl, ⟨0, hq, rfl⟩, Or.inr ⟨0, rfl, hν⟩⟩
  | 1, hx =>
    cases hx
    exact ⟨_, rfl, uz, rfl, rt_gI_0.mpr ⟨by omega, by omega⟩⟩
  | 2, hx =>
    cases hx
    exact ⟨_, rfl, c, rfl, m_gI h0⟩
  | 3, hx =>
    cases hx
    exact ⟨_, rfl, nn, rfl, m_gI h1⟩
  | 4, hx =>
    cases hx
    exact ⟨_, rfl, k, rfl, m_gI h2⟩
  | 5, hx => cases hx
  | 6, hx => cases hx
  | 7, hx => cases hx
  | 8, hx => cases hx
  | 9, hx => cases hx
  | 10, hx => cases hx
  | 11, hx => cases hx
  | 12, hx => cases hx
  | 13, hx => cases hx
  | 14, hx => cases hx
  | 15, hx => cases hx
  | 16, hx => cases hx
  | 17, hx => cases hx
  | 18, hx => cases hx
  | 19, hx => cases hx
  | 20, hx =>
    cases hx
    exact ⟨_, rfl, nn, rfl, m_gI h1⟩
  | 21, hx =>
    cases hx
    exact ⟨_, rfl, k, rfl, m_gI h2⟩
  | i + 22, hx => cases hx
/-- locals 0 .. 4 are all that there is -/
theorem mc_loc {V : List (Option Value)} {q : Nat} {u c n k : Int32} (h0 : V[0]? = some (some (.ref q))) (h1 : V[1]? = some (some (.int u))) (h2 : V[2]? = some (some (.int c))) (h3 : V[3]? = some (some (.int n))) (h4 : V[4]? = some (some (.int k))) : ∀ (i : Nat) (v : Value), i < 20 → (mc_V q u c n k)[i]? = some (some v) → V[i]? = some (some v) := by
  intro i v hi hv
  match i, hv with
  | 0, hv => cases hv; exact h0
  | 1, hv => cases hv; exact h1
  | 2, hv => cases hv; exact h2
  | 3, hv => cases hv; exact h3
  | 4, hv => cases hv; exact h4
  | 5, hv => cases hv
  | 6, hv => cases hv
  | 7, hv => cases hv
  | 8, hv => cases hv
  | 9, hv => cases hv
  | 10, hv => cases hv
  | 11, hv => cases hv
  | 12, hv => cases hv
  | 13, hv => cases hv
  | 14, hv => cases hv
  | 15, hv => cases hv
  | 16, hv => cases hv
  | 17, hv => cases hv
  | 18, hv => cases hv
  | 19, hv => cases hv
  | i + 20, hv => omega
theorem m_okE {τ : List Int} {lm : List Int64} : ∀ {E : List rt_B}, τ.length = E.length → (∀ (k : Nat) (e : rt_B) (b : Int), E[k]? = some e → τ[k]? = some b → rt_okB τ lm e b) → rt_okE E τ lm := fun h1 h2 => ⟨h1, h2⟩
theorem m_okB {τ : List Int} {lm : List Int64} {a : Int × Int} {b : Int} {p : Nat} {o : Int} (h1 : a.1 ≤ b) (h2 : b ≤ a.2) (h3 : p = 0 ∨ ∃ c, rt_bs τ p = some c ∧ c + o ≤ b) : rt_okB τ lm (a, (p, o), none, none) b := ⟨h1, h2, h3, (fun c hc => by cases hc), (fun q hq => by cases hq)⟩
theorem rt_tgl_ok {Φ : Nat → Int → va_W → Prop} {K : List Nat} {ws0 : va_W} {t0 : Int} (hSW : rt_SWok KK κ K ad Φ SW) {k : Nat} {S : rt_S} {tg : List rt_Tg} (h : rt_tgl k SW tg S = true) {b : rc_C} (hr : rt_rl KK κ K ad ws0 Φ t0 S b) : b.2.2.1.length = k ∧ ∃ q ∈ tg, rt_atT KK κ K ad ws0 Φ t0 q b := by
  obtain ⟨c1, h2⟩ := rt_cnd h
  have c1 := Nat.eq_of_beq_eq_true c1
  rw [ri_len_eq] at c1
  refine ⟨?_, rt_tgt_ok hSW h2 hr⟩
  obtain ⟨_, _, _, -, -, -, -, g5, -⟩ := hr
  have := rt_gS_length g5
  omega
theorem hts_le {f : Nat → Int} : ∀ {n h : Nat}, hts f n = some h → h ≤ 60
  | 0, h, e => by
    cases e
    decide
  | n + 1, h, e => by
    have e : (hts f n).bind (fun h => hstep h (f n)) = some h := e
    cases hn : hts f n with
    | none => rw [hn] at e; cases e
    | some k =>
      rw [hn] at e
      have e : hstep k (f n) = some h := e
      have hk := hts_le hn
      unfold hstep at e
      split at e
      · split at e
        · cases e
          exact hk
        · cases e
      · split at e
        · split at e
          · cases e
            omega
          · cases e
        · split at e
          · cases e
            omega
          · cases e
theorem m_mkOt {ws : va_W} {τ : List Int} {ν : List Nat} {lm : List Int64} {j i q t : Nat} {x : ri_I} {e : va_E} {b : Int} (hν : ν[j]? = some q) (hw : ws[i]? = some (q, e)) (hb : τ[t]? = some b) (h0 : 0 ≤ b) (hs : rt_sl e b.toNat = some (.int (mz ws i b.toNat))) (hx : rt_gI τ x (mz ws i b.toNat)) : rt_gO τ ν lm mK ad ws (j + 1, (t + 1, 0), .inl x) := ⟨j, q, i, e, b, .int (mz ws i b.toNat), rfl, hν, hw, hb, by show (0 : Int) ≤ b + 0; omega, by
  show rt_sl e (b + 0).toNat = _
  rw [show b + 0 = b by omega]
  exact hs, mz ws i b.toNat, rfl, hx⟩
set_option maxHeartbeats 1000000 in
theorem mc_loop (hb : b < 2) (hub : 4 * b ≤ u) (hub' : u < 4 * b + 4) (hcx : rt_ctx KK mK ad (mF b)) (hMC : rt_MCok l D κ SP.2) (hMX : rt_MXok KK κ mK ad (mF b) MX) (hSW : rt_SWok KK κ mK ad (mF b) SW) (hCS : ∀ C ∈ CS, rt_Con l D KK κ mK ad (mF b) C) (hk : mc_chk KK MX SW CS SP n d u = true) (hty : mc_ty KK u b = true) (hd : 1 ≤ d) {y : MethodName} {cc : ByteArray} {ret : Option FieldType} (hm : mT[190]? = some (y, cc, 5, ret)) {p : Program} {e : Env} {s : State} {m : MethodId} {args : Array Value} {below : List Frame} {meth : Method} {c : Code} {ws : va_W} (B : rc_Bd p s m args meth c y cc 5 ret κ D ws) (had : ri_ad ws = ad) {w0 : va_W} {t1 : Int} {q : Nat} (hq : ad[0]? = some q) {uz cz : Int32} (hu : uz.toInt = u) (hc0 : 0 ≤ cz.toInt) (hc4 : cz.toInt ≤ 4) (hF1 : 400 * (b : Int) ≤ mv w0 33 u) (hF2 : mv w0 33 u ≤ mv w0 34 u) (hF3 : mv w0 34 u ≤ 400 * (b : Int) + 400) (hok : (hts (fun j => mv w0 36 ((mv w0 33 u).toNat + j)) (mv w0 34 u - mv w0 33 u).toNat).isSome = true) : ∀ (N : Nat) (k nn cz : Int32) (w' : va_W), (mv w0 34 u - k.toInt).toNat ≤ N → 0 ≤ cz.toInt → cz.toInt ≤ 4 → mv w0 33 u ≤ k.toInt → k.toInt ≤ mv w0 34 u → 0 ≤ nn.toInt → hts (fun j => mv w0 36 ((mv w0 33 u).toNat + j)) (k.toInt - mv w0 33 u).toNat = some nn.toInt.toNat → rt_hp KK κ mK ad w0 (mF b) t1 0 0 w' → rc_AB p l e s m args below meth c 5 D ws (MQ below (rc_Q D ws s.heap.size (fun ov w'' => rt_hp KK κ mK ad w0 (mF b) t1 0 0 w'' ∧ ∃ z : Int32, ov = some (.int z))) args s 0 0 (va_A ws s.heap.size)) d (10, mc_V q uz cz nn k, [], w') := by
  obtain ⟨kE, hk⟩ := rt_cnd hk
  obtain ⟨kN, hk⟩ := rt_cnd hk
  obtain ⟨kL, hk⟩ := rt_cnd hk
  obtain ⟨k1, hk⟩ := rt_cnd hk
  obtain ⟨k2, k3⟩ := rt_cnd hk
  obtain ⟨y1, hty⟩ := rt_cnd hty
  obtain ⟨y2, hty⟩ := rt_cnd hty
  obtain ⟨y3, hty⟩ := rt_cnd hty
  obtain ⟨y4, hty⟩ := rt_cnd hty
  obtain ⟨y5, hty⟩ := rt_cnd hty
  obtain ⟨y6, y7⟩ := rt_cnd hty
  have hrun := rt_run_ok (SP := SP) hcx hMC hMX hCS n
  have ret_ok : ∀ (v : Option rt_V) (S' : rt_S) (b' : rc_C) (ov : Option Value), rt_tgi SW [mc_R] v S' = true → b'.2.2.1 = ov.toList → rt_rl KK κ mK ad w0 (mF b) t1 S' b' → rt_hp KK κ mK ad w0 (mF b) t1 0 0 b'.2.2.2 ∧ ∃ z : Int32, ov = some (.int z) := by
    intro v S' b' ov h1 h3 h4
    cases v with
    | none => cases h1
    | some x =>
      obtain ⟨tg, htg, hat⟩ := rt_tgt_ok hSW (show rt_tgt SW [mc_R] S' = true from h1) h4
      rw [List.mem_singleton.mp htg] at hat
      obtain ⟨τ, ν, lm, -, g2, -, g4, -⟩ := hat
      refine ⟨g2, ?_⟩
      obtain ⟨v, g5, z, rfl, -⟩ := g4 0 (.inl (0, mcB, mcT)) rfl
      rw [h3] at g5
      cases ov with
      | none => cases g5
      | some w =>
        cases g5
        exact ⟨z, rfl⟩
  have hT34 : ∃ a, mTy KK 0 34 u = some a ∧ 0 ≤ a.1 ∧ a.2 ≤ 800 := by
    cases h : mTy KK 0 34 u with
    | none => rw [h] at y6; cases y6
    | some a =>
      rw [h] at y6
      obtain ⟨z1, z2⟩ := rt_cnd y6
      exact ⟨a, rfl, ri_le_iff.mp z1, ri_le_iff.mp z2⟩
  obtain ⟨a34, hT34, ha1, ha2⟩ := hT34
  have hT36 : ∀ j : Nat, 400 * b ≤ j → j < 400 * b + 400 → ∃ a, mTy KK 0 36 j = some a := by
    intro j h1 h2
    have := rt_allK_ok y7 (j - 400 * b) () (by
      rw [List.getElem?_replicate, if_pos (by omega)])
    rw [Nat.zero_add] at this
    have ej : Nat.add (Nat.mul 400 b) (j - 400 * b) = j := by
      show 400 * b + (j - 400 * b) = j
      omega
    have this : (match (generalizing := false) mTy KK 0 36 (Nat.add (Nat.mul 400 b) (j - 400 * b)) with
      | some _ => true
      | none => false) = true := this
    rw [ej] at this
    cases h : mTy KK 0 36 j with
    | none => rw [h] at this; cases this
    | some a => exact ⟨a, rfl⟩
  have fin : ∀ (k nn cz : Int32) (w' : va_W), 0 ≤ cz.toInt → cz.toInt ≤ 4 → k.toInt = mv w0 34 u → 0 ≤ nn.toInt → nn.toInt ≤ 60 → rt_hp KK κ mK ad w0 (mF b) t1 0 0 w' → rc_AB p l e s m args below meth c 5 D ws (MQ below (rc_Q D ws s.heap.size (fun ov w'' => rt_hp KK κ mK ad w0 (mF b) t1 0 0 w'' ∧ ∃ z : Int32, ov = some (.int z))) args s 0 0 (va_A ws s.heap.size)) d (10, mc_V q uz cz nn k, [], w') := by
    intro k nn cz w' c0 c4 hkT n0 n6 hw
    obtain ⟨q0, qT, e0, eT, r1, r2, r3, r4⟩ := m_ref hw.2.1 hw.1 y1
    have hq0 : q0 = q := by
      have := ri_ad_at r1
      rw [hw.1, hq] at this
      exact (Option.some.inj this).symm
    subst hq0
    obtain ⟨qT', eT', i1, i2, i3, i4⟩ := m_int hw.2.1 hT34
    rw [r2] at i1
    cases i1
    have f34 : mv w' 34 u = mv w0 34 u := mA_ok y4 mE1_ok hw.2.2.1 u (by omega)
    refine hrun d 190 [10] true rt_kf (rt_tgi SW [mc_R]) (mc_SE u) kE hd y cc 5 ret hm (by decide) p e s m args below meth c ws B _ had w0 t1 _ ⟨[cz.toInt, nn.toInt, k.toInt, mv w' 34 u], [q0, qT], [], rfl, hw, ⟨m_okE rfl ?_, ⟨rfl, ?_⟩, ⟨rfl, fun j c h1 => by cases h1⟩⟩, mc_gL hq rfl hu rfl rfl rfl, trivial, ?_⟩ (fun _ _ hf => by cases hf) (fun v S' b' ov h1 _ h3 h4 _ => ret_ok v S' b' ov h1 h3 h4)
    · intro j e b h1 h2
      match j, h1, h2 with
      | 0, h1, h2 => cases h1; cases h2; exact m_okB c0 c4 (Or.inl rfl)
      | 1, h1, h2 => cases h1; cases h2; exact m_okB n0 n6 (Or.inl rfl)
      | 2, h1, h2 => cases h1; cases h2; exact m_okB (by show 0 ≤ k.toInt; omega) (by show k.toInt ≤ 800; omega) (Or.inr ⟨mv w' 34 u, rfl, by omega⟩)
      | 3, h1, h2 => cases h1; cases h2; exact m_okB (by show 0 ≤ mv w' 34 u; omega) (by show mv w' 34 u ≤ 800; omega) (Or.inl rfl)
      | j + 4, h1, h2 => cases h1
    · intro j k h1
      match j, h1 with
      | 0, h1 => cases h1; exact ⟨_, rfl, 0, hq, rfl⟩
      | 1, h1 => cases h1; exact ⟨_, rfl, 34, r4, rfl⟩
      | j + 2, h1 => cases h1
    · intro o ho
      rcases List.mem_cons.mp ho with rfl | ho
      · exact m_mkR (j := 0) (j' := 1) (i := 34) (f := 42) rfl rfl r1 r3 r4 rfl
      · rw [List.mem_singleton.mp ho]
        exact m_mkO hw.1 (j := 1) (i := 34) (f := u) rfl r2 i2 (m_gI (k := 3) rfl)
  intro N
  induction N with
  | zero =>
    intro k nn cz w' hN c0 c4 hk1 hk2 n0 hh hw
    have h6 := hts_le hh
    exact fin k nn cz w' c0 c4 (by omega) n0 (by omega) hw
  | succ N ih =>
    intro k nn cz w' hN c0 c4 hk1 hk2 n0 hh hw
    have h6 := hts_le hh
    rcases (show k.toInt = mv w0 34 u ∨ k.toInt < mv w0 34 u by omega) with hlt | hlt
    · exact fin k nn cz w' c0 c4 hlt n0 (by omega) hw
    · obtain ⟨q0, qT, e0, eT, r1, r2, r3, r4⟩ := m_ref hw.2.1 hw.1 y1
      have hq0 : q0 = q := by
        have := ri_ad_at r1
        rw [hw.1, hq] at this
        exact (Option.some.inj this).symm
      subst hq0
      obtain ⟨q0', qC, e0', eC, s1, s2, s3, s4⟩ := m_ref hw.2.1 hw.1 y2
      rw [r1] at s1
      cases s1
      obtain ⟨qT', eT', i1, i2, i3, i4⟩ := m_int hw.2.1 hT34
      rw [r2] at i1
      cases i1
      have hkn : (k.toInt.toNat : Int) = k.toInt := Int.toNat_of_nonneg (by omega)
      obtain ⟨a36, hT6⟩ := hT36 k.toInt.toNat (by omega) (by omega)
      obtain ⟨qC', eC', j1, j2, -, -⟩ := m_int hw.2.1 hT6
      rw [s2] at j1
      cases j1
      have f34 : mv w' 34 u = mv w0 34 u := mA_ok y4 mE1_ok hw.2.2.1 u (by omega)
      have f36 : mv w' 36 k.toInt.toNat = mv w0 36 k.toInt.toNat := mA_ok y5 mE1_ok hw.2.2.1 _ (by omega)
      have hsucc := hts_pre (f := fun j => mv w0 36 ((mv w0 33 u).toNat + j)) (n := (k.toInt - mv w0 33 u).toNat + 1) (m := (mv w0 34 u - mv w0 33 u).toNat) (by omega) hok
      have hsucc : ((hts (fun j => mv w0 36 ((mv w0 33 u).toNat + j)) (k.toInt - mv w0 33 u).toNat).bind (fun h => hstep h (mv w0 36 ((mv w0 33 u).toNat + (k.toInt - mv w0 33 u).toNat)))).isSome = true := hsucc
      have eix : (mv w0 33 u).toNat + (k.toInt - mv w0 33 u).toNat = k.toInt.toNat := by omega
      rw [hh, eix] at hsucc
      have hsucc : (hstep nn.toInt.toNat (mv w0 36 k.toInt.toNat)).isSome = true := hsucc
      have next : ∀ h', hstep nn.toInt.toNat (mv w0 36 k.toInt.toNat) = some h' → hts (fun j => mv w0 36 ((mv w0 33 u).toNat + j)) (k.toInt + 1 - mv w0 33 u).toNat = some h' := by
        intro h' e'
        rw [show (k.toInt + 1 - mv w0 33 u).toNat = (k.toInt - mv w0 33 u).toNat + 1 by omega]
        show (hts (fun j => mv w0 36 ((mv w0 33 u).toNat + j)) (k.toInt - mv w0 33 u).toNat).bind (fun h => hstep h (mv w0 36 ((mv w0 33 u).toNat + (k.toInt - mv w0 33 u).toNat))) = some h'
        rw [hh, eix]
        exact e'
      have go : ∀ (lo hi x1 x2 dn : Int) (h' : Nat), rt_run KK MX CS SP n d 190 [10] true (rt_tgl 0 SW [mc_TB u dn]) rt_kf2 (mc_S u lo hi x1 x2) = true → lo ≤ nn.toInt → nn.toInt ≤ hi → x1 ≤ mv w0 36 k.toInt.toNat → mv w0 36 k.toInt.toNat ≤ x2 → hstep nn.toInt.toNat (mv w0 36 k.toInt.toNat) = some h' → (h' : Int) = nn.toInt + dn → rc_AB p l e s m args below meth c 5 D ws (MQ below (rc_Q D ws s.heap.size (fun ov w'' => rt_hp KK κ mK ad w0 (mF b) t1 0 0 w'' ∧ ∃ z : Int32, ov = some (.int z))) args s 0 0 (va_A ws s.heap.size)) d (10, mc_V q0 uz cz nn k, [], w') := by
        intro lo hi x1 x2 dn h' hrn b1 b2 b3 b4 b5 b6
        refine hrun d 190 [10] true _ _ _ hrn hd y cc 5 ret hm (by decide) p e s m args below meth c ws B _ had w0 t1 _ ⟨[cz.toInt, nn.toInt, k.toInt, mv w' 34 u, mv w' 36 k.toInt.toNat], [q0, qT, qC], [], rfl, hw, ⟨m_okE rfl ?_, ⟨rfl, ?_⟩, ⟨rfl, fun j c h1 => by cases h1⟩⟩, mc_gL hq rfl hu rfl rfl rfl, trivial, ?_⟩ (fun S' b' z1 z2 z3 => ?_) (fun v S' b' ov h1 => by cases h1)
        · intro j e b h1 h2
          match j, h1, h2 with
          | 0, h1, h2 => cases h1; cases h2; exact m_okB c0 c4 (Or.inl rfl)
          | 1, h1, h2 => cases h1; cases h2; exact m_okB b1 b2 (Or.inl rfl)
          | 2, h1, h2 => cases h1; cases h2; exact m_okB (by show 0 ≤ k.toInt; omega) (by show k.toInt ≤ 799; omega) (Or.inl rfl)
          | 3, h1, h2 => cases h1; cases h2; exact m_okB (by show 0 ≤ mv w' 34 u; omega) (by show mv w' 34 u ≤ 800; omega) (Or.inr ⟨k.toInt, rfl, by omega⟩)
          | 4, h1, h2 => cases h1; cases h2; exact m_okB (by show x1 ≤ mv w' 36 k.toInt.toNat; omega) (by show mv w' 36 k.toInt.toNat ≤ x2; omega) (Or.inl rfl)
          | j + 5, h1, h2 => cases h1
        · intro j k h1
          match j, h1 with
          | 0, h1 => cases h1; exact ⟨_, rfl, 0, hq, rfl⟩
          | 1, h1 => cases h1; exact ⟨_, rfl, 34, r4, rfl⟩
          | 2, h1 => cases h1; exact ⟨_, rfl, 36, s4, rfl⟩
          | j + 3, h1 => cases h1
        · intro o ho
          rcases List.mem_cons.mp ho with rfl | ho
          · exact m_mkR (j := 0) (j' := 1) (i := 34) (f := 42) rfl rfl r1 r3 r4 rfl
          · rcases List.mem_cons.mp ho with rfl | ho
            · exact m_mkO hw.1 (j := 1) (i := 34) (f := u) rfl r2 i2 (m_gI (k := 3) rfl)
            · rcases List.mem_cons.mp ho with rfl | ho
              · exact m_mkR (j := 0) (j' := 2) (i := 36) (f := 46) rfl rfl r1 s3 s4 rfl
              · rw [List.mem_singleton.mp ho]
                exact m_mkOt (j := 2) (i := 36) (t := 2) rfl s2 rfl (by omega) j2 (m_gI (k := 4) rfl)
        · obtain ⟨hl0, tg, htg, hat⟩ := rt_tgl_ok hSW z1 z2
          rw [List.mem_singleton.mp htg] at hat
          obtain ⟨τ, ν, lm, hpc, g2, g3, g4, -⟩ := hat
          have hb0 : b'.2.2.1 = [] := List.length_eq_zero_iff.mp hl0
          have hpc : b'.1 = 10 := by
            rcases hpc with hpc | hpc
            · cases hpc
            · exact hpc
          rw [hb0] at g4
          obtain ⟨t0, p0, q0x, rfl, ⟨i0, p1, p2⟩, -⟩ := g4 8 (.inr (.inl (79, 1))) rfl
          have := mK_inj i0 0 79 p2 rfl
          subst this
          rw [hq] at p1
          cases p1
          obtain ⟨t1', pu, uz', rfl, gu⟩ := g4 9 (.inl (0, (u : Int), (u : Int))) rfl
          have gu := rt_gI_0.mp gu
          have : uz' = uz := Int32.toInt_inj.mp (by omega)
          subst this
          obtain ⟨t2, pc', cz', rfl, gc⟩ := g4 10 (.inl (1, 0, 0)) rfl
          obtain ⟨t3, pn, nn', rfl, gn⟩ := g4 11 (.inl (2, 0, 0)) rfl
          obtain ⟨t4, pk, k', rfl, gk⟩ := g4 12 (.inl (3, 0, 0)) rfl
          obtain ⟨t5, pg1, zn, rfl, gg1⟩ := g4 28 (.inl (2, -dn, -dn)) rfl
          obtain ⟨t6, pg2, zk, rfl, gg2⟩ := g4 29 (.inl (3, -1, -1)) rfl
          obtain ⟨c1, tc, bc1, bc2, -⟩ := m_tg g3.1 (k := 0) rfl
          obtain ⟨n1, tn, -, -, -⟩ := m_tg g3.1 (k := 1) rfl
          obtain ⟨k1', tk, -, -, -⟩ := m_tg g3.1 (k := 2) rfl
          have ec := m_gIe gc tc
          have en := m_gIe gn tn
          have ek := m_gIe gk tk
          have eg1 := m_gIe gg1 tn
          have eg2 := m_gIe gg2 tk
          have v1 := z3 20 _ (by decide) (show b'.2.1[20]? = some (some (.int zn)) from pg1)
          have v1 : some (some (Value.int nn)) = some (some (.int zn)) := v1
          cases v1
          have v2 := z3 21 _ (by decide) (show b'.2.1[21]? = some (some (.int zk)) from pg2)
          have v2 : some (some (Value.int k)) = some (some (.int zk)) := v2
          cases v2
          have bc1 : 0 ≤ c1 := bc1
          have bc2 : c1 ≤ 4 := bc2
          refine rc_At_loc (V := mc_V q0 uz' cz' nn' k') (mc_loc (show b'.2.1[0]? = _ from p0) (show b'.2.1[1]? = _ from pu) (show b'.2.1[2]? = _ from pc') (show b'.2.1[3]? = _ from pn) (show b'.2.1[4]? = _ from pk)) ?_
          rw [hb0, hpc]
          have ekk : k'.toInt = k.toInt + 1 := by omega
          refine ih k' nn' cz' b'.2.2.2 (by omega) (by omega) (by omega) (by omega) (by omega) (by omega) ?_ g2
          rw [ekk, show nn'.toInt.toNat = h' by omega]
          exact next h' b5
      obtain ⟨h', e'⟩ := Option.isSome_iff_exists.mp hsucc
      have e2 := e'
      unfold hstep at e2
      have bx1 := Int32.le_toInt (mz w0 36 k.toInt.toNat)
      have bx2 := Int32.toInt_lt (mz w0 36 k.toInt.toNat)
      have bx1 : (-2147483648 : Int) ≤ mv w0 36 k.toInt.toNat := bx1
      have bx2 : mv w0 36 k.toInt.toNat < 2147483648 := bx2
      by_cases h126 : mv w0 36 k.toInt.toNat = 126
      · rw [if_pos h126] at e2
        split at e2
        · cases e2
          exact go 1 60 126 126 0 _ kN (by omega) (by omega) (by omega) (by omega) e' (by omega)
        · cases e2
      · rw [if_neg h126] at e2
        by_cases hlet : 97 ≤ mv w0 36 k.toInt.toNat ∧ mv w0 36 k.toInt.toNat ≤ 122
        · rw [if_pos hlet] at e2
          split at e2
          · cases e2
            exact go 0 59 97 122 1 _ kL (by omega) (by omega) (by omega) (by omega) e' (by omega)
          · cases e2
        · rw [if_neg hlet] at e2
          split at e2
          · cases e2
            rcases (show mv w0 36 k.toInt.toNat ≤ 96 ∨ (123 ≤ mv w0 36 k.toInt.toNat ∧ mv w0 36 k.toInt.toNat ≤ 125) ∨ 127 ≤ mv w0 36 k.toInt.toNat by omega) with h | ⟨h1, h2⟩ | h
            · exact go 2 60 mcB 96 (-1) _ k1 (by omega) (by omega) (by show (-2147483648 : Int) ≤ _; omega) h e' (by omega)
            · exact go 2 60 123 125 (-1) _ k2 (by omega) (by omega) h1 h2 e' (by omega)
            · exact go 2 60 127 mcT (-1) _ k3 (by omega) (by omega) h (by show _ ≤ (2147483647 : Int); omega) e' (by omega)
          · cases e2
/-- comes at the cross u: any contract that says so much of its start -/
def mc_C (d : Nat) (u : Int) (TN : rt_N) (to : List rt_O) : rt_Co := ((190, d), 0, (TN, [some (.inr (.inl (79, 1))), some (.inl (0, u, u)), some (.inl (1, 0, 0))], to), [((0, 0), some (.inl (mcB, mcT)), [])])
set_option maxHeartbeats 1000000 in
theorem m_comes (hb : b < 2) (hub : 4 * b ≤ u) (hub' : u < 4 * b + 4) (hcx : rt_ctx KK mK ad (mF b)) (hMC : rt_MCok l D κ SP.2) (hMX : rt_MXok KK κ mK ad (mF b) MX) (hSW : rt_SWok KK κ mK ad (mF b) SW) (hCS : ∀ C ∈ CS, rt_Con l D KK κ mK ad (mF b) C) (hk : mc_chk KK MX SW CS SP n d u = true) (hty : mc_ty KK u b = true) (hd : 1 ≤ d) {TN : rt_N} {to : List rt_O} (hE : rt_run KK MX CS SP n d 190 [10] false (rt_tgl 0 SW [mc_T0 u]) rt_kf2 (mc_S0 TN [some (.inr (.inl (79, 1))), some (.inl (0, (u : Int), (u : Int))), some (.inl (1, 0, 0))] to) = true) (hc : TN.1[0]? = some ((0, 4), (0, 0), none, none)) (hcr : ∀ (τ : List Int) (ν : List Nat) (lm : List Int64) (w : va_W), ri_ad w = ad → rt_okN mK ad TN τ ν lm → (∀ o ∈ to, rt_gO τ ν lm mK ad w o) → (u : Int) - 4 * b < mv w 27 b) : rt_Con l D KK κ mK ad (mF b) (mc_C d u TN to) := by
  intro t1 τ ν lm
  have em : mT[190]? = some (yX12_comes, cX12_comes, 5, some .int) := rfl
  have core : rc_Met l κ D d 190 (rt_pre KK κ mK ad (mF b) t1 τ ν lm 0 (mc_C d u TN to).2.2.1) (fun _ w ov w' => rt_hp KK κ mK ad w (mF b) t1 0 0 w' ∧ ∃ z : Int32, ov = some (.int z)) := by
    refine rc_body (fun vs _ => rc_pad 20 (rc_en vs)) (fun _ _ _ _ _ _ h => rc_pad_at h) ?_ ?_
    · rintro y cc nL ret hm vs w ⟨-, -, -, -, hlen⟩
      rw [em] at hm
      cases hm
      have hlen : (rc_en vs).length = 3 := hlen
      omega
    · rintro y cc nL ret hm w vs ⟨hh, hN, hL, hO, hlen⟩ p e s m below meth c B
      rw [em] at hm
      cases hm
      have hlen : (rc_en vs).length = 3 := hlen
      have hcr := hcr τ ν lm w hh.1 hN hO
      have hR : mR b w := hh.2.2.2
      have hRu := hR (u - 4 * b) (by omega) (by omega)
      unfold mOkC at hRu
      rw [show 4 * b + (u - 4 * b) = u by omega] at hRu
      obtain ⟨F1, F2, F3, F4⟩ := hRu
      obtain ⟨v0, p0, q, rfl, ⟨i0, p1, p2⟩, -⟩ := hL 0 _ rfl
      have := mK_inj i0 0 79 p2 rfl
      subst this
      obtain ⟨v1, pu, uz, rfl, gu⟩ := hL 1 _ rfl
      have gu := rt_gI_0.mp gu
      have hu : uz.toInt = u := by omega
      obtain ⟨v2, pc', cz, rfl, gc⟩ := hL 2 _ rfl
      obtain ⟨c1, tc, bc1, bc2, -⟩ := m_tg hN.1 hc
      have ec := m_gIe gc tc
      have bc1 : 0 ≤ c1 := bc1
      have bc2 : c1 ≤ 4 := bc2
      have hloop := mc_loop (e := e) (s := s) (below := below) hb hub hub' hcx hMC hMX hSW hCS hk hty hd em B hh.1 p1 hu (by omega : 0 ≤ cz.toInt) (by omega) F1 F2 F3 F4 (t1 := t1)
      obtain ⟨g1, g2⟩ := rt_gL_pad hL hlen.symm 20
      have hrun := rt_run_ok (SP := SP) hcx hMC hMX hCS n
      refine hrun d 190 [10] false _ _ _ hE hd _ _ 5 _ em (by decide) p e s m _ below meth c w B _ hh.1 w t1 _ ⟨τ, ν, lm, rfl, hh, hN, g1, trivial, hO⟩ (fun S' b' z1 z2 z3 => ?_) (fun v S' b' ov h1 => by cases h1)
      obtain ⟨hl0, tg, htg, hat⟩ := rt_tgl_ok hSW z1 z2
      rw [List.mem_singleton.mp htg] at hat
      obtain ⟨τ', ν', lm', hpc, k2, k3, k4, k5⟩ := hat
      have hb0 : b'.2.2.1 = [] := List.length_eq_zero_iff.mp hl0
      have hpc : b'.1 = 10 := by
        rcases hpc with hpc | hpc
        · cases hpc
        · exact hpc
      rw [hb0] at k4
      obtain ⟨t0, r0, q', rfl, ⟨i0, r1, r2⟩, -⟩ := k4 8 (.inr (.inl (79, 1))) rfl
      have := mK_inj i0 0 79 r2 rfl
      subst this
      rw [p1] at r1
      cases r1
      obtain ⟨t1', ru, uz', rfl, gu'⟩ := k4 9 (.inl (0, (u : Int), (u : Int))) rfl
      have gu' := rt_gI_0.mp gu'
      have : uz' = uz := Int32.toInt_inj.mp (by omega)
      subst this
      obtain ⟨t2, rc', cz', rfl, gc'⟩ := k4 10 (.inl (1, 0, 0)) rfl
      obtain ⟨t3, rn, nn', rfl, gn⟩ := k4 11 (.inl (0, 0, 0)) rfl
      have gn := rt_gI_0.mp gn
      obtain ⟨t4, rk, k', rfl, gk⟩ := k4 12 (.inl (2, 0, 0)) rfl
      obtain ⟨x1, tc', bd1, bd2, -⟩ := m_tg k3.1 (k := 0) rfl
      obtain ⟨x2, tk, -, -, -⟩ := m_tg k3.1 (k := 1) rfl
      have ec' := m_gIe gc' tc'
      have ek := m_gIe gk tk
      have bd1 : 0 ≤ x1 := bd1
      have bd2 : x1 ≤ 4 := bd2
      have o33 := m_gIe (m_O0 hcx.2 k2.1 (i := 33) (f := u) k3.2.1 (k5 _ (List.mem_cons_of_mem _ List.mem_cons_self)) rfl rfl) tk
      have hfz : mv b'.2.2.2 33 u = mv w 33 u := by
        obtain ⟨y1, hty⟩ := rt_cnd hty
        obtain ⟨y2, hty⟩ := rt_cnd hty
        obtain ⟨y3, hty⟩ := rt_cnd hty
        exact mA_ok y3 mE1_ok k2.2.2.1 u (by omega)
      have o33 : mv b'.2.2.2 33 u = x2 := by
        show (mz b'.2.2.2 33 u).toInt = x2
        omega
      refine rc_At_loc (V := mc_V q uz' cz' nn' k') (mc_loc (show b'.2.1[0]? = _ from r0) (show b'.2.1[1]? = _ from ru) (show b'.2.1[2]? = _ from rc') (show b'.2.1[3]? = _ from rn) (show b'.2.1[4]? = _ from rk)) ?_
      rw [hb0, hpc]
      have ekk : k'.toInt = mv w 33 u := by omega
      refine hloop _ k' nn' cz' b'.2.2.2 (Nat.le_refl _) (by omega) (by omega) (by omega) (by omega) (by omega) ?_ k2
      rw [ekk, show (mv w 33 u - mv w 33 u).toNat = 0 by omega, show nn'.toInt.toNat = 0 by omega]
      rfl
  intro y cc nL ret hm w sz vs hp
  refine MetFree.mono (core y cc nL ret hm w sz vs hp) (fun _ _ g => g) (fun _ _ _ _ _ g => g) (fun a st o t _ hQ => ?_)
  obtain ⟨⟨⟨w', ov, m1, ⟨m2, z, rfl⟩, m3⟩, m9⟩, hf⟩ := hQ
  refine ⟨⟨⟨w', some (.int z), m1, ⟨_, List.mem_cons_self, m2, ⟨.int z, rfl, z, rfl, ?_, ?_⟩, fun x hx => by cases hx⟩, m3⟩, m9⟩, hf⟩
  · have := Int32.le_toInt z
    show (-2147483648 : Int) ≤ z.toInt
    omega
  · have := Int32.toInt_lt z
    show z.toInt ≤ (2147483647 : Int)
    omega
end MCO
