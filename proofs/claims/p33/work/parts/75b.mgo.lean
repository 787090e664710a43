/-! goOn: it goes on, and tokens grow fewer -/
def mg_S : List Bool := [true, false]
def mg_C : List rt_Cu := [(8, (29, 0), (([((0, 1600), (0, 0), none, none), ((0, 1600), (1, 0), none, none)], [79], []), [some (.inr (.inl (79, 1))), none, none, none, none, none, none, none, none, none, none, none, none, none, none, none, none, none, none, none, none, none, some (.inl (1, 0, 0))], [(1, (0, 6), .inl (2, 0, 0)), (1, (0, 7), .inl (1, 0, 0))]), [(0, 7, 7), (2, 0, 0)]),
  (319, (29, 0), (([((48, 57), (0, 0), none, none), ((0, 1600), (0, 0), none, none), ((0, 1599), (2, 0), none, none), ((0, 9), (0, 0), none, none), ((1, 1600), (3, 1), none, none)], [79, 1], []), [some (.inr (.inl (79, 1))), some (.inl (1, 0, 0)), none, none, none, none, none, none, none, none, none, none, none, none, none, none, none, none, none, none, none, none, some (.inl (2, 0, 0))], [(1, (0, 1), .inr (.inl (1, 2))), (1, (0, 6), .inl (3, 0, 0)), (1, (0, 9), .inl (4, 0, 0)), (1, (0, 3), .inl (5, 0, 0)), (1, (0, 7), .inl (3, 1, 1))]), [(0, 4, 4), (0, 0, 0)]),
  (119, (29, 0), (([((97, 122), (0, 0), none, none), ((0, 1600), (0, 0), none, none), ((0, 1599), (2, 0), none, none), ((1, 1600), (3, 1), none, none), ((1, 1600), (3, 1), none, none)], [79, 1], []), [some (.inr (.inl (79, 1))), some (.inl (1, 0, 0)), none, none, none, none, none, none, none, none, none, none, none, none, none, none, none, none, none, none, none, none, some (.inl (2, 0, 0))], [(1, (0, 1), .inr (.inl (1, 2))), (1, (0, 6), .inl (3, 0, 0)), (1, (0, 3), .inl (4, 0, 0)), (1, (0, 7), .inl (5, 0, 0))]), [(0, 6, 6), (5, 0, 0)]),
  (319, (29, 0), (([((48, 57), (0, 0), none, none), ((0, 1600), (0, 0), none, none), ((0, 1598), (2, 0), none, none), ((0, 99), (0, 0), none, none), ((2, 1600), (3, 2), none, none)], [79, 1], []), [some (.inr (.inl (79, 1))), some (.inl (1, 0, 0)), none, none, none, none, none, none, none, none, none, none, none, none, none, none, none, none, none, none, none, none, some (.inl (2, 0, 0))], [(1, (0, 1), .inr (.inl (1, 2))), (1, (0, 6), .inl (3, 0, 0)), (1, (0, 9), .inl (4, 0, 0)), (1, (0, 3), .inl (5, 0, 0)), (1, (0, 7), .inl (3, 2, 2))]), [(0, 3, 3), (0, 0, 0)]),
  (156, (29, 0), (([((97, 122), (0, 0), none, none), ((0, 1600), (0, 0), none, none), ((0, 1600), (0, 0), none, none), ((0, 1599), (3, 0), none, none), ((1, 1600), (4, 1), none, none), ((1, 1600), (4, 1), none, none)], [79, 1], []), [some (.inr (.inl (79, 1))), some (.inl (1, 0, 0)), some (.inl (2, 0, 0)), none, none, none, none, none, none, none, none, none, none, none, none, none, none, none, none, none, none, none, some (.inl (3, 0, 0))], [(1, (0, 1), .inr (.inl (1, 2))), (1, (0, 6), .inl (4, 0, 0)), (1, (0, 3), .inl (5, 0, 0)), (1, (0, 7), .inl (6, 0, 0))]), [(0, 5, 5), (2, 0, 0)]),
  (319, (29, 0), (([((48, 57), (0, 0), none, none), ((0, 1600), (0, 0), none, none), ((0, 1597), (2, 0), none, none), ((0, 999), (0, 0), none, none), ((3, 1600), (3, 3), none, none)], [79, 1], []), [some (.inr (.inl (79, 1))), some (.inl (1, 0, 0)), none, none, none, none, none, none, none, none, none, none, none, none, none, none, none, none, none, none, none, none, some (.inl (2, 0, 0))], [(1, (0, 1), .inr (.inl (1, 2))), (1, (0, 6), .inl (3, 0, 0)), (1, (0, 9), .inl (4, 0, 0)), (1, (0, 3), .inl (5, 0, 0)), (1, (0, 7), .inl (3, 3, 3))]), [(0, 2, 2), (0, 0, 0)]),
  (319, (29, 0), (([((48, 57), (0, 0), none, none), ((0, 1600), (0, 0), none, none), ((0, 1596), (2, 0), none, none), ((0, 9999), (0, 0), none, none), ((4, 1600), (3, 4), none, none)], [79, 1], []), [some (.inr (.inl (79, 1))), some (.inl (1, 0, 0)), none, none, none, none, none, none, none, none, none, none, none, none, none, none, none, none, none, none, none, none, some (.inl (2, 0, 0))], [(1, (0, 1), .inr (.inl (1, 2))), (1, (0, 6), .inl (3, 0, 0)), (1, (0, 9), .inl (4, 0, 0)), (1, (0, 3), .inl (5, 0, 0)), (1, (0, 7), .inl (3, 4, 4))]), [(0, 1, 1), (0, 0, 0)]),
  (319, (29, 0), (([((48, 57), (0, 0), none, none), ((0, 1600), (0, 0), none, none), ((0, 1595), (2, 0), none, none), ((0, 9999), (0, 0), none, none), ((5, 1600), (3, 5), none, none), ((5, 1600), (3, 5), none, none)], [79, 1], []), [some (.inr (.inl (79, 1))), some (.inl (1, 0, 0)), none, none, none, none, none, none, none, none, none, none, none, none, none, none, none, none, none, none, none, none, some (.inl (2, 0, 0))], [(1, (0, 1), .inr (.inl (1, 2))), (1, (0, 6), .inl (3, 0, 0)), (1, (0, 9), .inl (4, 0, 0)), (1, (0, 3), .inl (5, 0, 0)), (1, (0, 7), .inl (6, 0, 0))]), [(0, 0, 0), (6, 0, 0)])]
noncomputable def mg_E : rt_S := (0, (29, 0), ([((0, 1600), (0, 0), none, none)], [79], []), List.append (rt_pad 20 [some (.inr (.inl (79, 1)))]) (List.append (rt_non 2) [some (.inl (1, 0, 0))]), [], [(1, (0, 7), .inl (1, 0, 0))])
def mg_tl : List (Option rt_V) := [none, none, none, none, none, none, none, none, some (.inr (.inl (79, 1))), none, none, none, none, none, none, none, none, none, none, none, none, none, none, none, none, none, none, none, none, none, some (.inl (1, 0, 0))]
def mg_T1 : rt_Tg := (0, (29, 0), ([((0, 1600), (0, 0), none, none), ((0, 1600), (1, 0), none, none), ((0, 1600), (2, 1), none, none), ((0, 1600), (2, 1), none, none)], [79], []), mg_tl, [(1, (0, 6), .inl (2, 0, 0)), (1, (0, 7), .inl (3, 0, 0)), (1, (0, 3), .inl (4, 0, 0))])
def mg_T2 : rt_Tg := (0, (29, 0), ([((0, 1600), (0, 0), none, none), ((0, 1600), (0, 0), none, none)], [79], []), mg_tl, [(1, (0, 3), .inl (2, 0, 0)), (1, (0, 7), .inl (2, 0, 0)), (1, (0, 8), .inl (0, 0, 0))])
/-- ends of methods without an answer, with one -/
noncomputable def rt_tgv (SW : rt_W) (tg : List rt_Tg) (v : Option rt_V) (S : rt_S) : Bool := match v with
  | none => rt_tgt SW tg S
  | some _ => false
noncomputable def rt_tgi (SW : rt_W) (tg : List rt_Tg) (v : Option rt_V) (S : rt_S) : Bool := match v with
  | none => false
  | some _ => rt_tgt SW tg S
def mg_A (d : Nat) : rt_Co := ((209, d), 27, (([((1, 5), (0, 0), none, none)], [79], []), [some (.inr (.inl (79, 1)))], [(1, (0, 8), .inl (1, 0, 0))]), [((27, 1), none, [])])
def mg_B (d : Nat) : rt_Co := ((209, d), 27, (([], [79], []), [some (.inr (.inl (79, 1)))], []), [((27, 0), none, [])])
theorem m_ar1 {e0 sz t1 ds k0 x1 x2 x3 k1 : Int} (h : 2 * (1600 - min e0 sz) + k0 ≤ t1) (hd : ds ≤ k0) (h1 : k0 ≤ 1) (h2 : k1 ≤ 1) (h0 : 0 ≤ k0) (r1 : e0 ≤ x1) (r2 : x1 + 1 ≤ x2) (r3 : x1 + 1 ≤ x3) : 2 * (1600 - min x2 x3) + k1 ≤ t1 - ds := by
  omega
theorem m_ar2 {e0 sz t1 ds k0 : Int} (h : 2 * (1600 - min e0 sz) + k0 ≤ t1) (hd : ds ≤ k0) : 2 * (1600 - min sz sz) + 0 ≤ t1 - ds := by
  omega
theorem m_ite (p : Prop) {hp : Decidable p} : (if p then (0 : Int) else 1) ≤ 1 ∧ 0 ≤ (if p then (0 : Int) else 1) := by
  split
  · decide
  · decide
section MGO
variable {l : Launch} {D : va_G} {KK : List (List rt_K)} {κ : Nat → ClassId} {ad : List Nat} {MX : rt_X} {SW : rt_W} {CS : List rt_Co} {SP : rt_SP} {b d n : Nat}
theorem m_swT {Φ : Nat → Int → va_W → Prop} {g g' s s' : Nat} {r : List (Nat × Nat × rt_T)} {ws0 ws : va_W} {t0 : Int} (h : rt_swC1 KK (fun _ => 0) g (g', r) = true) (hh : rt_hp KK κ mK ad ws0 Φ t0 g s ws) (hn : ∀ y ∈ r, ∀ (i q : Nat) (e : va_E) (v : Value), mK[i]? = some y.1 → ws[i]? = some (q, e) → rt_sl e y.2.1 = some v → rt_gT mK ad y.2.2 v) (hΦ : Φ g' (t0 - s') ws) : rt_hp KK κ mK ad ws0 Φ t0 g' s' ws := by
  unfold rt_swC1 at h
  rw [ri_nth_eq, ri_nth_eq] at h
  cases e1 : KK[g]? with
  | none => rw [e1] at h; cases h
  | some l =>
    rw [e1] at h
    cases e2 : KK[g']? with
    | none => rw [e2] at h; cases h
    | some m =>
      rw [e2] at h
      obtain ⟨-, h4⟩ := rt_cnd h
      cases hk : rt_swK l m 0 with
      | none => rw [hk] at h4; cases h4
      | some r' =>
        rw [hk] at h4
        have h4 : rt_all1 (fun x : Nat × Nat × rt_T => rt_any1 (fun y : Nat × Nat × rt_T => cond (Nat.beq x.1 y.1) (cond (Nat.beq x.2.1 y.2.1) (rt_sbT y.2.2 x.2.2) false) false) r) r' = true := h4
        refine rt_sw_hp e1 e2 hk (fun _ => hΦ) (fun k j T hx i q e v hi hw hv => ?_) hh
        obtain ⟨y, hy, h5⟩ := rt_any1_ok (rt_all1_ok h4 _ hx)
        obtain ⟨d1, h6⟩ := rt_cnd h5
        obtain ⟨d2, d3⟩ := rt_cnd h6
        have z1 : k = y.1 := Nat.eq_of_beq_eq_true d1
        have z2 : j = y.2.1 := Nat.eq_of_beq_eq_true d2
        clear d1 d2 h5 h6
        subst z1
        subst z2
        exact rt_sbT_ok d3 (hn y hy i q e v hi hw hv)
theorem m_tg {τ : List Int} {lm : List Int64} {E : List rt_B} (hE : rt_okE E τ lm) {k : Nat} {e : rt_B} (he : E[k]? = some e) : ∃ x, τ[k]? = some x ∧ e.1.1 ≤ x ∧ x ≤ e.1.2 ∧ (e.2.1.1 = 0 ∨ ∃ c, rt_bs τ e.2.1.1 = some c ∧ c + e.2.1.2 ≤ x) := by
  have hk : k < τ.length := by
    rw [hE.1]
    exact (List.getElem?_eq_some_iff.mp he).1
  obtain ⟨h1, h2, h3, -, -⟩ := hE.2 k e τ[k] he (List.getElem?_eq_getElem hk)
  exact ⟨τ[k], List.getElem?_eq_getElem hk, h1, h2, h3⟩
set_option maxHeartbeats 1000000 in
theorem m_goOn (hcx : rt_ctx KK mK ad (mF b)) (hMC : rt_MCok l D κ SP.2) (hMX : rt_MXok KK κ mK ad (mF b) MX) (hSW : rt_SWok KK κ mK ad (mF b) SW) (hCS : ∀ C ∈ CS, rt_Con l D KK κ mK ad (mF b) C) (hC : rt_cuts mg_S (rt_run KK MX CS SP n d 209 (rt_pcs mg_C) true (rt_arr SW mg_S true mg_C) (rt_tgv SW [mg_T1, mg_T2])) mg_C = true) (hE : rt_run KK MX CS SP n d 209 (rt_pcs mg_C) false (rt_arr SW mg_S false mg_C) (rt_tgv SW [mg_T1, mg_T2]) mg_E = true) (hd : 1 ≤ d) (hs1 : rt_swC1 KK (fun _ => 0) 27 (29, []) = true) (hs2 : rt_swC1 KK (fun _ => 0) 29 (27, [(79, 7, .inl (0, 1600))]) = true) (ht : mTy KK 27 0 7 = some (0, 1600)) (ht9 : mTy KK 29 0 7 = some (0, 1601)) (h3 : mG mE1 KK 29 3 = true) : rt_Con l D KK κ mK ad (mF b) (mg_A d) ∧ rt_Con l D KK κ mK ad (mF b) (mg_B d) := by
  have core : ∀ (t1 : Int) (ds : Nat) (P : List Value → va_W → Prop), (∀ vs w, P vs w → rt_hp KK κ mK ad w (mF b) t1 27 0 w ∧ (∃ q, ad[0]? = some q ∧ rc_en vs = [some (.ref q)]) ∧ (ds : Int) ≤ (if mv w 0 8 = 0 then 0 else 1)) → rc_Met l κ D d 209 P (fun _ w ov w' => rt_hp KK κ mK ad w (mF b) t1 27 ds w' ∧ ov = none) := by
    intro t1 ds P hP
    refine rc_body (fun vs w => rc_pad 20 (rc_en vs) ++ (List.replicate 2 none ++ [some (.int (mz w 0 7))])) ?_ ?_ ?_
    · intro vs w hp i v hi hv
      obtain ⟨-, ⟨q, -, e1⟩, -⟩ := hP vs w hp
      rw [e1] at hv ⊢
      rw [List.getElem?_append_left (by rw [rc_pad_len (by show 1 ≤ 20; decide)]; exact hi)] at hv
      exact rc_pad_at hv
    · intro y cc nL ret hm vs w hp
      obtain ⟨-, ⟨q, -, e1⟩, -⟩ := hP vs w hp
      rw [e1]
      have em : mT[209]? = some (yX12_goOn, cX12_goOn, 3, none) := rfl
      rw [em] at hm
      cases hm
      show 1 ≤ 3
      decide
    · intro y cc nL ret hm w vs hp p e s m below meth c B
      obtain ⟨hh, ⟨q, hq, e1⟩, hds⟩ := hP vs w hp
      have em : mT[209]? = some (yX12_goOn, cX12_goOn, 3, none) := rfl
      rw [em] at hm
      cases hm
      have hh28 : rt_hp KK κ mK ad w (mF b) t1 29 0 w := m_swT hs1 hh (fun y hy => by cases hy) trivial
      obtain ⟨q0, e0, w1, w2, w3, w4⟩ := m_int hh.2.1 ht
      have hq0 : q0 = q := by
        have := ri_ad_at w1
        rw [hh.1, hq] at this
        exact (Option.some.inj this).symm
      subst hq0
      have hk : rt_hk mK ad q0 79 := ⟨0, hq, rfl⟩
      have hL1 : rt_gL [mv w 0 7] [q0] [] mK ad [some (.inr (.inl (79, 1)))] (rc_en vs) := by
        rw [e1]
        intro i x hx
        match i, hx with
        | 0, hx =>
          cases hx
          exact ⟨.ref q0, rfl, q0, rfl, hk, Or.inr ⟨0, rfl, rfl⟩⟩
        | i + 1, hx => cases hx
      obtain ⟨p1, p2⟩ := rt_gL_pad hL1 (by rw [e1]; rfl) 20
      have hrl : rt_rl KK κ mK ad w (mF b) t1 mg_E (0, rc_pad 20 (rc_en vs) ++ (List.replicate 2 none ++ [some (.int (mz w 0 7))]), [], w) := by
        refine ⟨[mv w 0 7], [q0], [], rfl, hh28, ⟨⟨rfl, fun k e b h1 h2 => ?_⟩, ⟨rfl, fun j k h1 => ?_⟩, ⟨rfl, fun j c h1 => by cases h1⟩⟩, rt_gL_app p1 (rt_gL_app (rt_gL_non 2 _) (fun i x hx => ?_) rfl) p2, trivial, fun o ho => ?_⟩
        · match k, h1, h2 with
          | 0, h1, h2 =>
            cases h1
            cases h2
            exact ⟨w3, w4, Or.inl rfl, (fun c hc => by cases hc), (fun q hq => by cases hq)⟩
          | k + 1, h1, h2 => cases h1
        · match j, h1 with
          | 0, h1 =>
            cases h1
            exact ⟨q0, rfl, hk⟩
          | j + 1, h1 => cases h1
        · match i, hx with
          | 0, hx =>
            cases hx
            exact ⟨.int (mz w 0 7), rfl, mz w 0 7, rfl, m_gI rfl⟩
          | i + 1, hx => cases hx
        · rw [List.mem_singleton.mp ho]
          exact m_mkO hh.1 (j := 0) (i := 0) (f := 7) rfl w1 w2 (m_gI rfl)
      refine rt_loop (SP := SP) hcx hMC hMX hSW hCS hC hE hd em (by decide) B hh.1 hrl (fun v S' b' ov h1 h2 h3' h4 h5 => ?_)
      cases v with
      | some x => cases h1
      | none =>
        have h1 : rt_tgt SW [mg_T1, mg_T2] S' = true := h1
        have hov : ov = none := by
          obtain ⟨_, _, _, -, -, -, -, g5, -⟩ := id h4
          rw [h2, h3'] at g5
          cases ov with
          | none => rfl
          | some x => exact g5.elim
        refine ⟨?_, hov⟩
        obtain ⟨tg, htg, hat⟩ := rt_tgt_ok hSW h1 h4
        have hst : b'.2.2.1 = [] := by
          rw [h3', hov]
          rfl
        have hTm : mTm w ≤ t1 - (0 : Nat) := hh.2.2.2
        have ghost : ∀ {τ : List Int} {ν : List Nat} {lm : List Int64}, rt_gL τ ν lm mK ad mg_tl (rc_pad 8 (b'.2.2.1.map some) ++ b'.2.1) → ∀ x, τ[0]? = some x → mv w 0 7 = x := by
          intro τ ν lm hg x hx
          obtain ⟨v, g1, zz, rfl, g2⟩ := hg 30 (.inl (1, 0, 0)) rfl
          rw [hst] at g1
          have g1 : b'.2.1[22]? = some (some (.int zz)) := g1
          have g3 := h5 22 _ (by decide) g1
          have g3 : (rc_pad 20 (rc_en vs) ++ (List.replicate 2 none ++ [some (Value.int (mz w 0 7))]))[22]? = some (some (.int zz)) := g3
          rw [e1] at g3
          have g3 : some (some (Value.int (mz w 0 7))) = some (some (.int zz)) := g3
          cases g3
          have := m_gIe (k := 0) g2 hx
          show (mz w 0 7).toInt = x
          omega
        have fin : rt_hp KK κ mK ad w (mF b) t1 29 0 b'.2.2.2 → mv b'.2.2.2 0 7 ≤ 1600 → mTm b'.2.2.2 ≤ t1 - ds → rt_hp KK κ mK ad w (mF b) t1 27 ds b'.2.2.2 := by
          intro f1 f3 f4
          refine m_swT hs2 f1 (fun y hy i q e v hi hw hv => ?_) f4
          rw [List.mem_singleton.mp hy] at hi hv ⊢
          have := mK_inj i 0 79 hi rfl
          subst this
          obtain ⟨q', e', k1, k2, k3, -⟩ := m_int f1.2.1 ht9
          rw [hw] at k1
          cases k1
          have hv : rt_sl e 7 = some v := hv
          rw [hv] at k2
          cases k2
          exact ⟨_, rfl, k3, f3⟩
        rcases List.mem_cons.mp htg with rfl | htg
        · obtain ⟨τ, ν, lm, -, g2, g3, g4, g5⟩ := hat
          obtain ⟨x0, t0, -, -, -⟩ := m_tg g3.1 (k := 0) rfl
          obtain ⟨x1, t1', b1, b2, r1⟩ := m_tg g3.1 (k := 1) rfl
          obtain ⟨x2, t2, b3, b4, r2⟩ := m_tg g3.1 (k := 2) rfl
          obtain ⟨x3, t3, b5, b6, r3⟩ := m_tg g3.1 (k := 3) rfl
          have r1 : x0 ≤ x1 := by
            rcases r1 with r1 | ⟨c, r1, r1'⟩
            · cases r1
            · have r1 : τ[0]? = some c := r1
              rw [t0] at r1
              cases r1
              have r1' : x0 + 0 ≤ x1 := r1'
              omega
          have r2 : x1 + 1 ≤ x2 := by
            rcases r2 with r2 | ⟨c, r2, r2'⟩
            · cases r2
            · have r2 : τ[1]? = some c := r2
              rw [t1'] at r2
              cases r2
              exact r2'
          have r3 : x1 + 1 ≤ x3 := by
            rcases r3 with r3 | ⟨c, r3, r3'⟩
            · cases r3
            · have r3 : τ[1]? = some c := r3
              rw [t1'] at r3
              cases r3
              exact r3'
          have e0' := ghost g4 x0 t0
          have o7 := m_gIe (m_O0 hcx.2 g2.1 (i := 0) (f := 7) g3.2.1 (g5 _ (List.mem_cons_of_mem _ List.mem_cons_self)) rfl rfl) t2
          have o3 := m_gIe (m_O0 hcx.2 g2.1 (i := 0) (f := 3) g3.2.1 (g5 _ (List.mem_cons_of_mem _ (List.mem_cons_of_mem _ List.mem_cons_self))) rfl rfl) t3
          have o7 : mv b'.2.2.2 0 7 = x2 := by
            show (mz b'.2.2.2 0 7).toInt = x2
            omega
          have o3 : mv b'.2.2.2 0 3 = x3 := by
            show (mz b'.2.2.2 0 3).toInt = x3
            omega
          have b4 : x2 ≤ 1600 := b4
          refine fin g2 (by omega) ?_
          unfold mTm at hTm ⊢
          rw [o7, o3]
          rw [e0'] at hTm
          exact m_ar1 (by simpa using hTm) hds (m_ite _).1 (m_ite _).1 (m_ite _).2 r1 r2 r3
        · rw [List.mem_singleton.mp htg] at hat
          obtain ⟨τ, ν, lm, -, g2, g3, g4, g5⟩ := hat
          obtain ⟨x1, t1', b1, b2, -⟩ := m_tg g3.1 (k := 1) rfl
          have o3 := m_gIe (m_O0 hcx.2 g2.1 (i := 0) (f := 3) g3.2.1 (g5 _ List.mem_cons_self) rfl rfl) t1'
          have o7 := m_gIe (m_O0 hcx.2 g2.1 (i := 0) (f := 7) g3.2.1 (g5 _ (List.mem_cons_of_mem _ List.mem_cons_self)) rfl rfl) t1'
          have o8 := rt_gI_0.mp (m_O0 hcx.2 g2.1 (i := 0) (f := 8) g3.2.1 (g5 _ (List.mem_cons_of_mem _ (List.mem_cons_of_mem _ List.mem_cons_self))) rfl rfl)
          have hsz : mv b'.2.2.2 0 3 = mv w 0 3 := mG_ok h3 mE1_ok g2.2.2.1
          have o7 : mv b'.2.2.2 0 7 = x1 := by
            show (mz b'.2.2.2 0 7).toInt = x1
            omega
          have o3 : mv b'.2.2.2 0 3 = x1 := by
            show (mz b'.2.2.2 0 3).toInt = x1
            omega
          have o8 : mv b'.2.2.2 0 8 = 0 := by
            show (mz b'.2.2.2 0 8).toInt = 0
            omega
          have b2 : x1 ≤ 1600 := b2
          refine fin g2 (by omega) ?_
          unfold mTm at hTm ⊢
          rw [o7, o3, o8, if_pos rfl]
          rw [o3] at hsz
          rw [← hsz] at hTm
          exact m_ar2 (by simpa using hTm) hds
  have ent : ∀ {τ : List Int} {ν : List Nat} {lm : List Int64} {vs : List Value}, rt_gL τ ν lm mK ad [some (.inr (.inl (79, 1)))] (rc_en vs) → (rc_en vs).length = 1 → ∃ q, ad[0]? = some q ∧ rc_en vs = [some (.ref q)] := by
    intro τ ν lm vs hg hl
    obtain ⟨v, g1, q, rfl, ⟨i, g2, g3⟩, -⟩ := hg 0 _ rfl
    have := mK_inj i 0 79 g3 rfl
    subst this
    refine ⟨q, g2, ?_⟩
    match hr : rc_en vs, hl with
    | [x], _ =>
      rw [hr] at g1
      cases g1
      rfl
  constructor
  · intro t1 τ ν lm
    refine fun y cc nL ret hm w sz vs hp => ?_
    refine MetFree.mono (core t1 1 (rt_pre KK κ mK ad (mF b) t1 τ ν lm 27 (mg_A d).2.2.1) (fun vs w hp => ?_) y cc nL ret hm w sz vs hp) (fun _ _ g => g) (fun _ _ _ _ _ g => g) (fun a st o t _ hQ => ?_)
    · obtain ⟨a1, a2, a3, a4, a5⟩ := hp
      refine ⟨a1, ent a3 a5, ?_⟩
      obtain ⟨x0, t0, b1, b2, -⟩ := m_tg a2.1 (k := 0) rfl
      have o8 := m_gIe (m_O0 hcx.2 a1.1 (i := 0) (f := 8) a2.2.1 (a4 _ List.mem_cons_self) rfl rfl) t0
      have b1 : 1 ≤ x0 := b1
      have : ¬ mv w 0 8 = 0 := by
        show ¬ (mz w 0 8).toInt = 0
        omega
      rw [if_neg this]
      exact Int.le_refl _
    · obtain ⟨⟨⟨w', ov, m1, m2, m3⟩, m9⟩, hf⟩ := hQ
      exact ⟨⟨⟨w', ov, m1, ⟨_, List.mem_cons_self, m2.1, m2.2, fun x hx => by cases hx⟩, m3⟩, m9⟩, hf⟩
  · intro t1 τ ν lm
    refine fun y cc nL ret hm w sz vs hp => ?_
    refine MetFree.mono (core t1 0 (rt_pre KK κ mK ad (mF b) t1 τ ν lm 27 (mg_B d).2.2.1) (fun vs w hp => ?_) y cc nL ret hm w sz vs hp) (fun _ _ g => g) (fun _ _ _ _ _ g => g) (fun a st o t _ hQ => ?_)
    · obtain ⟨a1, a2, a3, a4, a5⟩ := hp
      refine ⟨a1, ent a3 a5, ?_⟩
      split
      · exact Int.le_refl _
      · decide
    · obtain ⟨⟨⟨w', ov, m1, m2, m3⟩, m9⟩, hf⟩ := hQ
      exact ⟨⟨⟨w', ov, m1, ⟨_, List.mem_cons_self, m2.1, m2.2, fun x hx => by cases hx⟩, m3⟩, m9⟩, hf⟩
end MGO
