/-! Loads and stores -/
section RT48
variable {τ τ' : List Int} {ν ν' : List Nat} {lm lm' : List Int64} {K ad : List Nat} {ws0 : va_W} {KK : List (List rt_K)} {κ : Nat → ClassId} {Φ : Nat → Int → va_W → Prop} {t0 : Int} {r : ri_R} {S : rt_S} {a : rc_C} {L : List rt_S}
theorem rt_ld_ok (hcx : rt_ctx KK K ad Φ) {nm i j q k : Nat} {x : ri_I} {T : Option rt_T} {st : List rt_V} {stv : List Value} {v : Value} {e : va_E} (h : rt_ld r S nm x T st = some L) (hpc : a.1 = S.1) (hh : rt_hp KK κ K ad ws0 Φ t0 S.2.1.1 S.2.1.2 a.2.2.2) (hN : rt_okN K ad S.2.2.1 τ ν lm) (hL : rt_gL τ ν lm K ad (rt_lo S) a.2.1) (hS : rt_gS τ ν lm K ad st stv) (hO : ∀ o ∈ rt_ov S, rt_gO τ ν lm K ad a.2.2.2 o) (hnm : nm = 0 ∨ ∃ jn, nm = jn + 1 ∧ ν[jn]? = some q) (hw : a.2.2.2[i]? = some (q, e)) (hsl : rt_sl e j = some v) (hT : ∀ T', T = some T' → rt_gT K ad T' v) (hx : rt_ex x = true → ∃ b, rt_bs τ x.1 = some b ∧ b + x.2.1 = (j : Int)) : ∃ S' ∈ L, rt_rl KK κ K ad ws0 Φ t0 S' (rc_nx r a (v :: stv)) := by
  unfold rt_ld at h
  have fresh : ∀ {T' : rt_T} {n : rt_N} {w : rt_V} {ov : List rt_O}, T = some T' → rt_vT S.2.2.1 T' = (n, w) → (∀ o ∈ ov, o ∈ rt_ov S ∨ (o = (nm, (x.1, x.2.1), w) ∧ rt_ex x = true ∧ ∃ jn, nm = jn + 1)) → rt_rl KK κ K ad ws0 Φ t0 (S.1 + r.2.1, S.2.1, n, rt_lo S, w :: st, ov) (rc_nx r a (v :: stv)) := fun {T' n w ov} eT hv hov => by
    obtain ⟨τ', ν', lm', p1, p2, p3, hN', hw'⟩ := rt_vT_ok hN (hT T' eT)
    rw [hv] at hN' hw'
    refine ⟨τ', ν', lm', by show a.1 + r.2.1 = S.1 + r.2.1; rw [hpc], hh, hN', rt_gL_mono p1 p2 p3 hL, ⟨hw', rt_gS_mono p1 p2 p3 hS⟩, fun o ho => ?_⟩
    rcases hov o ho with ho | ⟨rfl, hex, jn, ejn⟩
    · exact rt_gO_mono p1 p2 p3 (hO o ho)
    · obtain ⟨b, b1, b2⟩ := hx hex
      rcases hnm with hnm | ⟨jn', ejn', hjn⟩
      · omega
      · refine ⟨jn', q, i, e, b, v, ejn', rt_px p2 hjn, hw, rt_bs_mono p1 b1, ?_, ?_, hw'⟩
        · show 0 ≤ b + x.2.1
          omega
        · show rt_sl e (b + x.2.1).toNat = some v
          rw [b2]
          exact hsl
  cases c : rt_ex x with
  | true =>
    rw [c, cond_true] at h
    cases ho : rt_og (rt_ov S) nm (x.1, x.2.1) with
    | some w =>
      rw [ho] at h
      obtain ⟨jn, q', i', e', b', v', d1, d2, d3, d4, d5, d6, d7⟩ := hO _ (rt_og_mem ho)
      have d1 : nm = jn + 1 := d1
      obtain ⟨b, b1, b2⟩ := hx c
      have d4 : rt_bs τ x.1 = some b' := d4
      have : b' = b := Option.some.inj (d4.symm.trans b1)
      subst this
      have hq : q' = q := by
        rcases hnm with hnm | ⟨jn', ejn', hjn⟩
        · omega
        · have : jn' = jn := by omega
          subst this
          exact Option.some.inj (d2.symm.trans hjn)
      subst hq
      have hi : i' = i := by
        have f1 := ri_ad_at d3
        have f2 := ri_ad_at hw
        rw [hh.1] at f1 f2
        exact hcx.2 i' i q' f1 f2
      subst hi
      have he : e' = e := (Prod.mk.inj (Option.some.inj (d3.symm.trans hw))).2
      subst he
      have d6 : rt_sl e' (b' + x.2.1).toNat = some v' := d6
      rw [b2] at d6
      have hv : v' = v := Option.some.inj (d6.symm.trans hsl)
      subst hv
      exact rt_nx_ok h hpc hh hN hL ⟨d7, hS⟩ hO
    | none =>
      rw [ho] at h
      cases T with
      | none => cases h
      | some T' =>
        cases hv : rt_vT S.2.2.1 T' with
        | mk n w =>
          have h : (match rt_vT S.2.2.1 T' with
            | (n, v) => some [((Nat.add S.1 r.2.1, S.2.1, n, rt_lo S, v :: st, cond true (match (generalizing := false) nm with
              | 0 => rt_ov S
              | Nat.succ _ => (nm, (x.1, x.2.1), v) :: rt_ov S) (rt_ov S)) : rt_S)]) = some L := h
          rw [hv] at h
          cases h
          refine ⟨_, List.mem_singleton.mpr rfl, fresh rfl hv (fun o ho => ?_)⟩
          cases nm with
          | zero => exact Or.inl ho
          | succ jn =>
            have ho : o ∈ (jn + 1, (x.1, x.2.1), w) :: rt_ov S := ho
            rcases List.mem_cons.mp ho with rfl | ho
            · exact Or.inr ⟨rfl, c, jn, rfl⟩
            · exact Or.inl ho
  | false =>
    rw [c, cond_false] at h
    cases T with
    | none => cases h
    | some T' =>
      cases hv : rt_vT S.2.2.1 T' with
      | mk n w =>
        have h : (match rt_vT S.2.2.1 T' with
          | (n, v) => some [((Nat.add S.1 r.2.1, S.2.1, n, rt_lo S, v :: st, rt_ov S) : rt_S)]) = some L := h
        rw [hv] at h
        cases h
        exact ⟨_, List.mem_singleton.mpr rfl, fresh rfl hv (fun o ho => Or.inl ho)⟩
theorem rt_sto_ok (hcx : rt_ctx KK K ad Φ) {i j q k nm : Nat} {x : ri_I} {va : rt_V} {st : List rt_V} {stv : List Value} {v : Value} {e e' : va_E} {kd : rt_K} {f : rt_F} (h : rt_sto r S va x (k, nm) st = some L) (hpc : a.1 = S.1) (hh : rt_hp KK κ K ad ws0 Φ t0 S.2.1.1 S.2.1.2 a.2.2.2) (hN : rt_okN K ad S.2.2.1 τ ν lm) (hL : rt_gL τ ν lm K ad (rt_lo S) a.2.1) (hS : rt_gS τ ν lm K ad st stv) (hO : ∀ o ∈ rt_ov S, rt_gO τ ν lm K ad a.2.2.2 o) (hva : rt_gV τ ν lm K ad va v) (hnm : nm = 0 ∨ ∃ jn, nm = jn + 1 ∧ ν[jn]? = some q) (hx : rt_ex x = true → ∃ b, rt_bs τ x.1 = some b ∧ b + x.2.1 = (j : Int)) (hK : K[i]? = some k) (hw : a.2.2.2[i]? = some (q, e)) (hkd : rt_kd KK S.2.1.1 k = some kd) (hf : rt_sT kd j = some f) (h0 : f.1 = 0) (hs : rt_shp κ kd e') (hj : rt_sl e' j = some v) (hv : rt_gT K ad f.2 v) (ho : ∀ i, i ≠ j → rt_sl e' i = rt_sl e i) : ∃ S' ∈ L, rt_rl KK κ K ad ws0 Φ t0 S' (a.1 + r.2.1, a.2.1, stv, a.2.2.2.set i (q, e')) := by
  unfold rt_sto at h
  cases hp : rt_nmV S.2.2.1 va with
  | none => rw [hp] at h; cases h
  | some p =>
    rw [hp] at h
    cases h
    obtain ⟨τ', p1, hN', hv', eq2⟩ := rt_nmV_ok hN hp hva
    have px := List.prefix_refl ν
    have pl := List.prefix_refl lm
    have hk0 := (List.getElem?_eq_some_iff.mp hw).1
    refine ⟨_, List.mem_singleton.mpr rfl, τ', ν, lm, by show a.1 + r.2.1 = S.1 + r.2.1; rw [hpc], rt_hp_set hcx hh hK hw hkd hf h0 hs hj hv ho, hN', rt_gL_mono p1 px pl hL, rt_gS_mono p1 px pl hS, fun o hoo => ?_⟩
    have hoo : o ∈ cond (rt_ex x) (rt_ost (rt_R S) (rt_ov S) nm k (x.1, x.2.1) p.2) (rt_fil (rt_oth (rt_R S) k) (rt_ov S)) := hoo
    cases c : rt_ex x with
    | false =>
      rw [c] at hoo
      obtain ⟨m1, m2⟩ := rt_fil_mem hoo
      exact rt_gO_mono p1 px pl (rt_gO_oth hcx hh.1 hN.2.1 hK hw (hO o m1) m2)
    | true =>
      rw [c] at hoo
      obtain ⟨b, b1, b2⟩ := hx c
      have old : o ∈ rt_fil (rt_outl (rt_R S) k (x.1, x.2.1)) (rt_ov S) → rt_gO τ' ν lm K ad (a.2.2.2.set i (q, e')) o := fun hm => by
        obtain ⟨m1, m2⟩ := rt_fil_mem hm
        refine rt_gO_mono p1 px pl (rt_gO_set hcx hh.1 hN.2.1 hK hw ho (sel := (x.1, x.2.1)) (fun e0 => ?_) (hO o m1) m2)
        have e0 : x.1 = 0 := e0
        rw [e0] at b1
        cases b1
        show x.2.1 = (j : Int)
        omega
      have hoo : o ∈ rt_ost (rt_R S) (rt_ov S) nm k (x.1, x.2.1) p.2 := hoo
      unfold rt_ost at hoo
      rcases hnm with rfl | ⟨jn, rfl, hjn⟩
      · exact old hoo
      · have hoo : o ∈ (jn + 1, (x.1, x.2.1), p.2) :: rt_fil (rt_outl (rt_R S) k (x.1, x.2.1)) (rt_ov S) := hoo
        rcases List.mem_cons.mp hoo with rfl | hoo
        · refine ⟨jn, q, i, e', b, v, rfl, hjn, by rw [List.getElem?_set, if_pos rfl, if_pos hk0], rt_bs_mono p1 b1, ?_, ?_, hv'⟩
          · show 0 ≤ b + x.2.1
            omega
          · show rt_sl e' (b + x.2.1).toNat = some v
            rw [b2]
            exact hj
        · exact old hoo
theorem rk_getf (hcx : rt_ctx KK K ad Φ) (h : rt_getf KK r S = some L) (hr : rt_rl KK κ K ad ws0 Φ t0 S a) : rc_getf r a (fun b => ∃ S' ∈ L, rt_rl KK κ K ad ws0 Φ t0 S' b) := by
  obtain ⟨τ, ν, lm, hpc, hh, hN, hL, hS, hO⟩ := hr
  unfold rt_getf at h
  rcases hst : rt_st S with _ | ⟨x | q | x, st⟩
  all_goals first | (rw [hst] at h; cases h; done) | skip
  rw [hst] at h hS
  obtain ⟨w, stv, e1, ⟨p, rfl, hk, hnm⟩, hS1⟩ := rt_gS_cons hS
  obtain ⟨i, e, kd, g1, g2, g3, g4⟩ := rt_cell hcx hh hk
  have h : (match rt_kd KK S.2.1.1 q.1 with
    | some (.inl o) => cond (Nat.beq o.1 r.2.2.1) (match ri_nth o.2 r.2.2.2.1 with
      | some f => rt_ld r S q.2 (0, .ofNat r.2.2.2.1, .ofNat r.2.2.2.1) (some f.2) st
      | none => none) none
    | _ => none) = some L := h
  rw [g3] at h
  rcases kd with o | o
  · have h : cond (Nat.beq o.1 r.2.2.1) (match ri_nth o.2 r.2.2.2.1 with
      | some f => rt_ld r S q.2 (0, .ofNat r.2.2.2.1, .ofNat r.2.2.2.1) (some f.2) st
      | none => none) none = some L := h
    obtain ⟨c1, h⟩ := ri_cond h rfl
    have c1 := Nat.eq_of_beq_eq_true c1
    cases hf : ri_nth o.2 r.2.2.2.1 with
    | none => rw [hf] at h; cases h
    | some f =>
      rw [hf] at h
      obtain ⟨⟨vs, rfl, hvl⟩, hsl⟩ := g4
      obtain ⟨v, s1, s2⟩ := hsl r.2.2.2.1 f hf
      rw [c1] at g1
      refine ⟨p, i, vs, v, stv, e1, g1, s1, ?_⟩
      exact rt_ld_ok hcx h hpc hh hN hL hS1 hO (q := p) (k := q.1) hnm g1 s1 (fun T' eT => by cases eT; exact s2) (fun _ => ⟨0, rfl, by show (0 : Int) + ((r.2.2.2.1 : Nat) : Int) = _; omega⟩)
  · cases h
theorem rt_ix_ok {E : List rt_B} (hE : rt_okE E τ lm) {x : ri_I} {n i j : Nat} (h : rt_ix E x n = some (i, j)) {u : Int32} (hu : rt_gI τ x u) : vp_in u n ∧ i ≤ u.toNatClampNeg ∧ u.toNatClampNeg ≤ j ∧ j < n ∧ u.toInt = (u.toNatClampNeg : Int) := by
  unfold rt_ix at h
  cases ha : rt_abs E x with
  | none => rw [ha] at h; cases h
  | some a =>
    rw [ha] at h
    have h1 := rt_abs_ok hE ha hu
    obtain ⟨a1, a2⟩ := a
    cases a1 with
    | negSucc _ => cases h
    | ofNat a1 =>
      cases a2 with
      | negSucc _ => cases h
      | ofNat a2 =>
        have h : cond (Nat.blt a2 n) (some (a1, a2)) none = some (i, j) := h
        obtain ⟨c1, h⟩ := ri_cond h rfl
        cases h
        have c1 := rt_blt.mp c1
        have h1 : (i : Int) ≤ u.toInt ∧ u.toInt ≤ (j : Int) := h1
        have eu := ri_nc u
        exact ⟨fun q => q.elim (ri_nn (by omega)) (fun q => by omega), by omega, by omega, c1, by omega⟩
/-- an exact index is its place -/
theorem rt_exb {x : ri_I} {u : Int32} (hu : rt_gI τ x u) (hn : u.toInt = (u.toNatClampNeg : Int)) : rt_ex x = true → ∃ b, rt_bs τ x.1 = some b ∧ b + x.2.1 = (u.toNatClampNeg : Int) := fun hx => by
  obtain ⟨b, b1, b2, b3⟩ := hu
  have := ri_le_iff.mp hx
  exact ⟨b, b1, by omega⟩
/-- a load from an array: the cell, the place, what is there -/
theorem rk_ald (hcx : rt_ctx KK K ad Φ) {t1 t2 : Nat} (h : rt_ald KK t1 t2 r S = some L) (hr : rt_rl KK κ K ad ws0 Φ t0 S a) : ∃ (p i : Nat) (u : Int32) (stv : List Value) (o : Nat × List (Nat × rt_F)) (e : va_E) (v : Value), a.2.2.1 = .int u :: .ref p :: stv ∧ a.2.2.2[i]? = some (p, e) ∧ t1 ≤ o.1 ∧ o.1 ≤ t2 ∧ rt_shp κ (.inr o) e ∧ vp_in u (rt_tot o.2) ∧ rt_sl e u.toNatClampNeg = some v ∧ ∃ S' ∈ L, rt_rl KK κ K ad ws0 Φ t0 S' (rc_nx r a (v :: stv)) := by
  obtain ⟨τ, ν, lm, hpc, hh, hN, hL, hS, hO⟩ := hr
  unfold rt_ald at h
  rcases hst : rt_st S with _ | ⟨x | x, _ | ⟨y | q | y, st⟩⟩
  all_goals first | (rw [hst] at h; cases h; done) | skip
  rw [hst] at h hS
  obtain ⟨_, m, e1, ⟨u, rfl, gu⟩, hS1⟩ := rt_gS_cons hS
  obtain ⟨w, stv, rfl, ⟨p, rfl, hk, hnm⟩, hS2⟩ := rt_gS_cons hS1
  obtain ⟨i, e, kd, g1, g2, g3, g4⟩ := rt_cell hcx hh hk
  have h : (match rt_kd KK S.2.1.1 q.1 with
    | some (.inr o) => cond (Nat.ble t1 o.1) (cond (Nat.ble o.1 t2) (match rt_ix (rt_E S) x (rt_tot o.2) with
      | some p => rt_ld r S q.2 x (rt_hull (rt_cov o.2 p.1 p.2)) st
      | none => none) none) none
    | _ => none) = some L := h
  rw [g3] at h
  rcases kd with o | o
  · cases h
  · have h : cond (Nat.ble t1 o.1) (cond (Nat.ble o.1 t2) (match rt_ix (rt_E S) x (rt_tot o.2) with
      | some p => rt_ld r S q.2 x (rt_hull (rt_cov o.2 p.1 p.2)) st
      | none => none) none) none = some L := h
    obtain ⟨c1, h⟩ := ri_cond h rfl
    obtain ⟨c2, h⟩ := ri_cond h rfl
    rcases hix : rt_ix (rt_E S) x (rt_tot o.2) with _ | ⟨pi, pj⟩
    · rw [hix] at h; cases h
    · rw [hix] at h
      obtain ⟨x1, x2, x3, x4, x5⟩ := rt_ix_ok hN.1 hix gu
      obtain ⟨f, hf⟩ := rt_sg_tot (l := o.2) (k := u.toNatClampNeg) (by omega)
      obtain ⟨v, s1, s2⟩ := g4.2 u.toNatClampNeg f hf
      refine ⟨p, i, u, stv, o, e, v, e1, g1, Nat.le_of_ble_eq_true c1, Nat.le_of_ble_eq_true c2, g4.1, x1, s1, ?_⟩
      exact rt_ld_ok hcx h hpc hh hN hL hS2 hO (q := p) (k := q.1) hnm g1 s1 (fun T' eT => rt_hull_ok eT f (rt_cov_mem hf x2 x3) v s2) (rt_exb gu x5)
theorem rk_alen (hcx : rt_ctx KK K ad Φ) (h : rt_alen KK r S = some L) (hr : rt_rl KK κ K ad ws0 Φ t0 S a) : rc_alen κ r a (fun b => ∃ S' ∈ L, rt_rl KK κ K ad ws0 Φ t0 S' b) := by
  obtain ⟨τ, ν, lm, hpc, hh, hN, hL, hS, hO⟩ := hr
  unfold rt_alen at h
  rcases hst : rt_st S with _ | ⟨y | q | y, st⟩
  all_goals first | (rw [hst] at h; cases h; done) | skip
  rw [hst] at h hS
  obtain ⟨w, stv, e1, ⟨p, rfl, hk, hnm⟩, hS2⟩ := rt_gS_cons hS
  obtain ⟨i, e, kd, g1, g2, g3, g4⟩ := rt_cell hcx hh hk
  have h : (match rt_kd KK S.2.1.1 q.1 with
    | some (.inr o) => cond (Nat.blt (rt_tot o.2) 2147483648) (rt_nx r S (.inl (0, .ofNat (rt_tot o.2), .ofNat (rt_tot o.2)) :: st)) none
    | _ => none) = some L := h
  rw [g3] at h
  rcases kd with o | o
  · cases h
  · have h : cond (Nat.blt (rt_tot o.2) 2147483648) (rt_nx r S (.inl (0, .ofNat (rt_tot o.2), .ofNat (rt_tot o.2)) :: st)) none = some L := h
    obtain ⟨c1, h⟩ := ri_cond h rfl
    have c1 := rt_blt.mp c1
    have fin : ∀ x : vp_A, x.1 = rt_tot o.2 → ∃ S' ∈ L, rt_rl KK κ K ad ws0 Φ t0 S' (rc_nx r a (.int (Int32.ofNat x.1) :: stv)) := fun x ex => by
      refine rt_nx_ok h hpc hh hN hL ⟨⟨_, rfl, rt_gI_0.mpr ?_⟩, hS2⟩ hO
      rw [ex, Int32.toInt_ofNat_of_lt c1]
      exact ⟨Int.le_refl _, Int.le_refl _⟩
    rcases g4.1 with ⟨a2, f, rfl⟩ | ⟨a3, f, rfl⟩ | ⟨a4, a7, f, rfl⟩
    · exact ⟨p, i, o.1, _, stv, e1, by omega, g1, fin _ rfl⟩
    · exact ⟨p, i, 3, _, stv, e1, by omega, g1, fin _ rfl⟩
    · exact ⟨p, i, o.1, _, stv, e1, a7, g1, fin _ rfl⟩
end RT48
