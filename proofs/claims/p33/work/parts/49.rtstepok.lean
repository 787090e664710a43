/-! Stores by their instructions, switches, Math; a step -/
theorem rt_fit_ok {E : List rt_B} {τ : List Int} {ν : List Nat} {lm : List Int64} {K ad : List Nat} (hE : rt_okE E τ lm) {t : Int} {x : rt_V} (h : rt_fit E (Int.toNat t) x = true) (ht : t = 0 ∨ t = 1 ∨ t = 2 ∨ t = 4) {v : Value} (hv : rt_gV τ ν lm K ad x v) : rc_fit t v := by
  rcases ht with rfl | rfl | rfl | rfl
  · rcases x with x | x
    · obtain ⟨z, rfl, -⟩ := hv
      exact Or.inl ⟨rfl, z, rfl⟩
    · cases h
  · rcases x with x | x
    · obtain ⟨z, rfl, -⟩ := id hv
      have h : rt_is E (.inl x) (.inl (0, 1)) = true := h
      obtain ⟨z', e, h1, h2⟩ := rt_is_ok (K := K) (ad := ad) hE h hv
      cases e
      have h1 : 0 ≤ z.toInt := h1
      have h2 : z.toInt ≤ 1 := h2
      refine Or.inr (Or.inl ⟨rfl, ?_⟩)
      rcases (show z.toInt = 0 ∨ z.toInt = 1 by omega) with q | q
      · exact Or.inl (congrArg Value.int (ri_is q rfl))
      · exact Or.inr (congrArg Value.int (ri_is q rfl))
    · cases h
  · rcases x with x | x | x
    · cases h
    · obtain ⟨q, rfl, -⟩ := hv
      exact Or.inr (Or.inr (Or.inl ⟨rfl, q, rfl⟩))
    · cases h
  · rcases x with x | x | _ | x
    · cases h
    · cases h
    · cases h
    · obtain ⟨z, rfl, -⟩ := hv
      exact Or.inr (Or.inr (Or.inr ⟨rfl, z, rfl⟩))
theorem rt_nar {z : Int32} {t : Nat} (ht : t = 0 ∨ (t = 1 ∧ 0 ≤ z.toInt ∧ z.toInt ≤ 1) ∨ (t = 2 ∧ -128 ≤ z.toInt ∧ z.toInt ≤ 127)) : vp_nar (ri_ty t) z = z := by
  rcases ht with rfl | ⟨rfl, h1, h2⟩ | ⟨rfl, h1, h2⟩
  · rfl
  · rcases (show z.toInt = 0 ∨ z.toInt = 1 by omega) with q | q
    · have : z = 0 := ri_is q rfl
      subst this
      decide +kernel
    · have : z = 1 := ri_is q rfl
      subst this
      decide +kernel
  · show z.toInt8.toInt32 = z
    apply Int32.toInt_inj.mp
    rw [Int8.toInt_toInt32, Int32.toInt_toInt8, Int.bmod_def]
    omega
theorem rt_upd_at (f : Nat → Int32) (k : Nat) (x : Int32) (j : Nat) : upd f k x j = if j = k then x else f j := rfl
section RT49
variable {τ τ' : List Int} {ν ν' : List Nat} {lm lm' : List Int64} {K ad : List Nat} {ws0 : va_W} {KK : List (List rt_K)} {κ : Nat → ClassId} {Φ : Nat → Int → va_W → Prop} {t0 : Int} {r : ri_R} {S : rt_S} {a : rc_C} {L : List rt_S}
theorem rk_putf (hcx : rt_ctx KK K ad Φ) (ht : r.2.2.2.2 = 0 ∨ r.2.2.2.2 = 1 ∨ r.2.2.2.2 = 2 ∨ r.2.2.2.2 = 4) (h : rt_putf KK r S = some L) (hr : rt_rl KK κ K ad ws0 Φ t0 S a) : rc_putf r a (fun b => ∃ S' ∈ L, rt_rl KK κ K ad ws0 Φ t0 S' b) := by
  obtain ⟨τ, ν, lm, hpc, hh, hN, hL, hS, hO⟩ := hr
  unfold rt_putf at h
  rcases hst : rt_st S with _ | ⟨v, _ | ⟨x | q | x, st⟩⟩
  all_goals first | (rw [hst] at h; cases h; done) | skip
  rw [hst] at h hS
  obtain ⟨val, m, e1, hv, hS1⟩ := rt_gS_cons hS
  obtain ⟨w, stv, rfl, ⟨p, rfl, hk, hnm⟩, hS2⟩ := rt_gS_cons hS1
  obtain ⟨i, e, kd, g1, g2, g3, g4⟩ := rt_cell hcx hh hk
  have h : (match rt_kd KK S.2.1.1 q.1 with
    | some (.inl o) => cond (Nat.beq o.1 r.2.2.1) (match ri_nth o.2 r.2.2.2.1 with
      | some f => cond (rt_may (rt_E S) v [f]) (cond (rt_fit (rt_E S) (Int.toNat r.2.2.2.2) v) (rt_sto r S v (0, .ofNat r.2.2.2.1, .ofNat r.2.2.2.1) q st) none) none
      | none => none) none
    | _ => none) = some L := h
  rw [g3] at h
  rcases kd with o | o
  · have h : cond (Nat.beq o.1 r.2.2.1) (match ri_nth o.2 r.2.2.2.1 with
      | some f => cond (rt_may (rt_E S) v [f]) (cond (rt_fit (rt_E S) (Int.toNat r.2.2.2.2) v) (rt_sto r S v (0, .ofNat r.2.2.2.1, .ofNat r.2.2.2.1) q st) none) none
      | none => none) none = some L := h
    obtain ⟨c1, h⟩ := ri_cond h rfl
    have c1 := Nat.eq_of_beq_eq_true c1
    cases hf : ri_nth o.2 r.2.2.2.1 with
    | none => rw [hf] at h; cases h
    | some f =>
      rw [hf] at h
      have h : cond (rt_may (rt_E S) v [f]) (cond (rt_fit (rt_E S) (Int.toNat r.2.2.2.2) v) (rt_sto r S v (0, .ofNat r.2.2.2.1, .ofNat r.2.2.2.1) q st) none) none = some L := h
      obtain ⟨c2, h⟩ := ri_cond h rfl
      obtain ⟨c3, h⟩ := ri_cond h rfl
      obtain ⟨⟨vs, rfl, hvl⟩, hsl⟩ := g4
      obtain ⟨f0, fis⟩ := rt_may_ok c2 f (List.mem_singleton.mpr rfl)
      have hlt : r.2.2.2.1 < vs.length := by
        rw [ri_nth_eq] at hf
        rw [hvl]
        exact (List.getElem?_eq_some_iff.mp hf).1
      rw [c1] at g1
      have hkd : rt_kd KK S.2.1.1 q.1 = some (.inl o) := g3
      refine ⟨p, i, vs, val, stv, e1, g1, hlt, rt_fit_ok hN.1 c3 ht hv, ?_⟩
      refine rt_sto_ok hcx (j := r.2.2.2.1) (kd := .inl o) (f := f) h hpc hh hN hL hS2 hO hv hnm (fun _ => ⟨0, rfl, by show (0 : Int) + ((r.2.2.2.1 : Nat) : Int) = _; omega⟩) g2 g1 hkd hf f0 ⟨vs.set r.2.2.2.1 val, by rw [c1], by rw [List.length_set]; exact hvl⟩ ?_ (rt_is_ok hN.1 fis hv) (fun i' hi' => ?_)
      · show (vs.set r.2.2.2.1 val)[r.2.2.2.1]? = some val
        rw [List.getElem?_set, if_pos rfl, if_pos hlt]
      · show (vs.set r.2.2.2.1 val)[i']? = vs[i']?
        rw [List.getElem?_set, if_neg (fun c => hi' c.symm)]
  · cases h
/-- a store into an array: the cell, the place; then for each kind of array its contents behind it -/
theorem rk_ast (hcx : rt_ctx KK K ad Φ) {t1 t2 : Nat} (h : rt_ast KK t1 t2 r S = some L) (hr : rt_rl KK κ K ad ws0 Φ t0 S a) : ∃ (τ : List Int) (ν : List Nat) (lm : List Int64) (p i : Nat) (u : Int32) (stv : List Value) (o : Nat × List (Nat × rt_F)) (e : va_E) (x : rt_V) (v : Value), a.2.2.1 = v :: .int u :: .ref p :: stv ∧ a.2.2.2[i]? = some (p, e) ∧ t1 ≤ o.1 ∧ o.1 ≤ t2 ∧ rt_shp κ (.inr o) e ∧ vp_in u (rt_tot o.2) ∧ rt_okE (rt_E S) τ lm ∧ rt_gV τ ν lm K ad x v ∧ rt_fit (rt_E S) (rt_ak o.1) x = true ∧ ∀ e' : va_E, rt_shp κ (.inr o) e' → rt_sl e' u.toNatClampNeg = some v → (∀ i', i' ≠ u.toNatClampNeg → rt_sl e' i' = rt_sl e i') → ∃ S' ∈ L, rt_rl KK κ K ad ws0 Φ t0 S' (a.1 + r.2.1, a.2.1, stv, a.2.2.2.set i (p, e')) := by
  obtain ⟨τ, ν, lm, hpc, hh, hN, hL, hS, hO⟩ := hr
  unfold rt_ast at h
  rcases hst : rt_st S with _ | ⟨v, _ | ⟨x | x, _ | ⟨y | q | y, st⟩⟩⟩
  all_goals first | (rw [hst] at h; cases h; done) | skip
  rw [hst] at h hS
  obtain ⟨val, m, e1, hv, hS0⟩ := rt_gS_cons hS
  obtain ⟨_, m2, rfl, ⟨u, rfl, gu⟩, hS1⟩ := rt_gS_cons hS0
  obtain ⟨w, stv, rfl, ⟨p, rfl, hk, hnm⟩, hS2⟩ := rt_gS_cons hS1
  obtain ⟨i, e, kd, g1, g2, g3, g4⟩ := rt_cell hcx hh hk
  have h : (match rt_kd KK S.2.1.1 q.1 with
    | some (.inr o) => cond (Nat.ble t1 o.1) (cond (Nat.ble o.1 t2) (match rt_ix (rt_E S) x (rt_tot o.2) with
      | some p => cond (rt_may (rt_E S) v (rt_cov o.2 p.1 p.2)) (cond (rt_fit (rt_E S) (rt_ak o.1) v) (rt_sto r S v x q st) none) none
      | none => none) none) none
    | _ => none) = some L := h
  rw [g3] at h
  rcases kd with o | o
  · cases h
  · have h : cond (Nat.ble t1 o.1) (cond (Nat.ble o.1 t2) (match rt_ix (rt_E S) x (rt_tot o.2) with
      | some p => cond (rt_may (rt_E S) v (rt_cov o.2 p.1 p.2)) (cond (rt_fit (rt_E S) (rt_ak o.1) v) (rt_sto r S v x q st) none) none
      | none => none) none) none = some L := h
    obtain ⟨c1, h⟩ := ri_cond h rfl
    obtain ⟨c2, h⟩ := ri_cond h rfl
    rcases hix : rt_ix (rt_E S) x (rt_tot o.2) with _ | ⟨pi, pj⟩
    · rw [hix] at h; cases h
    · rw [hix] at h
      have h : cond (rt_may (rt_E S) v (rt_cov o.2 pi pj)) (cond (rt_fit (rt_E S) (rt_ak o.1) v) (rt_sto r S v x q st) none) none = some L := h
      obtain ⟨c3, h⟩ := ri_cond h rfl
      obtain ⟨c4, h⟩ := ri_cond h rfl
      obtain ⟨x1, x2, x3, x4, x5⟩ := rt_ix_ok hN.1 hix gu
      obtain ⟨f, hf⟩ := rt_sg_tot (l := o.2) (k := u.toNatClampNeg) (by omega)
      obtain ⟨f0, fis⟩ := rt_may_ok c3 f (rt_cov_mem hf x2 x3)
      refine ⟨τ, ν, lm, p, i, u, stv, o, e, v, val, e1, g1, Nat.le_of_ble_eq_true c1, Nat.le_of_ble_eq_true c2, g4.1, x1, hN.1, hv, c4, fun e' hs hj ho => ?_⟩
      exact rt_sto_ok hcx (j := u.toNatClampNeg) (kd := .inr o) (f := f) h hpc hh hN hL hS2 hO hv hnm (rt_exb gu x5) g2 g1 g3 hf f0 hs hj (rt_is_ok hN.1 fis hv) ho
theorem rt_bl {E : List rt_B} {lo hi : Int} (hE : rt_okE E τ lm) {x : rt_V} {z : Int32} (h : rt_is E x (.inl (lo, hi)) = true) (hv : rt_gV τ ν lm K ad x (.int z)) : lo ≤ z.toInt ∧ z.toInt ≤ hi := by
  obtain ⟨z', e, h1, h2⟩ := rt_is_ok (K := K) (ad := ad) hE h hv
  cases e
  exact ⟨h1, h2⟩
theorem rk_iast (hcx : rt_ctx KK K ad Φ) {t : Nat} (ht : t ≤ 2) (h : rt_ast KK t t r S = some L) (hr : rt_rl KK κ K ad ws0 Φ t0 S a) : rc_ast κ t r a (fun b => ∃ S' ∈ L, rt_rl KK κ K ad ws0 Φ t0 S' b) := by
  obtain ⟨τ, ν, lm, p, i, u, stv, o, e, x, v, e1, g1, c1, c2, hs, x1, hE, hv, hfit, kk⟩ := rk_ast hcx h hr
  have et : o.1 = t := by omega
  have hlt : u.toNatClampNeg < rt_tot o.2 := Nat.not_le.mp fun q => x1 (Or.inr q)
  rcases hs with ⟨a2, f, rfl⟩ | ⟨a3, -⟩ | ⟨a4, -⟩
  · rw [et] at hfit
    have hz : ∃ z : Int32, v = .int z ∧ (t = 0 ∨ (t = 1 ∧ 0 ≤ z.toInt ∧ z.toInt ≤ 1) ∨ (t = 2 ∧ -128 ≤ z.toInt ∧ z.toInt ≤ 127)) := by
      rcases (show t = 0 ∨ t = 1 ∨ t = 2 by omega) with rfl | rfl | rfl
      · rcases x with x | x
        · obtain ⟨z, rfl, -⟩ := hv
          exact ⟨z, rfl, Or.inl rfl⟩
        · cases hfit
      · rcases x with x | x
        · obtain ⟨z, rfl, -⟩ := id hv
          have hfit : rt_is (rt_E S) (.inl x) (.inl (0, 1)) = true := hfit
          exact ⟨z, rfl, Or.inr (Or.inl ⟨rfl, rt_bl hE hfit hv⟩)⟩
        · cases hfit
      · rcases x with x | x
        · obtain ⟨z, rfl, -⟩ := id hv
          have hfit : rt_is (rt_E S) (.inl x) (.inl (-128, 127)) = true := hfit
          exact ⟨z, rfl, Or.inr (Or.inr ⟨rfl, rt_bl hE hfit hv⟩)⟩
        · cases hfit
    obtain ⟨z, rfl, hz⟩ := hz
    rw [et] at g1
    refine ⟨p, i, rt_tot o.2, f, u, z, stv, e1, g1, x1, rt_nar hz, ?_⟩
    have := kk (.inl (κ o.1, rt_tot o.2, .inl (upd f u.toNatClampNeg z))) (Or.inl ⟨a2, _, rfl⟩) (by
      show (if u.toNatClampNeg < rt_tot o.2 then some (Value.int (upd f u.toNatClampNeg z u.toNatClampNeg)) else none) = _
      rw [if_pos hlt, rt_upd_at, if_pos rfl]) (fun i' hi' => by
      show (if i' < rt_tot o.2 then some (Value.int (upd f u.toNatClampNeg z i')) else none) = (if i' < rt_tot o.2 then some (Value.int (f i')) else none)
      rw [rt_upd_at, if_neg hi'])
    rw [et] at this
    exact this
  · omega
  · omega
theorem rk_last (hcx : rt_ctx KK K ad Φ) (h : rt_ast KK 3 3 r S = some L) (hr : rt_rl KK κ K ad ws0 Φ t0 S a) : rc_last κ r a (fun b => ∃ S' ∈ L, rt_rl KK κ K ad ws0 Φ t0 S' b) := by
  obtain ⟨τ, ν, lm, p, i, u, stv, o, e, x, v, e1, g1, c1, c2, hs, x1, hE, hv, hfit, kk⟩ := rk_ast hcx h hr
  have et : o.1 = 3 := by omega
  have hlt : u.toNatClampNeg < rt_tot o.2 := Nat.not_le.mp fun q => x1 (Or.inr q)
  rcases hs with ⟨a2, -⟩ | ⟨a3, f, rfl⟩ | ⟨a4, -⟩
  · omega
  · rw [et] at hfit
    rcases x with x | x | _ | x
    · cases hfit
    · cases hfit
    · cases hfit
    · obtain ⟨z, rfl, -⟩ := hv
      refine ⟨p, i, rt_tot o.2, f, u, z, stv, e1, g1, x1, ?_⟩
      exact kk (.inl (κ 3, rt_tot o.2, .inr (.inl (vp_updL f u.toNatClampNeg z)))) (Or.inr (Or.inl ⟨et, _, rfl⟩)) (by
        show (if u.toNatClampNeg < rt_tot o.2 then some (Value.long (if u.toNatClampNeg = u.toNatClampNeg then z else f u.toNatClampNeg)) else none) = _
        rw [if_pos hlt, if_pos rfl]) (fun i' hi' => by
        show (if i' < rt_tot o.2 then some (Value.long (if i' = u.toNatClampNeg then z else f i')) else none) = (if i' < rt_tot o.2 then some (Value.long (f i')) else none)
        rw [if_neg hi'])
  · omega
/-- int-like loads -/
theorem rk_iald (hcx : rt_ctx KK K ad Φ) {t : Nat} (ht : t ≤ 2) (h : rt_ald KK t t r S = some L) (hr : rt_rl KK κ K ad ws0 Φ t0 S a) : rc_ald κ t r a (fun b => ∃ S' ∈ L, rt_rl KK κ K ad ws0 Φ t0 S' b) := by
  obtain ⟨p, i, u, stv, o, e, v, e1, g1, c1, c2, hs, x1, s1, kk⟩ := rk_ald hcx h hr
  have et : o.1 = t := by omega
  have hlt : u.toNatClampNeg < rt_tot o.2 := Nat.not_le.mp fun q => x1 (Or.inr q)
  rcases hs with ⟨a2, f, rfl⟩ | ⟨a3, -⟩ | ⟨a4, -⟩
  · rw [et] at g1
    refine ⟨p, i, rt_tot o.2, f, u, stv, e1, g1, x1, ?_⟩
    have s1 : (if u.toNatClampNeg < rt_tot o.2 then some (Value.int (f u.toNatClampNeg)) else none) = some v := s1
    rw [if_pos hlt] at s1
    cases s1
    exact kk
  · omega
  · omega
theorem rk_lald (hcx : rt_ctx KK K ad Φ) (h : rt_ald KK 3 3 r S = some L) (hr : rt_rl KK κ K ad ws0 Φ t0 S a) : rc_lald κ r a (fun b => ∃ S' ∈ L, rt_rl KK κ K ad ws0 Φ t0 S' b) := by
  obtain ⟨p, i, u, stv, o, e, v, e1, g1, c1, c2, hs, x1, s1, kk⟩ := rk_ald hcx h hr
  have hlt : u.toNatClampNeg < rt_tot o.2 := Nat.not_le.mp fun q => x1 (Or.inr q)
  rcases hs with ⟨a2, -⟩ | ⟨a3, f, rfl⟩ | ⟨a4, -⟩
  · omega
  · refine ⟨p, i, rt_tot o.2, f, u, stv, e1, g1, x1, ?_⟩
    have s1 : (if u.toNatClampNeg < rt_tot o.2 then some (Value.long (f u.toNatClampNeg)) else none) = some v := s1
    rw [if_pos hlt] at s1
    cases s1
    exact kk
  · omega
theorem rk_aald (hcx : rt_ctx KK K ad Φ) (h : rt_ald KK 4 7 r S = some L) (hr : rt_rl KK κ K ad ws0 Φ t0 S a) : rc_aald κ r a (fun b => ∃ S' ∈ L, rt_rl KK κ K ad ws0 Φ t0 S' b) := by
  obtain ⟨p, i, u, stv, o, e, v, e1, g1, c1, c2, hs, x1, s1, kk⟩ := rk_ald hcx h hr
  have hlt : u.toNatClampNeg < rt_tot o.2 := Nat.not_le.mp fun q => x1 (Or.inr q)
  rcases hs with ⟨a2, -⟩ | ⟨a3, -⟩ | ⟨a4, a7, f, rfl⟩
  · omega
  · omega
  · refine ⟨p, i, rt_tot o.2, o.1, f, u, stv, e1, a4, a7, g1, x1, ?_⟩
    have s1 : (if u.toNatClampNeg < rt_tot o.2 then some (va_rf (f u.toNatClampNeg)) else none) = some v := s1
    rw [if_pos hlt] at s1
    cases s1
    exact kk
/-- baload, bastore: the array's type is one of two -/
theorem rk_bald (hcx : rt_ctx KK K ad Φ) (h : rt_ald KK 1 2 r S = some L) (hr : rt_rl KK κ K ad ws0 Φ t0 S a) : rc_ald κ 1 r a (fun b => ∃ S' ∈ L, rt_rl KK κ K ad ws0 Φ t0 S' b) ∨ rc_ald κ 2 r a (fun b => ∃ S' ∈ L, rt_rl KK κ K ad ws0 Φ t0 S' b) := by
  obtain ⟨p, i, u, stv, o, e, v, e1, g1, c1, c2, hs, x1, s1, kk⟩ := rk_ald hcx h hr
  have hlt : u.toNatClampNeg < rt_tot o.2 := Nat.not_le.mp fun q => x1 (Or.inr q)
  rcases hs with ⟨a2, f, rfl⟩ | ⟨a3, -⟩ | ⟨a4, -⟩
  · have s1 : (if u.toNatClampNeg < rt_tot o.2 then some (Value.int (f u.toNatClampNeg)) else none) = some v := s1
    rw [if_pos hlt] at s1
    cases s1
    rcases (show o.1 = 1 ∨ o.1 = 2 by omega) with et | et
    · rw [et] at g1
      exact Or.inl ⟨p, i, rt_tot o.2, f, u, stv, e1, g1, x1, kk⟩
    · rw [et] at g1
      exact Or.inr ⟨p, i, rt_tot o.2, f, u, stv, e1, g1, x1, kk⟩
  · omega
  · omega
theorem rk_bast (hcx : rt_ctx KK K ad Φ) (h : rt_ast KK 1 2 r S = some L) (hr : rt_rl KK κ K ad ws0 Φ t0 S a) : rc_ast κ 1 r a (fun b => ∃ S' ∈ L, rt_rl KK κ K ad ws0 Φ t0 S' b) ∨ rc_ast κ 2 r a (fun b => ∃ S' ∈ L, rt_rl KK κ K ad ws0 Φ t0 S' b) := by
  obtain ⟨τ, ν, lm, p, i, u, stv, o, e, x, v, e1, g1, c1, c2, hs, x1, hE, hv, hfit, kk⟩ := rk_ast hcx h hr
  have hlt : u.toNatClampNeg < rt_tot o.2 := Nat.not_le.mp fun q => x1 (Or.inr q)
  rcases hs with ⟨a2, f, rfl⟩ | ⟨a3, -⟩ | ⟨a4, -⟩
  · rcases (show o.1 = 1 ∨ o.1 = 2 by omega) with et | et
    · rw [et] at hfit g1
      rcases x with x | x
      · obtain ⟨z, rfl, -⟩ := id hv
        have hfit : rt_is (rt_E S) (.inl x) (.inl (0, 1)) = true := hfit
        have hz := rt_bl hE hfit hv
        refine Or.inl ⟨p, i, rt_tot o.2, f, u, z, stv, e1, g1, x1, rt_nar (Or.inr (Or.inl ⟨rfl, hz⟩)), ?_⟩
        have := kk (.inl (κ o.1, rt_tot o.2, .inl (upd f u.toNatClampNeg z))) (Or.inl ⟨a2, _, rfl⟩) (by
          show (if u.toNatClampNeg < rt_tot o.2 then some (Value.int (upd f u.toNatClampNeg z u.toNatClampNeg)) else none) = _
          rw [if_pos hlt, rt_upd_at, if_pos rfl]) (fun i' hi' => by
          show (if i' < rt_tot o.2 then some (Value.int (upd f u.toNatClampNeg z i')) else none) = (if i' < rt_tot o.2 then some (Value.int (f i')) else none)
          rw [rt_upd_at, if_neg hi'])
        rw [et] at this
        exact this
      · cases hfit
    · rw [et] at hfit g1
      rcases x with x | x
      · obtain ⟨z, rfl, -⟩ := id hv
        have hfit : rt_is (rt_E S) (.inl x) (.inl (-128, 127)) = true := hfit
        have hz := rt_bl hE hfit hv
        refine Or.inr ⟨p, i, rt_tot o.2, f, u, z, stv, e1, g1, x1, rt_nar (Or.inr (Or.inr ⟨rfl, hz⟩)), ?_⟩
        have := kk (.inl (κ o.1, rt_tot o.2, .inl (upd f u.toNatClampNeg z))) (Or.inl ⟨a2, _, rfl⟩) (by
          show (if u.toNatClampNeg < rt_tot o.2 then some (Value.int (upd f u.toNatClampNeg z u.toNatClampNeg)) else none) = _
          rw [if_pos hlt, rt_upd_at, if_pos rfl]) (fun i' hi' => by
          show (if i' < rt_tot o.2 then some (Value.int (upd f u.toNatClampNeg z i')) else none) = (if i' < rt_tot o.2 then some (Value.int (f i')) else none)
          rw [rt_upd_at, if_neg hi'])
        rw [et] at this
        exact this
      · cases hfit
  · omega
  · omega
theorem rk_mm {f : ri_I → ri_I → Option ri_I} {g : Int32 → Int32 → Int32} (hf : ∀ {τ : List Int} {lm : List Int64} {x y z : ri_I} {u v : Int32}, rt_okE (rt_E S) τ lm → f x y = some z → rt_gI τ x u → rt_gI τ y v → rt_gI τ z (g u v)) (h : rt_mm f r S = some L) (hr : rt_rl KK κ K ad ws0 Φ t0 S a) : rc_mm g r a (fun b => ∃ S' ∈ L, rt_rl KK κ K ad ws0 Φ t0 S' b) := by
  obtain ⟨c1, h⟩ := ri_cond h rfl
  rw [ri_len_eq] at c1
  have c1 := Nat.le_of_ble_eq_true c1
  have hlen : a.2.2.1.length = (rt_st S).length := by
    obtain ⟨τ, ν, lm, hpc, hh, hN, hL, hS, hO⟩ := hr
    exact rt_gS_len hS
  obtain ⟨u, v, st, e1, k⟩ := rk_bin hf h hr
  refine ⟨u, v, st, e1, ?_, k⟩
  rw [e1] at hlen
  have hlen : st.length + 1 + 1 = (rt_st S).length := hlen
  omega
theorem rt_maxf_ok {E : List rt_B} (hE : rt_okE E τ lm) {x y z : ri_I} (h : rt_maxf E x y = some z) {u v : Int32} (hu : rt_gI τ x u) (hv : rt_gI τ y v) : rt_gI τ z (if u < v then v else u) := by
  unfold rt_maxf at h
  cases ha : rt_abs E x with
  | none => rw [ha] at h; cases h
  | some a =>
    cases hb : rt_abs E y with
    | none => rw [ha, hb] at h; cases h
    | some b =>
      rw [ha, hb] at h
      cases h
      have h1 := rt_abs_ok hE ha hu
      have h2 := rt_abs_ok hE hb hv
      refine rt_gI_0.mpr ?_
      rw [rt_max_le, rt_le_max]
      by_cases c : u < v
      · have := Int32.lt_iff_toInt_lt.mp c
        rw [if_pos c]
        omega
      · have : ¬ u.toInt < v.toInt := fun q => c (Int32.lt_iff_toInt_lt.mpr q)
        rw [if_neg c]
        omega
theorem rt_minf_ok {E : List rt_B} (hE : rt_okE E τ lm) {x y z : ri_I} (h : rt_minf E x y = some z) {u v : Int32} (hu : rt_gI τ x u) (hv : rt_gI τ y v) : rt_gI τ z (if v < u then v else u) := by
  unfold rt_minf at h
  cases ha : rt_abs E x with
  | none => rw [ha] at h; cases h
  | some a =>
    cases hb : rt_abs E y with
    | none => rw [ha, hb] at h; cases h
    | some b =>
      rw [ha, hb] at h
      cases h
      have h1 := rt_abs_ok hE ha hu
      have h2 := rt_abs_ok hE hb hv
      refine rt_gI_0.mpr ?_
      rw [rt_min_le, rt_le_min]
      by_cases c : v < u
      · have := Int32.lt_iff_toInt_lt.mp c
        rw [if_pos c]
        omega
      · have : ¬ v.toInt < u.toInt := fun q => c (Int32.lt_iff_toInt_lt.mpr q)
        rw [if_neg c]
        omega
theorem rt_absf_ok {E : List rt_B} (hE : rt_okE E τ lm) {x z : ri_I} (h : rt_absf E x = some z) {u : Int32} (hu : rt_gI τ x u) : rt_gI τ z (if 0 ≤ u then u else 0 - u) := by
  unfold rt_absf at h
  cases ha : rt_abs E x with
  | none => rw [ha] at h; cases h
  | some a =>
    rw [ha] at h
    cases h
    have h1 := rt_abs_ok hE ha hu
    cases c1 : ri_le a.1 ri_lo with
    | true => exact rt_gI_top τ _
    | false =>
      have c1 : ¬ a.1 ≤ ri_lo := fun q => by rw [ri_le_iff.mpr q] at c1; cases c1
      rw [cond_false]
      have e0 : (0 : Int32).toInt = 0 := rfl
      cases c2 : ri_le 0 a.1 with
      | true =>
        have c2 := ri_le_iff.mp c2
        rw [cond_true, if_pos (Int32.le_iff_toInt_le.mpr (by omega))]
        exact rt_gI_0.mpr h1
      | false =>
        rw [cond_false]
        refine rt_gI_0.mpr ?_
        rw [rt_le_max]
        by_cases c : (0 : Int32) ≤ u
        · have := Int32.le_iff_toInt_le.mp c
          rw [if_pos c]
          omega
        · have : ¬ 0 ≤ u.toInt := fun q => c (Int32.le_iff_toInt_le.mpr (by omega))
          rw [if_neg c, Int32.toInt_sub, e0]
          have hu32 := ri_i32 u
          rw [ri_bm (by unfold ri_lo at *; omega) (by unfold ri_lo ri_hi at *; omega)]
          show 0 ≤ 0 - u.toInt ∧ (0 - u.toInt ≤ -a.1 ∨ _)
          omega
theorem rk_ab (h : cond (Nat.ble (ri_len (rt_st S)) 8) (rt_un (rt_absf (rt_E S)) r S) none = some L) (hr : rt_rl KK κ K ad ws0 Φ t0 S a) : rc_ab r a (fun b => ∃ S' ∈ L, rt_rl KK κ K ad ws0 Φ t0 S' b) := by
  obtain ⟨c1, h⟩ := ri_cond h rfl
  rw [ri_len_eq] at c1
  have c1 := Nat.le_of_ble_eq_true c1
  have hlen : a.2.2.1.length = (rt_st S).length := by
    obtain ⟨τ, ν, lm, hpc, hh, hN, hL, hS, hO⟩ := hr
    exact rt_gS_len hS
  obtain ⟨u, st, e1, k⟩ := rk_un (g := fun u => if 0 ≤ u then u else 0 - u) (fun hE hz gu => rt_absf_ok hE hz gu) h hr
  refine ⟨u, st, e1, ?_, k⟩
  rw [e1] at hlen
  have hlen : st.length + 1 = (rt_st S).length := hlen
  omega
end RT49
