/-! Runs are sound -/
section RT62
variable {l : Launch} {D : va_G} {KK : List (List rt_K)} {κ : Nat → ClassId} {K ad : List Nat} {Φ : Nat → Int → va_W → Prop} {MX : rt_X} {CS : List rt_Co} {SP : rt_SP} {ws0 : va_W} {t0 : Int}
theorem rt_spn_ok {S : rt_S} {k : Nat} {x : ri_I} {a : rc_C} (hx : (rt_lo S)[k]? = some (some (.inl x))) {τ : List Int} {ν : List Nat} {lm : List Int64} (hpc : a.1 = S.1) (hh : rt_hp KK κ K ad ws0 Φ t0 S.2.1.1 S.2.1.2 a.2.2.2) (hN : rt_okN K ad S.2.2.1 τ ν lm) (hL : rt_gL τ ν lm K ad (rt_lo S) a.2.1) (hS : rt_gS τ ν lm K ad (rt_st S) a.2.2.1) (hO : ∀ o ∈ rt_ov S, rt_gO τ ν lm K ad a.2.2.2 o) {z : Int32} (hz : a.2.1[k]? = some (some (.int z))) (gz : rt_gI τ x z) : ∀ (n : Nat) (c : Int), c ≤ z.toInt → z.toInt < c + n → ∃ S' ∈ rt_spn S k x n c, rt_rl KK κ K ad ws0 Φ t0 S' a
  | 0, c, h1, h2 => by omega
  | n + 1, c, h1, h2 => by
    have e0 : rt_spn S k x (n + 1) c = (match (generalizing := false) rt_req (rt_E S) x (0, c, c) with
      | none => rt_spn S k x n (c + 1)
      | some E => (S.1, S.2.1, (E, S.2.2.1.2), ri_set (some (.inl (0, c, c))) (rt_lo S) k, rt_st S, rt_ov S) :: rt_spn S k x n (c + 1)) := rfl
    rw [e0]
    rcases (show c = z.toInt ∨ c + 1 ≤ z.toInt by omega) with hc | hc
    · obtain ⟨E', e1, e2⟩ := rt_req_ok hN.1 gz (rt_gI_0.mpr ⟨by omega, by omega⟩ : rt_gI τ (0, c, c) z) rfl
      rw [e1]
      refine ⟨_, List.mem_cons_self, τ, ν, lm, hpc, hh, ⟨e2, hN.2⟩, ?_, hS, hO⟩
      intro i v hv
      have hv : (ri_set (some (.inl (0, c, c))) (rt_lo S) k)[i]? = some (some v) := hv
      rw [ri_set_eq] at hv
      by_cases hik : k = i
      · subst hik
        rw [List.getElem?_set_self (List.getElem?_eq_some_iff.mp hx).1] at hv
        cases hv
        exact ⟨.int z, hz, z, rfl, rt_gI_0.mpr ⟨by omega, by omega⟩⟩
      · rw [List.getElem?_set_ne hik] at hv
        exact hL i v hv
    · obtain ⟨S', g1, g2⟩ := rt_spn_ok hx hpc hh hN hL hS hO hz gz n (c + 1) hc (by omega)
      cases rt_req (rt_E S) x (0, c, c) with
      | none => exact ⟨S', g1, g2⟩
      | some E => exact ⟨S', List.mem_cons_of_mem _ g1, g2⟩
theorem rt_spl_ok {S : rt_S} {k : Nat} {a : rc_C} {L : List rt_S} (h : rt_spl k S = some L) (hr : rt_rl KK κ K ad ws0 Φ t0 S a) : ∃ S' ∈ L, rt_rl KK κ K ad ws0 Φ t0 S' a := by
  unfold rt_spl at h
  rw [ri_nth_eq] at h
  cases hv : (rt_lo S)[k]? with
  | none => rw [hv] at h; cases h
  | some o =>
    rw [hv] at h
    rcases o with _ | x | x
    · cases h
    · have h : (match (generalizing := false) rt_abs (rt_E S) x with
        | some b => some (rt_spn S k x (Int.toNat (Int.add (Int.sub b.2 b.1) 1)) b.1)
        | none => none) = some L := h
      cases hb : rt_abs (rt_E S) x with
      | none => rw [hb] at h; cases h
      | some b =>
        rw [hb] at h
        cases h
        obtain ⟨τ, ν, lm, hpc, hh, hN, hL, hS, hO⟩ := hr
        obtain ⟨v, e1, z, rfl, gz⟩ := hL k _ hv
        have hb2 := rt_abs_ok hN.1 hb gz
        refine rt_spn_ok hv hpc hh hN hL hS hO e1 gz _ _ hb2.1 ?_
        have : (Int.add (Int.sub b.2 b.1) 1) = b.2 - b.1 + 1 := rfl
        rw [this]
        omega
    · cases h
set_option maxHeartbeats 1000000 in
theorem rt_run_ok (hcx : rt_ctx KK K ad Φ) (hMC : rt_MCok l D κ SP.2) (hMX : rt_MXok KK κ K ad Φ MX) (hCS : ∀ C ∈ CS, rt_Con l D KK κ K ad Φ C) : ∀ (n : Nat), rt_Snd l D KK κ K ad Φ (rt_run KK MX CS SP n) := by
  intro n
  induction n with
  | zero => intro d mi cuts first kc kr S h; cases h
  | succ n ih =>
    intro d mi cuts first kc kr S h hd y cc nL ret hm hn p e s m args below meth c ws B Qv had ws0 t0 a hr hkc hkr
    have h : cond (cond first false (rt_memN cuts S.1)) (kc S) (match (generalizing := false) rt_fd3 SP.2 mi S.1 with
      | some nx => rt_mac KK (rt_run KK MX CS SP n d mi cuts false kc kr) d nx S
      | none => (match (generalizing := false) rt_fd3 SP.1 mi S.1 with
        | none => rt_bdy KK MX CS (rt_run KK MX CS SP n) d mi cuts kc kr S
        | some k => rt_all (rt_bdy KK MX CS (rt_run KK MX CS SP n) d mi cuts kc kr) (rt_spl k S))) = true := h
    have key : ∀ S1, rt_bdy KK MX CS (rt_run KK MX CS SP n) d mi cuts kc kr S1 = true → rt_rl KK κ K ad ws0 Φ t0 S1 a → rc_AB p l e s m args below meth c nL D ws (MQ below (rc_Q D ws s.heap.size Qv) args s 0 0 (va_A ws s.heap.size)) d a := by
      intro S1 h1 hr1
      unfold rt_bdy at h1
      cases hf : ri_fetch mt mi S1.1 with
      | none => rw [hf] at h1; cases h1
      | some r =>
        rw [hf] at h1
        have h1 : rt_bd1 KK MX CS (rt_run KK MX CS SP n) d mi cuts kc kr r S1 = true := h1
        unfold rt_bd1 at h1
        have hrow := (tab_all mi y cc nL ret hm).2.2.2.2.2 S1.1 r hf
        have hpc : a.1 = S1.1 := by
          obtain ⟨_, _, _, q, -⟩ := hr1
          exact q
        have stp : rt_all (rt_run KK MX CS SP n d mi cuts false kc kr) (rt_step KK r S1) = true → rc_AB p l e s m args below meth c nL D ws (MQ below (rc_Q D ws s.heap.size Qv) args s 0 0 (va_A ws s.heap.size)) d a := fun h2 => by
          obtain ⟨L, e1, e2⟩ := rt_all_ok h2
          rcases hrow with hnop | hrow
          · obtain ⟨i, len, x, z, v⟩ := r
            have hnop : i = .nop := hnop
            subst hnop
            cases e1
          · have w2 := rc_wp_gh hrow hn (rt_step_ok hcx hrow e1 hr1)
            obtain ⟨hx, hb, hml, hown, hnm, hts, hK, hN, -, -, -⟩ := id B
            refine rc_sound co_all ao_all hx hb hml hown hnm hts hK hd (show 100 ≤ 100 * d by omega) (by rw [hpc]; exact hrow) w2 (fun b hb => ?_)
            obtain ⟨⟨S', hS', hrl⟩, hg⟩ := hb
            exact ih d mi cuts false kc kr S' (e2 S' hS') hd y cc nL ret hm hn p e s m args below meth c ws B Qv had ws0 t0 b hrl (fun S'' b' k1 k2 k3 => hkc S'' b' k1 k2 (rc_gh_tr hg k3)) (fun v S'' b' ov k1 k2 k3 k4 k5 => hkr v S'' b' ov k1 k2 k3 k4 (rc_gh_tr hg k5))
        have had' : ri_ad a.2.2.2 = ri_ad ws := by
          obtain ⟨_, _, _, -, q, -⟩ := hr1
          rw [q.1, had]
        obtain ⟨i, len, x, z, v⟩ := r
        rcases hc : rt_cls i with _ | _ | _ | _ | _ | k
        · have h1 : (match (generalizing := false) rt_cls i with
            | 0 => rt_all (rt_run KK MX CS SP n d mi cuts false kc kr) (rt_step KK (i, len, x, z, v) S1)
            | 1 => rt_reti kr (i, len, x, z, v) S1
            | 2 => rt_retl kr S1
            | 3 => rt_retv kr S1
            | 4 => rt_calV KK MX CS (rt_run KK MX CS SP n) d mi cuts kc kr (i, len, x, z, v) S1
            | _ => cond (Nat.beq x 2) (rt_all (rt_run KK MX CS SP n d mi cuts false kc kr) (rt_step KK (i, len, x, z, v) S1)) (rt_calS KK MX CS (rt_run KK MX CS SP n) d mi cuts kc kr (i, len, x, z, v) S1)) = true := h1
          rw [hc] at h1
          exact stp h1
        · have := rt_cls_1 hc
          subst this
          have h1 : rt_reti kr (.ireturn, len, x, z, v) S1 = true := h1
          rcases hrow with hnop | ⟨hdc, hop⟩
          · cases hnop
          · obtain ⟨rfl, hop⟩ : len = 1 ∧ ((x = 0 ∧ ret = some .int) ∨ (x = 1 ∧ ret = some .boolean)) := hop
            unfold rt_reti at h1
            rcases hst : rt_st S1 with _ | ⟨sv, _ | ⟨sv2, sr⟩⟩
            · rw [hst] at h1; cases h1
            · rw [hst] at h1
              rcases sv with xi | sv
              · obtain ⟨c1, h2⟩ := rt_cnd h1
                obtain ⟨τ, ν, lm, q1, q2, q3, q4, q5, q6⟩ := id hr1
                rw [hst] at q5
                obtain ⟨w0, m0, e1, ⟨zz, rfl, gz⟩, e3⟩ := rt_gS_cons q5
                have := rt_gS_nil e3
                subst this
                have hQ := hkr (some (.inl xi)) S1 a (some (.int zz)) h2 (by rw [hst]; rfl) (by rw [e1]; rfl) hr1 (rc_gh_rf a)
                rw [← hpc] at hdc
                rcases hop with ⟨rfl, rfl⟩ | ⟨rfl, rfl⟩
                · exact rc_reti B hdc e1 had' hQ
                · have hz := rt_is_ok (K := K) (ad := ad) (ν := ν) (T := .inl (0, 1)) q3.1 (show rt_is (rt_E S1) (.inl xi) (.inl (0, 1)) = true from c1) (⟨zz, rfl, gz⟩ : rt_gV τ ν lm K ad (.inl xi) (.int zz))
                  obtain ⟨z2, ez, h3, h4⟩ := hz
                  cases ez
                  have hz01 : zz = 0 ∨ zz = 1 := by
                    have h3 : (0 : Int) ≤ zz.toInt := h3
                    have h4 : zz.toInt ≤ 1 := h4
                    rcases (show zz.toInt = 0 ∨ zz.toInt = 1 by omega) with g | g
                    · exact Or.inl (Int32.toInt_inj.mp g)
                    · exact Or.inr (Int32.toInt_inj.mp g)
                  exact rc_retz B hz01 hdc e1 had' hQ
              · cases h1
            · rw [hst] at h1
              rcases sv with xi | sv
              · cases h1
              · cases h1
        · have := rt_cls_2 hc
          subst this
          have h1 : rt_retl kr S1 = true := h1
          rcases hrow with hnop | ⟨hdc, hop⟩
          · cases hnop
          · obtain ⟨rfl, rfl⟩ : len = 1 ∧ ret = some .long := hop
            unfold rt_retl at h1
            rcases hst : rt_st S1 with _ | ⟨sv, _ | ⟨sv2, sr⟩⟩
            · rw [hst] at h1; cases h1
            · rw [hst] at h1
              rcases sv with xi | q | _ | t
              · cases h1
              · cases h1
              · cases h1
              · obtain ⟨τ, ν, lm, q1, q2, q3, q4, q5, q6⟩ := id hr1
                rw [hst] at q5
                obtain ⟨w0, m0, e1, ⟨zz, rfl, gz⟩, e3⟩ := rt_gS_cons q5
                have := rt_gS_nil e3
                subst this
                have hQ := hkr (some (.inr (.inr (some t)))) S1 a (some (.long zz)) h1 (by rw [hst]; rfl) (by rw [e1]; rfl) hr1 (rc_gh_rf a)
                rw [← hpc] at hdc
                exact rc_retl B hdc e1 had' hQ
            · rw [hst] at h1
              rcases sv with xi | q | _ | t
              · cases h1
              · cases h1
              · cases h1
              · cases h1
        · have := rt_cls_3 hc
          subst this
          have h1 : rt_retv kr S1 = true := h1
          rcases hrow with hnop | ⟨hdc, hop⟩
          · cases hnop
          · obtain ⟨rfl, rfl⟩ : len = 1 ∧ ret = none := hop
            unfold rt_retv at h1
            rcases hst : rt_st S1 with _ | ⟨sv, sr⟩
            · rw [hst] at h1
              obtain ⟨τ, ν, lm, q1, q2, q3, q4, q5, q6⟩ := id hr1
              rw [hst] at q5
              have e1 := rt_gS_nil q5
              have hQ := hkr none S1 a none h1 (by rw [hst]; rfl) (by rw [e1]; rfl) hr1 (rc_gh_rf a)
              rw [← hpc] at hdc
              exact rc_retv B hdc e1 had' hQ
            · rw [hst] at h1
              cases h1
        · obtain ⟨j, rfl⟩ := rt_cls_4 hc
          have h1 : rt_calV KK MX CS (rt_run KK MX CS SP n) d mi cuts kc kr (.invokevirtual j, len, x, z, v) S1 = true := h1
          rcases hrow with hnop | hrow
          · cases hnop
          · obtain ⟨hlen, yy, cc', nL', ret', ci, T, N, np, y1, y2, -, -, -, -, -, y8, -⟩ := id hrow.2
            have hlen : len = 3 := hlen
            subst hlen
            have y2 : x = ci + 4 := y2
            subst y2
            have y8 : v = ((np + 1 : Nat) : Int) := y8
            subst y8
            unfold rt_calV at h1
            rcases d with _ | _ | d2
            · cases h1
            · cases h1
            · have h1 : (match (generalizing := false) rt_take (np + 1) (rt_st S1) [] with
                | some (.inr (.inl q0) :: as, rest) => (match (generalizing := false) rt_kd KK S1.2.1.1 q0.1 with
                  | some (.inl o) => cond (Nat.beq (Nat.add o.1 4) (ci + 4)) (rt_calB KK MX CS (rt_run KK MX CS SP n) (Nat.succ d2) (d2 + 2) mi cuts kc kr z (.inr (.inl q0) :: as) rest S1) false
                  | _ => false)
                | _ => false) = true := h1
              rcases htk : rt_take (np + 1) (rt_st S1) [] with _ | ⟨_ | ⟨_ | q0 | _, as⟩, rest⟩
              · rw [htk] at h1; cases h1
              · rw [htk] at h1; cases h1
              · rw [htk] at h1; cases h1
              · rw [htk] at h1
                have h1 : (match (generalizing := false) rt_kd KK S1.2.1.1 q0.1 with
                  | some (.inl o) => cond (Nat.beq (Nat.add o.1 4) (ci + 4)) (rt_calB KK MX CS (rt_run KK MX CS SP n) (Nat.succ d2) (d2 + 2) mi cuts kc kr z (.inr (.inl q0) :: as) rest S1) false
                  | _ => false) = true := h1
                rcases hcl : rt_kd KK S1.2.1.1 q0.1 with _ | o | o
                · rw [hcl] at h1; cases h1
                · rw [hcl] at h1
                  obtain ⟨c1, h2⟩ := rt_cnd h1
                  have c1 : o.1 + 4 = ci + 4 := Nat.eq_of_beq_eq_true c1
                  obtain ⟨ci', fs⟩ := o
                  have c1 : ci' + 4 = ci + 4 := c1
                  have c1 : ci' = ci := by omega
                  subst c1
                  obtain ⟨τ, ν, lm, -, hh, hN, hL, hS, hO⟩ := hr1
                  obtain ⟨top, rst, e1, e2, e3, e4⟩ := rt_take_ok (accv := []) _ htk hS trivial
                  rw [List.append_nil] at e4
                  obtain ⟨w0, As, e5, g0, hAs⟩ := rt_gS_cons e4
                  obtain ⟨qb, rfl, hkb, -⟩ := id g0
                  have etop : top = As.reverse ++ [.ref qb] := by
                    have := congrArg List.reverse e5
                    simpa using this
                  have hAl : As.length = np := by
                    rw [etop] at e2
                    simpa using e2
                  obtain ⟨kb, eb, kd, k1, k2, k3, k4⟩ := rt_cell hcx hh hkb
                  have : kd = .inl (ci', fs) := Option.some.inj (k3.symm.trans hcl)
                  subst this
                  obtain ⟨vb, rfl, -⟩ := k4.1
                  have hvs : rt_gS τ ν lm K ad (.inr (.inl q0) :: as) (.ref qb :: As) := by
                    rw [← e5]
                    exact e4
                  have hrow' : ri_rowOK mT y cc nL ret a.1 (.invokevirtual j, 3, ci' + 4, z, ((np + 1 : Nat) : Int)) := by
                    rw [hpc]
                    exact hrow
                  exact rt_calB_ok hcx hMX hCS ih (by omega) (by omega) h2 hm hn B had hpc hh hN hL hO e3 hvs (fun hd0 hl4 met hpre kk => rc_call B (As := As) (rst := rst) (qb := qb) (kb := kb) (vb := vb) hd0 hrow' (by rw [e1, etop]; simp) hAl hl4 k1 met hpre kk) hkc hkr
                · rw [hcl] at h1; cases h1
              · rw [htk] at h1; cases h1
        · obtain ⟨j, rfl⟩ := rt_cls_5 hc
          have h1 : cond (Nat.beq x 2) (rt_all (rt_run KK MX CS SP n d mi cuts false kc kr) (rt_step KK (.invokestatic j, len, x, z, v) S1)) (rt_calS KK MX CS (rt_run KK MX CS SP n) d mi cuts kc kr (.invokestatic j, len, x, z, v) S1) = true := h1
          cases hx2 : Nat.beq x 2 with
          | true =>
            rw [hx2] at h1
            exact stp h1
          | false =>
            rw [hx2] at h1
            have h1 : rt_calS KK MX CS (rt_run KK MX CS SP n) d mi cuts kc kr (.invokestatic j, len, x, z, v) S1 = true := h1
            have hx2 : ¬ x = 2 := fun g => by
              subst g
              cases hx2
            rcases hrow with hnop | hrow
            · cases hnop
            · obtain ⟨hlen, ho⟩ := id hrow.2
              have hlen : len = 3 := hlen
              subst hlen
              rcases ho with ⟨e0, -⟩ | ⟨e0, yy, cc', nL', ret', np, y1, -, -, -, y8, -⟩
              · exact absurd e0 hx2
              · have y8 : v = (np : Int) := y8
                subst y8
                unfold rt_calS at h1
                rcases d with _ | _ | d2
                · cases h1
                · cases h1
                · have h1 : (match (generalizing := false) rt_take np (rt_st S1) [] with
                    | some q => rt_calB KK MX CS (rt_run KK MX CS SP n) (Nat.succ d2) (d2 + 2) mi cuts kc kr z q.1 q.2 S1
                    | none => false) = true := h1
                  cases htk : rt_take np (rt_st S1) [] with
                  | none => rw [htk] at h1; cases h1
                  | some q =>
                    rw [htk] at h1
                    obtain ⟨as, rest⟩ := q
                    obtain ⟨τ, ν, lm, -, hh, hN, hL, hS, hO⟩ := hr1
                    obtain ⟨top, rst, e1, e2, e3, e4⟩ := rt_take_ok (accv := []) _ htk hS trivial
                    rw [List.append_nil] at e4
                    have hrow' : ri_rowOK mT y cc nL ret a.1 (.invokestatic j, 3, x, z, (np : Int)) := by
                      rw [hpc]
                      exact hrow
                    exact rt_calB_ok hcx hMX hCS ih (by omega) (by omega) h1 hm hn B had hpc hh hN hL hO e3 e4 (fun hd0 hl4 met hpre kk => rc_callS B (As := top.reverse) (rst := rst) hd0 hx2 hrow' (by rw [e1, List.reverse_reverse]) (by rw [List.length_reverse, e2]) hl4 met hpre kk) hkc hkr
    cases hcut : cond first false (rt_memN cuts S.1) with
    | true =>
      rw [hcut] at h
      exact hkc S a h hr (rc_gh_rf a)
    | false =>
      rw [hcut] at h
      have h : (match (generalizing := false) rt_fd3 SP.2 mi S.1 with
        | some nx => rt_mac KK (rt_run KK MX CS SP n d mi cuts false kc kr) d nx S
        | none => (match (generalizing := false) rt_fd3 SP.1 mi S.1 with
          | none => rt_bdy KK MX CS (rt_run KK MX CS SP n) d mi cuts kc kr S
          | some k => rt_all (rt_bdy KK MX CS (rt_run KK MX CS SP n) d mi cuts kc kr) (rt_spl k S))) = true := h
      cases h2 : rt_fd3 SP.2 mi S.1 with
      | some nx =>
        rw [h2] at h
        have h : rt_mac KK (rt_run KK MX CS SP n d mi cuts false kc kr) d nx S = true := h
        unfold rt_mac at h
        obtain ⟨c1, h4⟩ := rt_cnd h
        obtain ⟨c3, h5⟩ := rt_cnd h4
        have c1 := Nat.le_of_ble_eq_true c1
        have c3 := Nat.le_of_ble_eq_true c3
        rw [ri_len_eq] at c3
        clear h h4
        obtain ⟨τ, ν, lm, r1, r2, r3, r4, r5, r6⟩ := id hr
        have hsl : a.2.2.1.length ≤ 2 := by
          have := rt_gS_length r5
          omega
        have hmc := hMC mi S.1 nx h2 y cc nL ret hm p e s m args below meth c ws B (MQ below (rc_Q D ws s.heap.size Qv) args s 0 0 (va_A ws s.heap.size)) d a c1 r1 hsl
        have go : ∀ (pc : Nat) (x : ri_I) (z : Int32), rt_gI τ x z → rt_run KK MX CS SP n d mi cuts false kc kr (pc, S.2.1, S.2.2.1, rt_lo S, .inl x :: rt_st S, rt_ov S) = true → rc_AB p l e s m args below meth c nL D ws (MQ below (rc_Q D ws s.heap.size Qv) args s 0 0 (va_A ws s.heap.size)) d (pc, a.2.1, .int z :: a.2.2.1, a.2.2.2) := fun pc x z gz h6 => ih d mi cuts false kc kr _ h6 hd y cc nL ret hm hn p e s m args below meth c ws B Qv had ws0 t0 (pc, a.2.1, .int z :: a.2.2.1, a.2.2.2) ⟨τ, ν, lm, rfl, r2, r3, r4, ⟨⟨z, rfl, gz⟩, r5⟩, r6⟩ (fun S' b h1 h2 h3 => hkc S' b h1 h2 h3) (fun v S' b ov h1 h2 h3 h4 h5 => hkr v S' b ov h1 h2 h3 h4 h5)
        have top : ∀ z : Int32, rt_gI τ ri_top z := fun z => by
          have b0 := Int32.le_toInt z
          have b1 := Int32.toInt_lt z
          exact rt_gI_0.mpr ⟨by show (-2147483648 : Int) ≤ z.toInt; omega, by show z.toInt ≤ (2147483647 : Int); omega⟩
        rcases nx with _ | _ | nx
        · have h5 : rt_mac0 KK (rt_run KK MX CS SP n d mi cuts false kc kr) S = true := h5
          unfold rt_mac0 at h5
          rcases hlo : rt_lo S with _ | ⟨_ | _ | q | _, lr⟩
          · rw [hlo] at h5; cases h5
          · rw [hlo] at h5; cases h5
          · rw [hlo] at h5; cases h5
          · rw [hlo] at h5
            have h5 : (match (generalizing := false) rt_kd KK S.2.1.1 q.1 with
              | some (.inl o) => cond (Nat.beq o.1 4) (match (generalizing := false) ri_nth o.2 5 with
                | some f => (match (generalizing := false) f.2 with
                  | .inl _ => rt_run KK MX CS SP n d mi cuts false kc kr (171, S.2.1, S.2.2.1, some (.inr (.inl q)) :: lr, .inl ri_top :: rt_st S, rt_ov S)
                  | .inr _ => false)
                | none => false) false
              | _ => false) = true := h5
            rcases hkd : rt_kd KK S.2.1.1 q.1 with _ | o | o
            · rw [hkd] at h5; cases h5
            · rw [hkd] at h5
              obtain ⟨c2, h6⟩ := rt_cnd h5
              have c2 := Nat.eq_of_beq_eq_true c2
              rw [ri_nth_eq] at h6
              rcases hf : o.2[5]? with _ | ⟨fl, T | T⟩
              · rw [hf] at h6; cases h6
              · rw [hf] at h6
                have h6 : rt_run KK MX CS SP n d mi cuts false kc kr (171, S.2.1, S.2.2.1, some (.inr (.inl q)) :: lr, .inl ri_top :: rt_st S, rt_ov S) = true := h6
                rw [← hlo] at h6
                have hL0 : rt_gL τ ν lm K ad (some (.inr (.inl q)) :: lr) a.2.1 := by
                  rw [← hlo]
                  exact r4
                obtain ⟨v0, l1, qb, rfl, l2, l3⟩ := hL0 0 _ rfl
                obtain ⟨kb, eb, kd, k1, k2, k3, k4⟩ := rt_cell hcx r2 l2
                have : kd = .inl o := Option.some.inj (k3.symm.trans hkd)
                subst this
                obtain ⟨vb, hvb, -⟩ := k4.1
                rw [hvb] at k1 k4
                obtain ⟨u, u1, z, u2, -⟩ := k4.2 5 (fl, .inl T) (by
                  show ri_nth o.2 5 = _
                  rw [ri_nth_eq]
                  exact hf)
                have u1 : vb[5]? = some u := u1
                rw [u2] at u1
                rw [c2] at k1
                exact hmc ⟨qb, kb, vb, z, l1, k1, u1⟩ (fun z => go 171 ri_top z (top z) h6)
              · rw [hf] at h6; cases h6
            · rw [hkd] at h5; cases h5
          · rw [hlo] at h5; cases h5
        · exact hmc (go 14 (0, 151, 151) 151 (rt_gI_0.mpr ⟨by decide, by decide⟩) h5)
        · have h5 : rt_mac2 (rt_run KK MX CS SP n d mi cuts false kc kr) S = true := h5
          unfold rt_mac2 at h5
          rw [ri_nth_eq] at h5
          rcases hv : (rt_lo S)[5]? with _ | _ | x | _
          · rw [hv] at h5; cases h5
          · rw [hv] at h5; cases h5
          · rw [hv] at h5
            have h5 : (match (generalizing := false) rt_abs (rt_E S) x with
              | some a => cond (ri_le 0 a.1) (cond (ri_le a.2 150) (rt_run KK MX CS SP n d mi cuts false kc kr (24, S.2.1, S.2.2.1, rt_lo S, .inl ri_top :: rt_st S, rt_ov S)) false) false
              | none => false) = true := h5
            cases hb : rt_abs (rt_E S) x with
            | none => rw [hb] at h5; cases h5
            | some b =>
              rw [hb] at h5
              obtain ⟨d1, h6⟩ := rt_cnd h5
              obtain ⟨d2, h7⟩ := rt_cnd h6
              have d1 := ri_le_iff.mp d1
              have d2 := ri_le_iff.mp d2
              obtain ⟨v, e1, z, rfl, gz⟩ := r4 5 _ hv
              have hb2 := rt_abs_ok r3.1 hb gz
              exact hmc ⟨z, e1, by omega, by omega⟩ (fun z => go 24 ri_top z (top z) h7)
          · rw [hv] at h5; cases h5
      | none =>
        rw [h2] at h
        have h : (match (generalizing := false) rt_fd3 SP.1 mi S.1 with
          | none => rt_bdy KK MX CS (rt_run KK MX CS SP n) d mi cuts kc kr S
          | some k => rt_all (rt_bdy KK MX CS (rt_run KK MX CS SP n) d mi cuts kc kr) (rt_spl k S)) = true := h
        cases h3 : rt_fd3 SP.1 mi S.1 with
        | none =>
          rw [h3] at h
          exact key S h hr
        | some k =>
          rw [h3] at h
          obtain ⟨L, e1, e2⟩ := rt_all_ok h
          obtain ⟨S', g1, g2⟩ := rt_spl_ok e1 hr
          exact key S' (e2 S' g1) g2
end RT62
