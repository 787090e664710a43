/-! System.arraycopy, switches; a step of the typed interpreter is a step of the machine -/
section RT50
variable {τ τ' : List Int} {ν ν' : List Nat} {lm lm' : List Int64} {K ad : List Nat} {ws ws0 : va_W} {KK : List (List rt_K)} {κ : Nat → ClassId} {Φ : Nat → Int → va_W → Prop} {t0 : Int} {g s : Nat} {r : ri_R} {S : rt_S} {a : rc_C} {L : List rt_S}
/-- a cell with new contents -/
theorem rt_hp_new (hcx : rt_ctx KK K ad Φ) (hh : rt_hp KK κ K ad ws0 Φ t0 g s ws) {k0 k q : Nat} {e e' : va_E} {kd : rt_K} (hK : K[k0]? = some k) (hw : ws[k0]? = some (q, e)) (hkd : rt_kd KK g k = some kd) (hC : rt_gC κ K ad kd e') (hfl : ∀ j f, rt_sT kd j = some f → ¬ f.1 = 0 → rt_sl e' j = rt_sl e j) : rt_hp KK κ K ad ws0 Φ t0 g s (ws.set k0 (q, e')) := by
  obtain ⟨had, hH, hA, hF⟩ := hh
  have had' : ri_ad (ws.set k0 (q, e')) = ad := by rw [ri_ad_set hw]; exact had
  have hk0 := (List.getElem?_eq_some_iff.mp hw).1
  have at0 : (ws.set k0 (q, e'))[k0]? = some (q, e') := by rw [List.getElem?_set, if_pos rfl, if_pos hk0]
  have atn : ∀ i, k0 ≠ i → (ws.set k0 (q, e'))[i]? = ws[i]? := fun i hi => by rw [List.getElem?_set, if_neg hi]
  refine ⟨had', fun i k' hi => ?_, fun i k' j' kd' f' hi hkd' hf' hfl' => ?_, hcx.1 g _ ws _ had had' (fun i k' j' kd' f' hi hkd' hf' hfl' => ?_) hF⟩
  · by_cases ei : k0 = i
    · subst ei
      have : k' = k := Option.some.inj (hi.symm.trans hK)
      subst this
      exact ⟨q, e', kd, at0, hkd, hC⟩
    · rw [atn i ei]
      exact hH i k' hi
  · obtain ⟨q1, q0, e1, e0, a1, a2, a3⟩ := hA i k' j' kd' f' hi hkd' hf' hfl'
    by_cases ei : k0 = i
    · subst ei
      have c0 := Option.some.inj (a1.symm.trans hw)
      cases c0
      have : k' = k := Option.some.inj (hi.symm.trans hK)
      subst this
      have : kd' = kd := Option.some.inj (hkd'.symm.trans hkd)
      subst this
      have hfl' : f'.1 = 1 := hfl'
      exact ⟨q, q0, e', e0, at0, a2, by rw [hfl j' f' hf' (by omega)]; exact a3⟩
    · exact ⟨q1, q0, e1, e0, by rw [atn i ei]; exact a1, a2, a3⟩
  · obtain ⟨q1, e1, kd1, a1, a2, a3⟩ := hH i k' hi
    by_cases ei : k0 = i
    · subst ei
      have c0 := Option.some.inj (a1.symm.trans hw)
      cases c0
      have : k' = k := Option.some.inj (hi.symm.trans hK)
      subst this
      have : kd' = kd := Option.some.inj (hkd'.symm.trans hkd)
      subst this
      exact ⟨q, q, e', e, at0, hw, hfl j' f' hf' hfl'⟩
    · exact ⟨q1, q1, e1, e1, by rw [atn i ei]; exact a1, a1, rfl⟩
theorem rt_seg1 {n : Nat} {f f' : rt_F} {j : Nat} (h : rt_sg [(n, f)] j = some f') : f' = f ∧ j < n := by
  have h : cond (Nat.blt j n) (some f) none = some f' := h
  obtain ⟨c1, h⟩ := ri_cond h rfl
  cases h
  exact ⟨rfl, rt_blt.mp c1⟩
theorem rt_seg1i {n : Nat} {f : rt_F} {j : Nat} (h : j < n) : rt_sg [(n, f)] j = some f := by
  show cond (Nat.blt j n) (some f) none = some f
  rw [rt_blt.mpr h]
  rfl
theorem rk_acp (hcx : rt_ctx KK K ad Φ) (h : rt_acp KK r S = some L) (hr : rt_rl KK κ K ad ws0 Φ t0 S a) : rc_acp κ r a (fun b => ∃ S' ∈ L, rt_rl KK κ K ad ws0 Φ t0 S' b) := by
  obtain ⟨τ, ν, lm, hpc, hh, hN, hL, hS, hO⟩ := hr
  unfold rt_acp at h
  rcases hst : rt_st S with _ | ⟨n | y, _ | ⟨dp | y, _ | ⟨y | b | y, _ | ⟨sp | y, _ | ⟨y | q | y, st⟩⟩⟩⟩⟩
  all_goals first | (rw [hst] at h; cases h; done) | skip
  rw [hst] at h hS
  obtain ⟨_, m1, e1, ⟨un, rfl, gn⟩, hS1⟩ := rt_gS_cons hS
  obtain ⟨_, m2, rfl, ⟨ud, rfl, gd⟩, hS2⟩ := rt_gS_cons hS1
  obtain ⟨_, m3, rfl, ⟨pb, rfl, hkb, hnb⟩, hS3⟩ := rt_gS_cons hS2
  obtain ⟨_, m4, rfl, ⟨us, rfl, gs⟩, hS4⟩ := rt_gS_cons hS3
  obtain ⟨_, stv, rfl, ⟨pa, rfl, hka, hna⟩, hS5⟩ := rt_gS_cons hS4
  obtain ⟨ia, ea, kda, a1, a2, a3, a4⟩ := rt_cell hcx hh hka
  obtain ⟨ib, eb, kdb, b1, b2, b3, b4⟩ := rt_cell hcx hh hkb
  obtain ⟨c0, h⟩ := ri_cond h rfl
  rw [ri_len_eq] at c0
  have c0 := Nat.le_of_ble_eq_true c0
  rw [a3, b3] at h
  rcases kda with o | ⟨ta, _ | ⟨⟨na, fa⟩, _ | ⟨x, la⟩⟩⟩
  · cases h
  · cases h
  · rcases kdb with o | ⟨tb, _ | ⟨⟨nb, fb⟩, _ | ⟨x, lb⟩⟩⟩
    · cases h
    · cases h
    · rcases hn : rt_ix (rt_E S) n 100000 with _ | ⟨i, j⟩
      · rw [hn] at h; cases h
      · rw [hn] at h
        obtain ⟨d1, h⟩ := ri_cond h rfl
        obtain ⟨d2, h⟩ := ri_cond h rfl
        obtain ⟨d3, h⟩ := ri_cond h rfl
        obtain ⟨d4, h⟩ := ri_cond h rfl
        obtain ⟨d5, h⟩ := ri_cond h rfl
        rcases hd : rt_ix (rt_E S) dp 1 with _ | ⟨i2, j2⟩
        · rw [hd] at h; cases h
        · rw [hd] at h
          rcases hs : rt_ix (rt_E S) sp 1 with _ | ⟨i3, j3⟩
          · rw [hs] at h; cases h
          · rw [hs] at h
            obtain ⟨fla, Ta⟩ := fa
            obtain ⟨flb, Tb⟩ := fb
            rcases Ta with A | A
            · rcases Tb with B | B
              · obtain ⟨d6, h⟩ := ri_cond h rfl
                obtain ⟨d7, h⟩ := ri_cond h rfl
                obtain ⟨d8, h⟩ := ri_cond h rfl
                obtain ⟨d9, h⟩ := ri_cond h rfl
                cases h
                have d1 : ta = tb := Nat.eq_of_beq_eq_true d1
                subst d1
                have d2 : ta ≤ 1 := Nat.le_of_ble_eq_true d2
                have d3 : i = j := Nat.eq_of_beq_eq_true d3
                have d4 : j ≤ na := Nat.le_of_ble_eq_true d4
                have d5 : j ≤ nb := Nat.le_of_ble_eq_true d5
                have d6 : flb = 0 := Nat.eq_of_beq_eq_true d6
                have d7 : B.1 ≤ A.1 := ri_le_iff.mp d7
                have d8 : A.2 ≤ B.2 := ri_le_iff.mp d8
                obtain ⟨n1, n2, n3, n4, n5⟩ := rt_ix_ok hN.1 hn gn
                obtain ⟨s1, s2, s3, s4, s5⟩ := rt_ix_ok hN.1 hs gs
                obtain ⟨p1, p2, p3, p4, p5⟩ := rt_ix_ok hN.1 hd gd
                have en : un.toNatClampNeg = j := by omega
                have es : us.toNatClampNeg = 0 := by omega
                have ed : ud.toNatClampNeg = 0 := by omega
                obtain ⟨sa, va⟩ := a4
                obtain ⟨sb, vb⟩ := b4
                rcases sa with ⟨-, f, rfl⟩ | ⟨u3, -⟩ | ⟨u4, -⟩
                · rcases sb with ⟨-, gg, rfl⟩ | ⟨u3, -⟩ | ⟨u4, -⟩
                  · have fA : ∀ k, k < na → A.1 ≤ (f k).toInt ∧ (f k).toInt ≤ A.2 := fun k hk => by
                      obtain ⟨w, w1, z, rfl, w2, w3⟩ := va k (fla, .inl A) (rt_seg1i hk)
                      have w1 : (if k < rt_tot [(na, (fla, (Sum.inl A : rt_T)))] then some (Value.int (f k)) else none) = some (.int z) := w1
                      rw [if_pos (show k < rt_tot [(na, (fla, (Sum.inl A : rt_T)))] from hk)] at w1
                      cases w1
                      exact ⟨w2, w3⟩
                    have hnn : ∀ {u : Int32} {N : Nat}, vp_in u N → ¬ u < 0 := fun hu q => hu (Or.inl q)
                    refine ⟨pa, pb, ia, ib, na, nb, ta, f, gg, us, ud, un, stv, e1, ?_, d2, a1, b1, hnn s1, hnn p1, hnn n1, by omega, by omega, fun k hk => ?_, ?_⟩
                    · have := rt_gS_len hS5
                      omega
                    · rw [es, Nat.zero_add]
                      rcases (show ta = 0 ∨ ta = 1 by omega) with rfl | rfl
                      · rfl
                      · have d9 : cond (ri_le 0 A.1) (ri_le A.2 1) false = true := d9
                        cases q1 : ri_le 0 A.1 with
                        | false => rw [q1] at d9; cases d9
                        | true =>
                          rw [q1] at d9
                          have q1 := ri_le_iff.mp q1
                          have q2 : A.2 ≤ 1 := ri_le_iff.mp d9
                          have := fA k (by omega)
                          rcases (show (f k).toInt = 0 ∨ (f k).toInt = 1 by omega) with q | q
                          · have e0 : f k = 0 := ri_is q rfl
                            rw [e0]
                            decide +kernel
                          · have e0 : f k = 1 := ri_is q rfl
                            rw [e0]
                            decide +kernel
                    · refine ⟨_, List.mem_singleton.mpr rfl, τ, ν, lm, by show a.1 + r.2.1 = S.1 + r.2.1; rw [hpc], rt_hp_new hcx hh b2 b1 b3 ⟨Or.inl ⟨by omega, _, rfl⟩, fun k f' hf' => ?_⟩ (fun k f' hf' hfl' => ?_), hN, hL, hS5, fun o ho => ?_⟩
                      · obtain ⟨rfl, hk⟩ := rt_seg1 hf'
                        obtain ⟨w, w1, z, rfl, w2, w3⟩ := vb k (flb, .inl B) (rt_seg1i hk)
                        have w1 : (if k < rt_tot [(nb, (flb, (Sum.inl B : rt_T)))] then some (Value.int (gg k)) else none) = some (.int z) := w1
                        rw [if_pos (show k < rt_tot [(nb, (flb, (Sum.inl B : rt_T)))] from hk)] at w1
                        cases w1
                        refine ⟨.int (va_cpy f gg us.toNatClampNeg ud.toNatClampNeg un.toNatClampNeg k), ?_, _, rfl, ?_⟩
                        · show (if k < nb then some (Value.int (va_cpy f gg us.toNatClampNeg ud.toNatClampNeg un.toNatClampNeg k)) else none) = _
                          rw [if_pos hk]
                        · show B.1 ≤ (va_cpy f gg us.toNatClampNeg ud.toNatClampNeg un.toNatClampNeg k).toInt ∧ (va_cpy f gg us.toNatClampNeg ud.toNatClampNeg un.toNatClampNeg k).toInt ≤ B.2
                          rw [es, ed, en]
                          by_cases hkn : k < j
                          · have := fA k (by omega)
                            simp only [va_cpy, Nat.zero_le, true_and, Nat.zero_add, Nat.sub_zero, if_pos hkn]
                            omega
                          · simp only [va_cpy, Nat.zero_le, true_and, Nat.zero_add, if_neg hkn]
                            exact ⟨w2, w3⟩
                      · obtain ⟨rfl, hk⟩ := rt_seg1 hf'
                        exact absurd d6 hfl'
                      · obtain ⟨m1', m2'⟩ := rt_fil_mem ho
                        exact rt_gO_oth hcx hh.1 hN.2.1 b2 b1 (hO o m1') m2'
                  · have u3 : ta = 3 := u3
                    omega
                  · have u4 : 4 ≤ ta := u4
                    omega
                · have u3 : ta = 3 := u3
                  omega
                · have u4 : 4 ≤ ta := u4
                  omega
              · cases h
            · cases h
    · cases h
  · cases h
/-- the states of a switch -/
theorem rt_tsl_e {x : ri_I} {st : List rt_V} {e : List rt_S} {S' : rt_S} (h : S' ∈ e) : ∀ (l : List Int) (c : Int), S' ∈ rt_tsl S x st e l c
  | [], _ => h
  | _ :: l, c => rt_opt_mem (rt_tsl_e h l (Int.add c 1))
theorem rt_tsl_ok (hE : rt_okE (rt_E S) τ lm) {x : ri_I} {st : List rt_V} {e : List rt_S} {u : Int32} (hu : rt_gI τ x u) : ∀ (l : List Int) (c : Int) (k : Nat) (o : Int), l[k]? = some o → u.toInt = c + (k : Int) → ∃ E', rt_okE E' τ lm ∧ ((Int.toNat (Int.add (.ofNat S.1) o), S.2.1, (E', rt_R S, rt_L S), rt_lo S, st, rt_ov S) : rt_S) ∈ rt_tsl S x st e l c
  | [], c, k, o, h, _ => by simp at h
  | o' :: l, c, 0, o, h, hk => by
    cases h
    obtain ⟨E', e1, e2⟩ := rt_req_ok hE hu (y := (0, c, c)) (v := u) (rt_gI_0.mpr (by omega)) rfl
    refine ⟨E', e2, ?_⟩
    show _ ∈ rt_opt S _ st (rt_req (rt_E S) x (0, c, c)) _
    rw [e1]
    exact rt_opt_here
  | o' :: l, c, k + 1, o, h, hk => by
    obtain ⟨E', e1, e2⟩ := rt_tsl_ok hE hu l (Int.add c 1) k o (by simpa using h) (by
      show u.toInt = c + 1 + (k : Int)
      omega)
    exact ⟨E', e1, rt_opt_mem e2⟩
theorem rk_tsw {d lo hi : Int} {offs : Array Int} (h : rt_tsw d lo hi offs S = some L) (hr : rt_rl KK κ K ad ws0 Φ t0 S a) : ∃ (u : Int32) (st : List Value), a.2.2.1 = .int u :: st ∧ (((u.toInt < lo ∨ hi < u.toInt) ∧ ∃ S' ∈ L, rt_rl KK κ K ad ws0 Φ t0 S' (Int.toNat ((a.1 : Int) + d), a.2.1, st, a.2.2.2)) ∨ (¬ u.toInt < lo ∧ ¬ hi < u.toInt ∧ ∃ o, offs[(u.toInt - lo).toNat]? = some o ∧ ∃ S' ∈ L, rt_rl KK κ K ad ws0 Φ t0 S' (Int.toNat ((a.1 : Int) + o), a.2.1, st, a.2.2.2))) := by
  obtain ⟨τ, ν, lm, hpc, hh, hN, hL, hS, hO⟩ := hr
  unfold rt_tsw at h
  rcases hst : rt_st S with _ | ⟨x | x, st⟩
  all_goals first | (rw [hst] at h; cases h; done) | skip
  rw [hst] at h hS
  obtain ⟨c1, h⟩ := ri_cond h rfl
  cases h
  rw [ri_len_eq] at c1
  have c1 : hi - lo < (offs.toList.length : Int) := ri_lt_iff.mp c1
  obtain ⟨_, stv, e1, ⟨u, rfl, gu⟩, hS1⟩ := rt_gS_cons hS
  refine ⟨u, stv, e1, ?_⟩
  by_cases hin : u.toInt < lo ∨ hi < u.toInt
  · refine Or.inl ⟨hin, (Int.toNat (Int.add (.ofNat S.1) d), S.2.1, S.2.2.1, rt_lo S, st, rt_ov S), rt_tsl_e ?_ _ _, τ, ν, lm, by rw [hpc]; rfl, hh, hN, hL, hS1, hO⟩
    have : rt_isin x lo hi = false := by
      cases q : rt_isin x lo hi with
      | false => rfl
      | true =>
        unfold rt_isin at q
        cases q1 : Nat.beq x.1 0 with
        | false => rw [q1] at q; cases q
        | true =>
          cases q2 : rt_ex x with
          | false => rw [q1, q2] at q; cases q
          | true =>
            cases q3 : ri_le lo x.2.1 with
            | false => rw [q1, q2, q3] at q; cases q
            | true =>
              rw [q1, q2, q3] at q
              have q1 := Nat.eq_of_beq_eq_true q1
              have q3 := ri_le_iff.mp q3
              have q4 := ri_le_iff.mp q
              obtain ⟨b, b1, b2, b3⟩ := gu
              rw [q1] at b1
              cases b1
              omega
    rw [this]
    exact List.mem_singleton.mpr rfl
  · have h1 : ¬ u.toInt < lo := fun q => hin (Or.inl q)
    have h2 : ¬ hi < u.toInt := fun q => hin (Or.inr q)
    have hlt : (u.toInt - lo).toNat < offs.toList.length := by omega
    have hlt' : (u.toInt - lo).toNat < offs.size := by simpa using hlt
    obtain ⟨E', e2, e3⟩ := rt_tsl_ok (st := st) (e := cond (rt_isin x lo hi) [] [((Int.toNat (Int.add (.ofNat S.1) d), S.2.1, S.2.2.1, rt_lo S, st, rt_ov S) : rt_S)]) hN.1 gu offs.toList lo (u.toInt - lo).toNat _ (List.getElem?_eq_getElem hlt) (by omega)
    refine Or.inr ⟨h1, h2, offs.toList[(u.toInt - lo).toNat], ?_, _, e3, τ, ν, lm, by rw [hpc]; rfl, hh, ⟨e2, hN.2⟩, hL, hS1, hO⟩
    rw [Array.getElem?_eq_getElem hlt']
    simp
theorem rt_lsl_ok (hN : rt_okN K ad S.2.2.1 τ ν lm) {x : ri_I} {st : List rt_V} {d : Int} {u : Int32} (hu : rt_gI τ x u) : ∀ (l : List (Int × Int)), ∃ E', rt_okE E' τ lm ∧ ((Int.toNat (Int.add (.ofNat S.1) (Op.lookupswitch.offset l d u.toInt)), S.2.1, (E', rt_R S, rt_L S), rt_lo S, st, rt_ov S) : rt_S) ∈ rt_lsl S x st [(Int.toNat (Int.add (.ofNat S.1) d), S.2.1, S.2.2.1, rt_lo S, st, rt_ov S)] l
  | [] => ⟨rt_E S, hN.1, by rw [Op.lookupswitch.offset_nil]; exact List.mem_singleton.mpr rfl⟩
  | q :: l => by
    rw [Op.lookupswitch.offset_cons]
    split
    · rename_i hq
      obtain ⟨E', e1, e2⟩ := rt_req_ok hN.1 hu (y := (0, q.1, q.1)) (v := u) (rt_gI_0.mpr (by omega)) rfl
      refine ⟨E', e2, ?_⟩
      show _ ∈ rt_opt S _ st (rt_req (rt_E S) x (0, q.1, q.1)) _
      rw [show rt_E S = S.2.2.1.1 from rfl, e1]
      exact rt_opt_here
    · obtain ⟨E', e1, e2⟩ := rt_lsl_ok hN hu l
      exact ⟨E', e1, rt_opt_mem e2⟩
theorem rk_lsw {d : Int} {ps : Array (Int × Int)} (h : rt_lsw d ps S = some L) (hr : rt_rl KK κ K ad ws0 Φ t0 S a) : ∃ (u : Int32) (st : List Value), a.2.2.1 = .int u :: st ∧ ∃ S' ∈ L, rt_rl KK κ K ad ws0 Φ t0 S' (Int.toNat ((a.1 : Int) + Op.lookupswitch.offset ps.toList d u.toInt), a.2.1, st, a.2.2.2) := by
  obtain ⟨τ, ν, lm, hpc, hh, hN, hL, hS, hO⟩ := hr
  unfold rt_lsw at h
  rcases hst : rt_st S with _ | ⟨x | x, st⟩
  all_goals first | (rw [hst] at h; cases h; done) | skip
  rw [hst] at h hS
  cases h
  obtain ⟨_, stv, e1, ⟨u, rfl, gu⟩, hS1⟩ := rt_gS_cons hS
  obtain ⟨E', e2, e3⟩ := rt_lsl_ok (st := st) (d := d) hN gu ps.toList
  exact ⟨u, stv, e1, _, e3, τ, ν, lm, by rw [hpc]; rfl, hh, ⟨e2, hN.2⟩, hL, hS1, hO⟩
set_option maxHeartbeats 4000000 in
/-- one step -/
theorem rt_step_ok {mT : List ri_MT} {y : MethodName} {cc : ByteArray} {nL : Nat} {ret : Option FieldType} (hcx : rt_ctx KK K ad Φ) (hrow : ri_rowOK mT y cc nL ret S.1 r) (h : rt_step KK r S = some L) (hr : rt_rl KK κ K ad ws0 Φ t0 S a) : rc_wp κ r a (fun b => ∃ S' ∈ L, rt_rl KK κ K ad ws0 Φ t0 S' b) := by
  obtain ⟨hd, ho⟩ := hrow
  obtain ⟨i, len, x, z, v⟩ := r
  cases i
  all_goals first | (cases h; done) | skip
  case aaload => exact rk_aald hcx h hr
  case aload j => exact rk_aload h hr
  case aload_n j => exact rk_aload h hr
  case arraylength => exact rk_alen hcx h hr
  case astore j => exact rk_astore h hr
  case astore_n j => exact rk_astore h hr
  case baload => exact rk_bald hcx h hr
  case bastore => exact rk_bast hcx h hr
  case bipush n =>
    obtain ⟨-, h2⟩ : len = 2 ∧ ((Int8.ofInt n).toInt32).toInt = v := ho
    exact rk_push h h2 hr
  case dup => exact rk_dup h hr
  case dup_x1 => exact rk_dupx1 h hr
  case dup2 => exact rk_dup2 h hr
  case getfield j => exact rk_getf hcx h hr
  case goto o => exact rk_goto h hr
  case i2b => exact rk_un (g := fun u => u.toInt8.toInt32) (fun hE hz gu => rt_i2b_ok hE hz gu) h hr
  case i2c => exact rk_un (f := fun _ => some ri_top) (g := fun u => (u.toUInt32 % 65536).toInt32) (fun hE hz gu => by cases hz; exact rt_gI_top _ _) h hr
  case i2l => exact rk_i2l h hr
  case iadd => exact rk_bin (g := fun u v => u + v) (fun hE hz gu gv => rt_add_ok hE hz gu gv) h hr
  case iaload => exact rk_iald hcx (by omega) h hr
  case iand => exact rk_and h hr
  case iastore => exact rk_iast hcx (by omega) h hr
  case iconst n =>
    obtain ⟨-, h2⟩ : len = 1 ∧ (Int32.ofInt n).toInt = v := ho
    exact rk_push h h2 hr
  case idiv => exact rk_bin0 (g := fun u v => u / v) (fun hE hz gu gv => rt_div_ok hE hz gu gv) h hr
  case if_icmp cnd o => exact rk_icmp h hr
  case ifCond cnd o => exact rk_if h hr
  case iinc j n =>
    obtain ⟨-, -, -, h3⟩ : len = 3 ∧ j = x ∧ x < nL ∧ (Int32.ofInt n).toInt = v := ho
    exact rk_iinc h h3 hr
  case iload j => exact rk_iload h hr
  case iload_n j => exact rk_iload h hr
  case imul => exact rk_bin (g := fun u v => u * v) (fun hE hz gu gv => rt_mul_ok hE hz gu gv) h hr
  case ineg => exact rk_un (g := fun u => -u) (fun hE hz gu => rt_neg_ok hE hz gu) h hr
  case invokestatic j =>
    obtain ⟨c1, h⟩ := ri_cond h rfl
    have c1 : x = 2 := Nat.eq_of_beq_eq_true c1
    refine ⟨c1, ?_⟩
    rcases z with _ | _ | _ | _ | z
    · exact Or.inl ⟨rfl, rk_acp hcx h hr⟩
    · exact Or.inr (Or.inl ⟨rfl, rk_mm (g := fun u v => if u < v then v else u) (fun hE hz gu gv => rt_maxf_ok hE hz gu gv) h hr⟩)
    · exact Or.inr (Or.inr (Or.inl ⟨rfl, rk_mm (g := fun u v => if v < u then v else u) (fun hE hz gu gv => rt_minf_ok hE hz gu gv) h hr⟩))
    · exact Or.inr (Or.inr (Or.inr ⟨rfl, rk_ab h hr⟩))
    · cases h
  case ior => exact rk_bin (f := fun _ _ => some ri_top) (g := fun u v => u ||| v) (fun hE hz gu gv => by cases hz; exact rt_gI_top _ _) h hr
  case irem => exact rk_bin0 (g := fun u v => u - u / v * v) (fun hE hz gu gv => rt_rem_ok hE hz gv) h hr
  case ishl => exact rk_bin (f := fun _ _ => some ri_top) (g := fun u v => u <<< (v &&& 31)) (fun hE hz gu gv => by cases hz; exact rt_gI_top _ _) h hr
  case ishr => exact rk_bin (f := fun _ _ => some ri_top) (g := fun u v => u >>> (v &&& 31)) (fun hE hz gu gv => by cases hz; exact rt_gI_top _ _) h hr
  case istore j => exact rk_istore h hr
  case istore_n j => exact rk_istore h hr
  case isub => exact rk_bin (g := fun u v => u - v) (fun hE hz gu gv => rt_sub_ok hE hz gu gv) h hr
  case iushr => exact rk_bin (f := fun _ _ => some ri_top) (g := fun u v => (u.toUInt32 >>> (v.toUInt32 &&& Int32.toUInt32 31)).toInt32) (fun hE hz gu gv => by cases hz; exact rt_gI_top _ _) h hr
  case ladd => exact rk_lbin h hr
  case laload => exact rk_lald hcx h hr
  case lastore => exact rk_last hcx h hr
  case lcmp => exact rk_lcmp h hr
  case lconst n =>
    have hz : ∀ d, (some (Int.ofNat (n : Nat)) : Option Int) = some d → (Int64.ofNat (n : Nat)).toInt = d := fun d hd => by
      cases hd
      obtain ⟨k, hk⟩ := n
      rcases (show k = 0 ∨ k = 1 by omega) with rfl | rfl
      · show (Int64.ofNat 0).toInt = 0
        decide
      · show (Int64.ofNat 1).toInt = 1
        decide
    exact rk_lpush h hz hr
  case ldc j =>
    obtain ⟨-, w, -, h2⟩ : len = 2 ∧ ∃ w : Int32, Cond.constant y.cls j w ∈ gU ∧ w.toInt = v := ho
    exact rk_push h h2 hr
  case ldc_w j =>
    obtain ⟨-, w, -, h2⟩ : len = 3 ∧ ∃ w : Int32, Cond.constant y.cls j w ∈ gU ∧ w.toInt = v := ho
    exact rk_push h h2 hr
  case ldc2_w j => exact fun w hw => rk_lpush h (fun d hd => by cases hd; exact hw) hr
  case lload j => exact rk_lload h hr
  case lload_n j => exact rk_lload h hr
  case lmul => exact rk_lbin h hr
  case lookupswitch d ps => exact rk_lsw h hr
  case lor => exact rk_lbin h hr
  case lshl => exact rk_lshl h hr
  case lstore j => exact rk_lstore h hr
  case lstore_n j => exact rk_lstore h hr
  case pop => exact rk_pop h hr
  case putfield j =>
    obtain ⟨-, C, T, N, ty, h1, h2, h3, h4, h5, h6⟩ : len = 3 ∧ ∃ (C : String) (T : u_T) (N : Nat) (ty : FieldType), vwCl[x]? = some (C, T, N) ∧ z < N ∧ Cond.fieldLink y.cls j (T z).1 (T z).2.1 (T z).2.2.1 ∈ gU ∧ parseFieldDescriptor (T z).2.2.1 = some ty ∧ ri_fty v ty ∧ ((T z).2.2.2 = false ∨ ((T z).2.2.2 = true ∧ y.name = "<init>" ∧ (T z).1 = y.cls)) := ho
    refine rk_putf hcx ?_ h hr
    rcases h5 with ⟨q, -⟩ | ⟨q, -⟩ | ⟨q, -⟩ | ⟨q, -⟩
    · exact Or.inl q
    · exact Or.inr (Or.inl q)
    · exact Or.inr (Or.inr (Or.inl q))
    · exact Or.inr (Or.inr (Or.inr q))
  case sipush n =>
    obtain ⟨-, h2⟩ : len = 3 ∧ ((Int16.ofInt n).toInt32).toInt = v := ho
    exact rk_push h h2 hr
  case tableswitch d lo hi offs => exact rk_tsw h hr
end RT50
