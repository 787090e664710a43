theorem lw_sw (v : Int32) : (v &&& 63).toInt < 37 ∧ 0 ≤ (v &&& 63).toInt ∨ 36 < (v &&& 63).toInt := by
  have h : 0 ≤ (v &&& 63).toInt := by
    have e : (v &&& 63).toInt = ((v &&& 63).toBitVec.toNat : Int) := by
      have hlt : (v &&& 63).toBitVec.toNat ≤ 63 := by
        show (v.toBitVec &&& (63 : Int32).toBitVec).toNat ≤ 63
        rw [BitVec.toNat_and]
        exact Nat.and_le_right
      show (v &&& 63).toBitVec.toInt = _
      rw [BitVec.toInt_eq_toNat_of_lt (by omega)]
    omega
  omega
set_option maxHeartbeats 4000000 in
set_option maxRecDepth 10000 in
/-- YOUR PART: from the entry, for every script of at most 6 ints, the law comes to its end with true -/
theorem whole_start {p : Program} {e : Env} {s : State} {m : MethodId} {below : List Frame} {meth : Method} {c : Code} (l : Launch) {b L : Nat} {xs : Nat → Int32} (hL : L ≤ 6) (C0 : lw_At p s m meth c b L xs) : W p l e room_1 s m #[Value.ref b] below meth c s.heap [] 0 0 (lw_Z below #[Value.ref b] s) (entryFrame m ([Value.ref b] : List Value).toArray 4) := by
  obtain ⟨hx, hb, hr, hml, hown, hts0, hX, hbl, hlocks, hgv⟩ := id C0
  have hts : ∀ w ∈ gU, w.before #[Value.ref b] s = true := fun w hw => hts0 w (List.mem_filter.mp hw).1
  obtain ⟨D, κ, hK, hN⟩ := lw_world hts0
  have hA : ∀ q : Nat, s.heap.size ≤ q → (fun q : Nat => s.heap.size ≤ q) q := fun _ h => h
  have hbA : ¬ (fun q : Nat => s.heap.size ≤ q) b := Nat.not_le.mpr hbl
  have hS : va_S (fun q : Nat => s.heap.size ≤ q) s.heap s.heap [] := va_S.rf
  have hP0 : va_P D vwCl [] s.heap := fun k q h => by simp at h
  have hD0 : va_D (fun q : Nat => s.heap.size ≤ q) [] := ⟨fun i j p q h => by simp at h, fun k q h => by simp at h⟩
  have hl := lv_entry ([.ref b]) (n := 4) (Nat.le_of_ble_eq_true rfl)
  rw [lg_entry_eq]
  generalize (lg_sl ([.ref b]) ++ List.replicate (4 - (lg_sl ([.ref b])).length) Slot.unset).toArray = ls at hl ⊢
  have hl : lv_has ls 4 [(0, .ref b)] := hl
  -- new CableStreet
  obtain ⟨g1, g2, g3, ty0, df, g4, g5, g6, g7, g8⟩ := co_all 11 RX11 TX11 11 rfl
  refine va_new (Ts := gU) (ci := 11) (fs := (List.range 11).map fun j => defaultValue (ty0 j)) hx hb hts g1 ty0 g4 hown (hts _ cw_23) (hts _ g2) (hts _ g3) hK hP0 hD0 hS hA rfl (fun j hj => by simp [vp_V, hj]) (by decide) (by decide) dL_law_0 (fun qx H1 hP1 hD1 hS1 => ?_)
  have hH1 : ri_gH (fun _ => 0) κ [.inl (11, ri_dX)] ([] ++ [(qx, .inr (11, (List.range 11).map fun j => defaultValue (ty0 j)))]) := ⟨rfl, fun k c hk => by
    cases k with
    | zero =>
      cases hk
      have edf : df = ri_dX := Option.some.inj (g6.symm.trans rfl)
      subst edf
      exact ⟨qx, _, rfl, _, rfl, rfl, fun i a ha => by
        have hi : i < 11 := by rw [← g7]; exact (List.getElem?_eq_some_iff.mp ha).1
        exact ⟨_, by simp [hi], g8 i a ha _ _⟩⟩
    | succ k => simp at hk⟩
  refine lv_dup hx hb dL_law_3 rfl ?_
  refine ri_callR (va_runI (Ts := gU) (b := qx) (As := []) (rest := [.ref qx]) (n := 0) ⟨hx, hb, hml, hown, hts⟩ (ri_made ctX (fun q hq => by rw [mT_52] at hq; cases hq; exact Nat.le_of_ble_eq_true rfl) l H1.size mT_52 hH1 rfl) ⟨callB_of 0 hts (gU_in cw_27 gU (fun _ g => g)) rfl rfl rfl (hts _ g3) (hts _ cw_25) yk_52 ⟨by show 21 ≤ 2048; decide, by show 8 + (2 + 11) + 2000 ≤ 84000; decide⟩, rfl, hts _ cw_26⟩ ⟨fun a U g mk q => by
    obtain ⟨q0, q1, qP, qK, qD, qN⟩ := q
    exact ⟨q0, q1, qP, va_K.moved (u := U) (U := U.calling g mk a) (Vm.Alike.refl U.vm) qK, qD, ri_N_same rfl qN⟩, fun U hU hW => ⟨rfl, by rw [hU], by rw [hU]; exact hP1, va_K.moved hW.alike hK, hD1.weaken (fun _ _ _ _ => trivial), ri_N_warm hW hN⟩⟩ rfl rfl hl.1 rfl (lv_room (Nat.le_of_ble_eq_true rfl)) dL_law_4 ⟨by decide, by decide⟩) (fun v st₀ t0 Lf h0 hLf hQ => ?_)
  obtain ⟨⟨wsX, ev, hHX, hadX, hPX, hDX⟩, hF⟩ := hQ
  cases ev
  have hFc : ∀ x, va_A ([] ++ [(qx, .inr (11, (List.range 11).map fun j => defaultValue (ty0 j)))]) H1.size x → s.heap.size ≤ x := fun x hx0 => by
    rcases hx0 with ⟨k, e0, hk⟩ | hx0
    · exact hD1.2 k _ hk
    · exact Nat.le_trans hS1.1 hx0
  have hS2 := ri_S_after hS1 hF h0 hFc hLf
  have hDX2 : va_D (fun q : Nat => s.heap.size ≤ q) wsX := hDX.weaken (fun _ _ _ g => hFc _ g)
  have hqx : (ri_ad wsX)[0]? = some qx := by
    obtain ⟨tl, etl⟩ := hadX
    rw [← etl]
    rfl
  generalize t0.heap = H2 at hPX hS2 ⊢
  refine lv_astore_n (lv' := [(1, .ref qx), (0, .ref b)]) hx hb dL_law_7 rfl hl (by decide) rfl (fun ls hl => ?_)
  -- new CableStreetModel
  obtain ⟨k1, k2, k3, ty1, df1, k4, k5, k6, k7, k8⟩ := co_all 12 RX12 TX12 113 rfl
  refine va_new (Ts := gU) (ci := 12) (fs := (List.range 113).map fun j => defaultValue (ty1 j)) hx hb hts k1 ty1 k4 hown (hts _ cw_1372) (hts _ k2) (hts _ k3) hK hPX hDX2 hS2 hA rfl (fun j hj => by simp [vp_V, hj]) (by decide) (by decide) dL_law_8 (fun qm H3 hP3 hD3 hS3 => ?_)
  generalize hfs : ((List.range 113).map fun j => defaultValue (ty1 j)) = fs1 at hP3 hD3
  have hP3m : va_P D vwCl [(qm, .inr (12, fs1))] H3 := fun k q hk => by
    cases k with
    | zero =>
      cases hk
      exact hP3 wsX.length _ (by simp)
    | succ k => simp at hk
  have hD3m : va_D (fun q : Nat => s.heap.size ≤ q) [(qm, .inr (12, fs1))] := ⟨fun i j u v hi hj _ => by
    have h1 : i < 1 := (List.getElem?_eq_some_iff.mp hi).1
    have h2 : j < 1 := (List.getElem?_eq_some_iff.mp hj).1
    omega, fun k q hk => by
    cases k with
    | zero =>
      cases hk
      exact hD3.2 wsX.length _ (by simp)
    | succ k => simp at hk⟩
  have hP3x : va_P D vwCl wsX H3 := fun k q hk => hP3 k q (by rw [List.getElem?_append_left (List.getElem?_eq_some_iff.mp hk).1]; exact hk)
  have hnx : ∀ (k : Nat) (q : Nat × va_E), wsX[k]? = some q → q.1 ≠ qm := fun k q hk e0 => by
    have hlt := (List.getElem?_eq_some_iff.mp hk).1
    have := hD3.1 k wsX.length q (qm, .inr (12, fs1)) (by rw [List.getElem?_append_left hlt]; exact hk) (by simp) e0
    omega
  have hH3 : ri_gH (fun _ => 0) κ [.inl (12, ri_dM)] [(qm, .inr (12, fs1))] := ⟨rfl, fun k c hk => by
    cases k with
    | zero =>
      cases hk
      have edf : df1 = ri_dM := Option.some.inj (k6.symm.trans rfl)
      subst edf
      refine ⟨qm, _, rfl, _, rfl, by rw [← hfs, k7]; simp, fun i a ha => ?_⟩
      have hi : i < 113 := by rw [← k7]; exact (List.getElem?_eq_some_iff.mp ha).1
      exact ⟨_, by rw [← hfs]; simp [hi], k8 i a ha _ _⟩
    | succ k => simp at hk⟩
  refine lv_dup hx hb dL_law_11 rfl ?_
  refine ri_callR (va_runI (Ts := gU) (b := qm) (As := []) (rest := [.ref qm]) (n := 0) ⟨hx, hb, hml, hown, hts⟩ (ri_made ctM (fun q hq => by rw [mT_92] at hq; cases hq; exact Nat.le_of_ble_eq_true rfl) l H3.size mT_92 hH3 rfl) ⟨callB_of 0 hts (gU_in cw_1376 gU (fun _ g => g)) rfl rfl rfl (hts _ k3) (hts _ cw_1374) yk_92 ⟨by show 21 ≤ 2048; decide, by show 8 + (2 + 11) + 2000 ≤ 84000; decide⟩, rfl, hts _ cw_1375⟩ ⟨fun a U g mk q => by
    obtain ⟨q0, q1, qP, qK, qD, qN⟩ := q
    exact ⟨q0, q1, qP, va_K.moved (u := U) (U := U.calling g mk a) (Vm.Alike.refl U.vm) qK, qD, ri_N_same rfl qN⟩, fun U hU hW => ⟨rfl, by rw [hU], by rw [hU]; exact hP3m, va_K.moved hW.alike hK, hD3m.weaken (fun _ _ _ _ => trivial), ri_N_warm hW hN⟩⟩ rfl rfl hl.1 rfl (lv_room (Nat.le_of_ble_eq_true rfl)) dL_law_12 ⟨by decide, by decide⟩) (fun v st₀ t1 Lf1 h01 hLf1 hQ1 => ?_)
  obtain ⟨⟨wsM, ev, hHM, hadM, hPM, hDM⟩, hF1⟩ := hQ1
  cases ev
  have hFc1 : ∀ x, va_A [(qm, .inr (12, fs1))] H3.size x → s.heap.size ≤ x := fun x hx0 => by
    rcases hx0 with ⟨k, e0, hk⟩ | hx0
    · exact hD3m.2 k _ hk
    · exact Nat.le_trans hS3.1 hx0
  have hS4 := ri_S_after hS3 hF1 h01 hFc1 hLf1
  have hqm : (ri_ad wsM)[0]? = some qm := by
    obtain ⟨tl, etl⟩ := hadM
    rw [← etl]
    rfl
  have hnot : ∀ (k : Nat) (q : Nat × va_E), wsX[k]? = some q → ¬ va_A [(qm, .inr (12, fs1))] H3.size q.1 := fun k q hk g => by
    rcases g with ⟨k', e0, hk'⟩ | g
    · cases k' with
      | zero =>
        have e1 : (qm, (.inr (12, fs1) : va_E)) = (q.1, e0) := Option.some.inj hk'
        exact hnx k q hk (congrArg Prod.fst e1).symm
      | succ k' => simp at hk'
    · have := (hP3x k q hk).lt
      omega
  have hPX4 : va_P D vwCl wsX t1.heap := hP3x.kept (fun k q hk => by
    have := hF1.2 q.1 (by rw [h01]; exact (hP3x k q hk).lt) (hnot k q hk)
    rw [this, h01])
  have hSt : lw_St s κ D hXc hMc wsX wsM qx qm t1.heap ([] ++ Lf ++ Lf1) := ⟨hHX, hHM, hPX4, hPM, hDX2, hDM.weaken (fun _ _ _ g => hFc1 _ g), fun i j u v hi hj e0 => hnot i u hi (by rw [e0]; exact hDM.2 j v hj), hqx, hqm, hS4⟩
  generalize t1.heap = H4 at hSt ⊢
  refine lv_astore_n (lv' := [(2, .ref qm), (1, .ref qx), (0, .ref b)]) hx hb dL_law_15 rfl hl (by decide) rfl (fun ls hl => ?_)
  refine lv_iconst (v := 0) hx hb dL_law_16 (by decide) ?_
  refine lv_istore_n (lv' := [(3, .int 0), (2, .ref qm), (1, .ref qx), (0, .ref b)]) hx hb dL_law_17 rfl hl (by decide) rfl (fun ls hl => ?_)
  have hl := lv_sub hl (l' := [(0, .ref b), (1, .ref qx), (2, .ref qm), (3, .int 0)]) [3, 2, 1, 0] rfl
  refine W.widen (k := 211) (n := 15503) (by decide) (by decide) ?_
  have hS5 := hSt.2.2.2.2.2.2.2.2.2
  refine lv_iload_n hx hb dL_law_18 rfl (lv_at hl 3 rfl) ?_
  refine lv_aload_n hx hb dL_law_19 rfl (lv_at hl 0 rfl) ?_
  refine va_slen hx hb hX hbl hbA hS5 dL_law_20 ?_
  refine lv_bipush (v := 6) hx hb dL_law_21 (by decide +kernel) ?_
  refine lv_isub hx hb dL_law_23 ?_
  refine lv_icmp_gt (tgt := 1243) hx hb dL_law_24 (by decide) (fun _ => ?_) (fun hgt => ?_)
  · refine lv_iconst (v := 1) hx hb dL_law_1243 (by decide) ?_
    refine va_forget (fun q hq => hS5.2.2 q hq) ?_
    refine W.widen (k := 600000) (n := 7302250) (by decide) (by decide) ?_
    exact lw_ret hx hb hr hlocks dL_law_1244
  · have hL6 : L = 6 := by
      rcases (show L = 0 ∨ L = 1 ∨ L = 2 ∨ L = 3 ∨ L = 4 ∨ L = 5 ∨ L = 6 by omega) with h | h | h | h | h | h | h
      all_goals first | exact h | (subst h; exact absurd (by decide +kernel) hgt)
    subst hL6
    refine lv_aload_n hx hb dL_law_27 rfl (lv_at hl 0 rfl) ?_
    refine lv_iload_n hx hb dL_law_28 rfl (lv_at hl 3 rfl) ?_
    refine va_sld hx hb hX hbl hbA hS5 vi_0 dL_law_29 ?_
    refine lv_bipush (v := 63) hx hb dL_law_30 (by decide +kernel) ?_
    refine lv_iand hx hb dL_law_32 ?_
    rcases lw_sw (xs ((0 : Int32).toNatClampNeg)) with hsw | hsw
    · rcases (show (xs ((0 : Int32).toNatClampNeg) &&& 63).toInt = 0 ∨ (xs ((0 : Int32).toNatClampNeg) &&& 63).toInt = 1 ∨ (xs ((0 : Int32).toNatClampNeg) &&& 63).toInt = 2 ∨ (xs ((0 : Int32).toNatClampNeg) &&& 63).toInt = 3 ∨ (xs ((0 : Int32).toNatClampNeg) &&& 63).toInt = 4 ∨ (xs ((0 : Int32).toNatClampNeg) &&& 63).toInt = 5 ∨ (xs ((0 : Int32).toNatClampNeg) &&& 63).toInt = 6 ∨ (xs ((0 : Int32).toNatClampNeg) &&& 63).toInt = 7 ∨ (xs ((0 : Int32).toNatClampNeg) &&& 63).toInt = 8 ∨ (xs ((0 : Int32).toNatClampNeg) &&& 63).toInt = 9 ∨ (xs ((0 : Int32).toNatClampNeg) &&& 63).toInt = 10 ∨ (xs ((0 : Int32).toNatClampNeg) &&& 63).toInt = 11 ∨ (xs ((0 : Int32).toNatClampNeg) &&& 63).toInt = 12 ∨ (xs ((0 : Int32).toNatClampNeg) &&& 63).toInt = 13 ∨ (xs ((0 : Int32).toNatClampNeg) &&& 63).toInt = 14 ∨ (xs ((0 : Int32).toNatClampNeg) &&& 63).toInt = 15 ∨ (xs ((0 : Int32).toNatClampNeg) &&& 63).toInt = 16 ∨ (xs ((0 : Int32).toNatClampNeg) &&& 63).toInt = 17 ∨ (xs ((0 : Int32).toNatClampNeg) &&& 63).toInt = 18 ∨ (xs ((0 : Int32).toNatClampNeg) &&& 63).toInt = 19 ∨ (xs ((0 : Int32).toNatClampNeg) &&& 63).toInt = 20 ∨ (xs ((0 : Int32).toNatClampNeg) &&& 63).toInt = 21 ∨ (xs ((0 : Int32).toNatClampNeg) &&& 63).toInt = 22 ∨ (xs ((0 : Int32).toNatClampNeg) &&& 63).toInt = 23 ∨ (xs ((0 : Int32).toNatClampNeg) &&& 63).toInt = 24 ∨ (xs ((0 : Int32).toNatClampNeg) &&& 63).toInt = 25 ∨ (xs ((0 : Int32).toNatClampNeg) &&& 63).toInt = 26 ∨ (xs ((0 : Int32).toNatClampNeg) &&& 63).toInt = 27 ∨ (xs ((0 : Int32).toNatClampNeg) &&& 63).toInt = 28 ∨ (xs ((0 : Int32).toNatClampNeg) &&& 63).toInt = 29 ∨ (xs ((0 : Int32).toNatClampNeg) &&& 63).toInt = 30 ∨ (xs ((0 : Int32).toNatClampNeg) &&& 63).toInt = 31 ∨ (xs ((0 : Int32).toNatClampNeg) &&& 63).toInt = 32 ∨ (xs ((0 : Int32).toNatClampNeg) &&& 63).toInt = 33 ∨ (xs ((0 : Int32).toNatClampNeg) &&& 63).toInt = 34 ∨ (xs ((0 : Int32).toNatClampNeg) &&& 63).toInt = 35 ∨ (xs ((0 : Int32).toNatClampNeg) &&& 63).toInt = 36 by omega) with hk | hk | hk | hk | hk | hk | hk | hk | hk | hk | hk | hk | hk | hk | hk | hk | hk | hk | hk | hk | hk | hk | hk | hk | hk | hk | hk | hk | hk | hk | hk | hk | hk | hk | hk | hk | hk
      · refine lv_tableIn (off := 163) (tgt := 196) hx hb dL_law_33 (by omega) (by omega) (by rw [hk]; rfl) (by decide) ?_
        exact law_feed rfl C0 hK hN hSt hl
      · refine lv_tableIn (off := 226) (tgt := 259) hx hb dL_law_33 (by omega) (by omega) (by rw [hk]; rfl) (by decide) ?_
        exact law_end rfl C0 hK hN hSt hl
      · refine lv_tableIn (off := 249) (tgt := 282) hx hb dL_law_33 (by omega) (by omega) (by rw [hk]; rfl) (by decide) ?_
        exact law_street rfl C0 hK hN hSt hl
      · refine lv_tableIn (off := 262) (tgt := 295) hx hb dL_law_33 (by omega) (by omega) (by rw [hk]; rfl) (by decide) ?_
        exact law_fault rfl C0 hK hN hSt hl
      · refine lv_tableIn (off := 285) (tgt := 318) hx hb dL_law_33 (by omega) (by omega) (by rw [hk]; rfl) (by decide) ?_
        exact law_run rfl C0 hK hN hSt hl
      · refine lv_tableIn (off := 308) (tgt := 341) hx hb dL_law_33 (by omega) (by omega) (by rw [hk]; rfl) (by decide) ?_
        exact law_car rfl C0 hK hN hSt hl
      · refine lv_tableIn (off := 341) (tgt := 374) hx hb dL_law_33 (by omega) (by omega) (by rw [hk]; rfl) (by decide) ?_
        exact law_speed rfl C0 hK hN hSt hl
      · refine lv_tableIn (off := 364) (tgt := 397) hx hb dL_law_33 (by omega) (by omega) (by rw [hk]; rfl) (by decide) ?_
        exact law_rope rfl C0 hK hN hSt hl
      · refine lv_tableIn (off := 397) (tgt := 430) hx hb dL_law_33 (by omega) (by omega) (by rw [hk]; rfl) (by decide) ?_
        exact law_count rfl C0 hK hN hSt hl
      · refine lv_tableIn (off := 420) (tgt := 453) hx hb dL_law_33 (by omega) (by omega) (by rw [hk]; rfl) (by decide) ?_
        exact law_strand rfl C0 hK hN hSt hl
      · refine lv_tableIn (off := 453) (tgt := 486) hx hb dL_law_33 (by omega) (by omega) (by rw [hk]; rfl) (by decide) ?_
        exact law_strandNow rfl C0 hK hN hSt hl
      · refine lv_tableIn (off := 476) (tgt := 509) hx hb dL_law_33 (by omega) (by omega) (by rw [hk]; rfl) (by decide) ?_
        exact law_free rfl C0 hK hN hSt hl
      · refine lv_tableIn (off := 499) (tgt := 532) hx hb dL_law_33 (by omega) (by omega) (by rw [hk]; rfl) (by decide) ?_
        exact law_splice rfl C0 hK hN hSt hl
      · refine lv_tableIn (off := 532) (tgt := 565) hx hb dL_law_33 (by omega) (by omega) (by rw [hk]; rfl) (by decide) ?_
        exact law_due rfl C0 hK hN hSt hl
      · refine lv_tableIn (off := 555) (tgt := 588) hx hb dL_law_33 (by omega) (by omega) (by rw [hk]; rfl) (by decide) ?_
        exact law_cost rfl C0 hK hN hSt hl
      · refine lv_tableIn (off := 588) (tgt := 621) hx hb dL_law_33 (by omega) (by omega) (by rw [hk]; rfl) (by decide) ?_
        exact law_halt rfl C0 hK hN hSt hl
      · refine lv_tableIn (off := 611) (tgt := 644) hx hb dL_law_33 (by omega) (by omega) (by rw [hk]; rfl) (by decide) ?_
        exact law_rolls rfl C0 hK hN hSt hl
      · refine lv_tableIn (off := 624) (tgt := 657) hx hb dL_law_33 (by omega) (by omega) (by rw [hk]; rfl) (by decide) ?_
        exact law_trips rfl C0 hK hN hSt hl
      · refine lv_tableIn (off := 647) (tgt := 680) hx hb dL_law_33 (by omega) (by omega) (by rw [hk]; rfl) (by decide) ?_
        exact law_asks rfl C0 hK hN hSt hl
      · refine lv_tableIn (off := 680) (tgt := 713) hx hb dL_law_33 (by omega) (by omega) (by rw [hk]; rfl) (by decide) ?_
        exact law_event rfl C0 hK hN hSt hl
      · refine lv_tableIn (off := 713) (tgt := 746) hx hb dL_law_33 (by omega) (by omega) (by rw [hk]; rfl) (by decide) ?_
        exact law_coasts rfl C0 hK hN hSt hl
      · refine lv_tableIn (off := 756) (tgt := 789) hx hb dL_law_33 (by omega) (by omega) (by rw [hk]; rfl) (by decide) ?_
        exact law_need rfl C0 hK hN hSt hl
      · refine lv_tableIn (off := 779) (tgt := 812) hx hb dL_law_33 (by omega) (by omega) (by rw [hk]; rfl) (by decide) ?_
        exact law_takes rfl C0 hK hN hSt hl
      · refine lv_tableIn (off := 792) (tgt := 825) hx hb dL_law_33 (by omega) (by omega) (by rw [hk]; rfl) (by decide) ?_
        exact law_head rfl C0 hK hN hSt hl
      · refine lv_tableIn (off := 815) (tgt := 848) hx hb dL_law_33 (by omega) (by omega) (by rw [hk]; rfl) (by decide) ?_
        exact law_spread rfl C0 hK hN hSt hl
      · refine lv_tableIn (off := 848) (tgt := 881) hx hb dL_law_33 (by omega) (by omega) (by rw [hk]; rfl) (by decide) ?_
        exact law_power rfl C0 hK hN hSt hl
      · refine lv_tableIn (off := 881) (tgt := 914) hx hb dL_law_33 (by omega) (by omega) (by rw [hk]; rfl) (by decide) ?_
        exact law_runaway rfl C0 hK hN hSt hl
      · refine lv_tableIn (off := 914) (tgt := 947) hx hb dL_law_33 (by omega) (by omega) (by rw [hk]; rfl) (by decide) ?_
        exact law_order rfl C0 hK hN hSt hl
      · refine lv_tableIn (off := 937) (tgt := 970) hx hb dL_law_33 (by omega) (by omega) (by rw [hk]; rfl) (by decide) ?_
        exact law_where rfl C0 hK hN hSt hl
      · refine lv_tableIn (off := 980) (tgt := 1013) hx hb dL_law_33 (by omega) (by omega) (by rw [hk]; rfl) (by decide) ?_
        exact law_log rfl C0 hK hN hSt hl
      · refine lv_tableIn (off := 1023) (tgt := 1056) hx hb dL_law_33 (by omega) (by omega) (by rw [hk]; rfl) (by decide) ?_
        exact law_untell rfl C0 hK hN hSt hl
      · refine lv_tableIn (off := 1046) (tgt := 1079) hx hb dL_law_33 (by omega) (by omega) (by rw [hk]; rfl) (by decide) ?_
        exact law_later rfl C0 hK hN hSt hl
      · refine lv_tableIn (off := 1069) (tgt := 1102) hx hb dL_law_33 (by omega) (by omega) (by rw [hk]; rfl) (by decide) ?_
        exact law_judge rfl C0 hK hN hSt hl
      · refine lv_tableIn (off := 1102) (tgt := 1135) hx hb dL_law_33 (by omega) (by omega) (by rw [hk]; rfl) (by decide) ?_
        exact law_logged rfl C0 hK hN hSt hl
      · refine lv_tableIn (off := 1135) (tgt := 1168) hx hb dL_law_33 (by omega) (by omega) (by rw [hk]; rfl) (by decide) ?_
        exact law_image rfl C0 hK hN hSt hl
      · refine lv_tableIn (off := 1158) (tgt := 1191) hx hb dL_law_33 (by omega) (by omega) (by rw [hk]; rfl) (by decide) ?_
        exact law_back rfl C0 hK hN hSt hl
      · refine lv_tableIn (off := 1181) (tgt := 1214) hx hb dL_law_33 (by omega) (by omega) (by rw [hk]; rfl) (by decide) ?_
        exact law_about rfl C0 hK hN hSt hl
    · refine lv_tableOut (tgt := 1237) hx hb dL_law_33 (Or.inr hsw) (by decide) ?_
      exact law_tail rfl C0 hS5 hl
-- ===== YOUR PART ENDS =====
set_option maxHeartbeats 4000000 in
theorem lw_walk (l : Launch) (b : Addr) (xs : List Int32) : MetFree l x (headSpec (Jvm.Cond.code x code maxLocals ret :: tables_1) room_1) (lw_P b xs) (fun _ _ _ _ _ => True) lw_Q := by
  refine MetFree.of_bodyS (code := code) (maxLocals := maxLocals) (ret := ret) (by decide) ?_ ?_
  · intro args s m h hn
    obtain ⟨meth, c, h1, h2, h3, h4, h5, h6, -, -⟩ := Cond.code_spec hn (atoms_spec (ws := Jvm.Cond.code x code maxLocals ret :: tables_1) h _ List.mem_cons_self)
    exact ⟨meth, c, h1, h2, h3, h4, h5, h6⟩
  · intro p e s m args below meth c s₁ B hml0 hP _
    obtain ⟨rfl, hx, hbd, hgv⟩ := hP
    obtain ⟨scr, harrAt, hlist, hof, hsmall⟩ := hx
    obtain ⟨hcb, hkn, -, -⟩ := State.arrayAt?_spec harrAt
    have hown : s.vm.findClass R_law = some m.cls := findClass_of_methodNamed B.named
    have hts0 : ∀ c ∈ (Jvm.Cond.code x code maxLocals ret :: tables_1), c.before #[Value.ref b] s = true := atoms_spec (ws := Jvm.Cond.code x code maxLocals ret :: tables_1) B.pre
    have hts : ∀ w ∈ lw_tbl, w.before #[Value.ref b] s = true := k2_hts_sels lw_privs (fun w hw => hts0 w (List.mem_cons_of_mem _ hw)) lw_privs_ok
    have hml : c.maxLocals = 4 := B.maxLocals_eq (hts0 _ List.mem_cons_self)
    have X₀ : Stand p l e room_1 s m #[Value.ref b] below meth c s₁ [] 0 0 := Stand.of_body B
    have hh0 : s₁.heap = s.heap := by rw [B.state]; rfl
    have hsz : scr.slots.size = xs.length := by rw [← Array.length_toList, hlist, List.length_map]
    have hval : ∀ j : Nat, j < xs.length → scr.slots[j]? = some (.int (xs.getD j 0)) := fun j hj => by
      rw [← Array.getElem?_toList, hlist]
      simp [hj]
    have hbl : b < s.heap.size := (Array.getElem?_eq_some_iff.mp hcb).1
    have hX : va_X b xs.length (fun j => xs.getD j 0) s s.heap := ⟨scr, hcb, hof, hkn, hsz, hval⟩
    have K : W p l e room_1 s m #[Value.ref b] below meth c s₁.heap [] 0 0 (lw_Z below #[Value.ref b] s) (entryFrame m ([Value.ref b] : List Value).toArray 4) := by
      rw [hh0]
      exact whole_start l hbd ⟨B.exec, B.bytes, B.returns, hml, hown, hts, hX, hbl, B.notSynchronized, hgv⟩
    obtain ⟨t, a1, o, b1, b2, b3⟩ := K s₁ rfl X₀
    exact ⟨t, o, a1, b1, b2, b3⟩
theorem lw_pre_spec {args : Array Value} {s : State} (h : (Jvm.Cond.and given_1 narrow_1).before args s = true) (hr : rest_1_c.before args s = true) : ∃ (b : Addr) (xs : List Int32), lw_P b xs args s := by
  have hs := flat_of_before _ h
  have hq := flat_of_before _ hr
  have hc : (Cond.count 1).before args s = true := hs _ (by decide +kernel)
  have harr : (Cond.arrayOf (.arg 0) .int).before args s = true := hs _ (by decide +kernel)
  have hle : (Cond.le (.length (.arg 0)) (.int 6)).before args s = true := hs _ (by decide +kernel)
  have hlen : (Cond.isInt (.length (.arg 0))).before args s = true := hq _ (by decide +kernel)
  have hall : (Cond.all (.arg 0) (.isInt (.elem (.arg 0) (.index 0)))).before args s = true := hq _ (by decide +kernel)
  obtain ⟨b, xs, hb, hx⟩ := State.ints_of_pre rfl harr hlen hall
  have hsm : xs.length < 2 ^ 31 := hx.choose_spec.2.2.2
  have hev : (Term.length (.arg 0)).eval args s none [] s = some (.int xs.length.toInt32) := hx.length_eval hb
  have hv := Cond.le_ints hev (show (Term.int 6).eval args s none [] s = some (.int 6) from rfl)
  have hd : xs.length.toInt32 ≤ 6 := by
    simpa [Cond.before, Cond.holds, hv] using hle
  have hN : xs.length ≤ 6 := (Int32.ofNat_le_ofNat hsm (by decide)).mp (show Int32.ofNat xs.length ≤ Int32.ofNat 6 from hd)
  exact ⟨b, xs, Cond.one_arg hc (show args[0]? = some (.ref b) from hb), hx, hN, h⟩
theorem lw_comes (l : Launch) : Comes l x (Jvm.Cond.code x code maxLocals ret :: tables_1) room_1 (fun tb e args s => Calls_1 tb e args s ∧ rest_1 tb e args s ∧ Pre_1 tb e args s)
    (fun _ _ args s o t => lw_Q args s o t) := by
  intro p e ha hc hk s m args below hf hfit hheap happ hpre
  obtain ⟨b, xs, hP⟩ := lw_pre_spec hpre.2.2 hpre.2.1
  obtain ⟨k, o, h1, h2, h3, hQ⟩ := lw_walk l b xs p e ha hc hk s m args below hf ((Spec.applies_iff_loose hf).mp happ).1 hP trivial
  exact ⟨k, o, h1, h2, h3, hQ⟩
theorem lw_frame {s t : State} {o : Outcome} {args : Array Value} (h : Framed s o t [] 600000 7302250) :
    Framed s o t (fieldLocs frame_1_writes args s ++ arrayLocs frame_1_arrays args s ++ staticLocs frame_1_statics s) 600000 7302250 := h
theorem lw_limb (L : Cond) (hL : ∀ (args : Array Value) (s t : State), L.after args s (.returned (some (.int 1))) t = true) :
    ArmFor flags0 classFile x code maxLocals ret World_1 tables_1 room_1 Calls_1 rest_1 Pre_1
      (fun tb e a s o t => postC L tb e a s o t ∧ Framed s o t (fieldLocs frame_1_writes a s ++ arrayLocs frame_1_arrays a s ++ staticLocs frame_1_statics s) 600000 7302250) := by
  intro l _ _ _ p e ha hc hk s m args below hf hfit hheap happ hpre
  obtain ⟨k, o, h1, h2, h3, rfl, hF⟩ := lw_comes l p e ha hc hk s m args below hf hfit hheap happ hpre
  exact ⟨k, _, h1, h2, h3, hL args s _, lw_frame hF⟩
theorem i_vc : Claimed_1_1 ∧ Claimed_1_2 := ⟨lw_limb limb_1_1 (fun args s t => by simp [limb_1_1, Cond.after, Cond.holds, Cond.value]), lw_limb limb_1_2 (fun args s t => Cond.after_iff.mpr (by
  first | (rw [show limb_1_2 = Cond.eq .result (.int 1) from rfl, Cond.eq_ints (x := 1) (y := 1) rfl rfl]; simp; done) | (simp [limb_1_2, Cond.value, Term.eval]; done)))⟩
