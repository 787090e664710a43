/-- an int in a slot of a first cell -/
theorem lw_get {KK : List (List rt_K)} {g : Nat} {κ : Nat → ClassId} {K ad : List Nat} {ws : va_W} (hH : rt_gH KK g κ K ad ws) {i k j : Nat} {kd : rt_K} {f : Nat} {a : Int × Int} (hi : K[i]? = some k) (hk : rt_kd KK g k = some kd) (hj : rt_sT kd j = some (f, .inl a)) : a.1 ≤ mv ws i j ∧ mv ws i j ≤ a.2 := by
  obtain ⟨q, e, kd', h1, h2, h3⟩ := hH i k hi
  rw [hk] at h2
  cases h2
  obtain ⟨v, v1, z, rfl, z1, z2⟩ := h3.2 j _ hj
  have ez : mz ws i j = z := by
    unfold mz
    rw [h1]
    show (match rt_sl e j with
      | some (.int z) => z
      | _ => 0) = z
    rw [v1]
  unfold mv
  rw [ez]
  exact ⟨z1, z2⟩
theorem lw_X0 {κ : Nat → ClassId} {ws : va_W} (hH : ri_gH (fun _ => 0) κ hX ws) : xI κ (ri_ad ws) ws ∧ mv ws 85 0 = 0 := by
  refine ⟨⟨rfl, rt_fH_ok (KK := wX_K) (g := 0) rfl wX_made hH⟩, ?_⟩
  have hE := rt_fH_ok (KK := [wE_X]) (g := 0) rfl wE_d hH
  have hs : ∃ kd, rt_kd [wE_X] 0 ((wX_D[85]?).getD 0) = some kd ∧ rt_sT kd 0 = some (0, .inl (0, 0)) := ⟨_, rfl, rfl⟩
  obtain ⟨kd, k1, k2⟩ := hs
  have h := lw_get hE (i := 85) rfl k1 k2
  have h1 : (0 : Int) ≤ mv ws 85 0 := h.1
  have h2 : mv ws 85 0 ≤ 0 := h.2
  omega
theorem wE_1 : mTy [wE_M] 0 0 97 = some (0, 0) := by decide +kernel
theorem wE_2 : mTy [wE_M] 0 27 0 = some (0, 0) := by decide +kernel
theorem wE_3 : mTy [wE_M] 0 65 0 = some (-1, -1) := by decide +kernel
theorem wE_4 : mTy [wE_M] 0 65 1 = some (-1, -1) := by decide +kernel
theorem wE_5 : mTy [wE_M] 0 65 2 = some (-1, -1) := by decide +kernel
theorem lw_M0 {κ : Nat → ClassId} {ws : va_W} (hH : ri_gH (fun _ => 0) κ hM ws) : mI κ (ri_ad ws) ws ∧ mv ws 0 97 = 0 := by
  have hE := rt_fH_ok (KK := [wE_M]) (g := 0) rfl wE_a hH
  have eqv : ∀ {i j : Nat} {a : Int}, mTy [wE_M] 0 i j = some (a, a) → mv ws i j = a := fun h => by
    obtain ⟨q, e, -, -, g1, g2⟩ := m_int hE h
    exact Int.le_antisymm g2 g1
  refine ⟨⟨0, 0, by decide, by decide, Or.inl ⟨rfl, rt_fH_ok (KK := w00_K) (g := 0) rfl wE_c hH, rt_fH_ok (KK := w00_K) (g := 37) rfl wE_b hH, fun u hu hlt => ?_, fun q hq => Or.inl ?_⟩⟩, eqv wE_1⟩
  · exfalso
    rw [eqv wE_2] at hlt
    omega
  · match q, hq with
    | 0, _ => exact eqv wE_3
    | 1, _ => exact eqv wE_4
    | 2, _ => exact eqv wE_5
    | q + 3, hq => omega
theorem lw_adE {ws : va_W} {i q : Nat} (h : (ri_ad ws)[i]? = some q) : ∃ e, ws[i]? = some (q, e) := by
  unfold ri_ad at h
  rw [List.getElem?_map] at h
  cases hw : ws[i]? with
  | none => rw [hw] at h; cases h
  | some v =>
    rw [hw] at h
    cases h
    exact ⟨v.2, rfl⟩
set_option maxHeartbeats 4000000 in
set_option maxRecDepth 10000 in
/-- YOUR PART: from the entry, for every script of at most 3072 ints, the law comes to its end with true -/
theorem whole_start {p : Program} {e : Env} {s : State} {m : MethodId} {below : List Frame} {meth : Method} {c : Code} (l : Launch) {b L : Nat} {xs : Nat → Int32} (hL : L ≤ 3072) (C0 : lw_At p s m meth c b L xs) : W p l e room_1 s m #[Value.ref b] below meth c s.heap [] 0 0 (lw_Z below #[Value.ref b] s) (entryFrame m ([Value.ref b] : List Value).toArray 4) := by
  obtain ⟨hx, hb, hr, hml, hown, hts0, hX, hbl, hlocks, hgv⟩ := id C0
  have hts : ∀ w ∈ gU, w.before #[Value.ref b] s = true := fun w hw => hts0 w (List.mem_filter.mp hw).1
  obtain ⟨D, κ, hK, hN, hZ⟩ := lw_world2 hts0 hgv
  have hA : ∀ q : Nat, s.heap.size ≤ q → (fun q : Nat => s.heap.size ≤ q) q := fun _ h => h
  have hbA : ¬ (fun q : Nat => s.heap.size ≤ q) b := Nat.not_le.mpr hbl
  have hS : va_S (fun q : Nat => s.heap.size ≤ q) s.heap s.heap [] := va_S.rf
  have hP0 : va_P D vwCl [] s.heap := fun k q h => by simp at h
  have hD0 : va_D (fun q : Nat => s.heap.size ≤ q) [] := ⟨fun i j p q h => by simp at h, fun k q h => by simp at h⟩
  have hl := lv_entry ([.ref b]) (n := 4) (Nat.le_of_ble_eq_true rfl)
  rw [lg_entry_eq]
  generalize (lg_sl ([.ref b]) ++ List.replicate (4 - (lg_sl ([.ref b])).length) Slot.unset).toArray = ls at hl ⊢
  have hl : lv_has ls 4 [(0, .ref b)] := hl
  -- new CableStreet
  obtain ⟨g1, g2, g3, ty0, df, g4, g5, g6, g7, g8⟩ := co_all 11 RX11 TX11 11 rfl
  refine va_new (Ts := gU) (ci := 11) (fs := (List.range 11).map fun j => defaultValue (ty0 j)) hx hb hts g1 ty0 g4 hown (hts _ cw_23) (hts _ g2) (hts _ g3) hK hP0 hD0 hS hA rfl (fun j hj => by simp [vp_V, hj]) (by decide) (by decide) dL_law_0 (fun qx H1 hP1 hD1 hS1 => ?_)
  have hH1 : ri_gH (fun _ => 0) κ [.inl (11, ri_dX)] ([] ++ [(qx, .inr (11, (List.range 11).map fun j => defaultValue (ty0 j)))]) := ⟨rfl, fun k c hk => by
    cases k with
    | zero =>
      cases hk
      have edf : df = ri_dX := Option.some.inj (g6.symm.trans rfl)
      subst edf
      exact ⟨qx, _, rfl, _, rfl, rfl, fun i a ha => by
        have hi : i < 11 := by rw [← g7]; exact (List.getElem?_eq_some_iff.mp ha).1
        exact ⟨_, by simp [hi], g8 i a ha _ _⟩⟩
    | succ k => simp at hk⟩
  refine lv_dup hx hb dL_law_3 rfl ?_
  refine ri_callR (va_runI (Ts := gU) (b := qx) (As := []) (rest := [.ref qx]) (n := 0) ⟨hx, hb, hml, hown, hts⟩ (ri_made ctX (fun q hq => by rw [mT_133] at hq; cases hq; exact Nat.le_of_ble_eq_true rfl) l H1.size mT_133 hH1 rfl) ⟨callB_of 0 hts (gU_in cw_27 gU (fun _ g => g)) rfl rfl rfl (hts _ g3) (hts _ cw_25) yk_133 ⟨by show 21 ≤ 2048; decide, by show 8 + (2 + 11) + 2000 ≤ 84000; decide⟩, rfl, hts _ cw_26⟩ ⟨fun a U g mk q => by
    obtain ⟨q0, q1, qP, qK, qD, qN⟩ := q
    exact ⟨q0, q1, qP, va_K.moved (u := U) (U := U.calling g mk a) (Vm.Alike.refl U.vm) qK, qD, ri_N_same rfl qN⟩, fun U hU hW => ⟨rfl, by rw [hU], by rw [hU]; exact hP1, va_K.moved hW.alike hK, hD1.weaken (fun _ _ _ _ => trivial), ri_N_warm hW hN⟩⟩ rfl rfl hl.1 rfl (lv_room (Nat.le_of_ble_eq_true rfl)) dL_law_4 ⟨by decide, by decide⟩) (fun v st₀ t0 Lf h0 hLf hQ => ?_)
  obtain ⟨⟨wsX, ev, hHX, hadX, hPX, hDX⟩, hF⟩ := hQ
  cases ev
  have hFc : ∀ x, va_A ([] ++ [(qx, .inr (11, (List.range 11).map fun j => defaultValue (ty0 j)))]) H1.size x → s.heap.size ≤ x := fun x hx0 => by
    rcases hx0 with ⟨k, e0, hk⟩ | hx0
    · exact hD1.2 k _ hk
    · exact Nat.le_trans hS1.1 hx0
  have hS2 := ri_S_after hS1 hF h0 hFc hLf
  have hDX2 : va_D (fun q : Nat => s.heap.size ≤ q) wsX := hDX.weaken (fun _ _ _ g => hFc _ g)
  have hqx : (ri_ad wsX)[0]? = some qx := by
    obtain ⟨tl, etl⟩ := hadX
    rw [← etl]
    rfl
  generalize t0.heap = H2 at hPX hS2 ⊢
  refine lv_astore_n (lv' := [(1, .ref qx), (0, .ref b)]) hx hb dL_law_7 rfl hl (by decide) rfl (fun ls hl => ?_)
  -- new CableStreetModel
  obtain ⟨k1, k2, k3, ty1, df1, k4, k5, k6, k7, k8⟩ := co_all 12 RX12 TX12 113 rfl
  refine va_new (Ts := gU) (ci := 12) (fs := (List.range 113).map fun j => defaultValue (ty1 j)) hx hb hts k1 ty1 k4 hown (hts _ cw_1372) (hts _ k2) (hts _ k3) hK hPX hDX2 hS2 hA rfl (fun j hj => by simp [vp_V, hj]) (by decide) (by decide) dL_law_8 (fun qm H3 hP3 hD3 hS3 => ?_)
  generalize hfs : ((List.range 113).map fun j => defaultValue (ty1 j)) = fs1 at hP3 hD3
  have hP3m : va_P D vwCl [(qm, .inr (12, fs1))] H3 := fun k q hk => by
    cases k with
    | zero =>
      cases hk
      exact hP3 wsX.length _ (by simp)
    | succ k => simp at hk
  have hD3m : va_D (fun q : Nat => s.heap.size ≤ q) [(qm, .inr (12, fs1))] := ⟨fun i j u v hi hj _ => by
    have h1 : i < 1 := (List.getElem?_eq_some_iff.mp hi).1
    have h2 : j < 1 := (List.getElem?_eq_some_iff.mp hj).1
    omega, fun k q hk => by
    cases k with
    | zero =>
      cases hk
      exact hD3.2 wsX.length _ (by simp)
    | succ k => simp at hk⟩
  have hP3x : va_P D vwCl wsX H3 := fun k q hk => hP3 k q (by rw [List.getElem?_append_left (List.getElem?_eq_some_iff.mp hk).1]; exact hk)
  have hnx : ∀ (k : Nat) (q : Nat × va_E), wsX[k]? = some q → q.1 ≠ qm := fun k q hk e0 => by
    have hlt := (List.getElem?_eq_some_iff.mp hk).1
    have := hD3.1 k wsX.length q (qm, .inr (12, fs1)) (by rw [List.getElem?_append_left hlt]; exact hk) (by simp) e0
    omega
  have hH3 : ri_gH (fun _ => 0) κ [.inl (12, ri_dM)] [(qm, .inr (12, fs1))] := ⟨rfl, fun k c hk => by
    cases k with
    | zero =>
      cases hk
      have edf : df1 = ri_dM := Option.some.inj (k6.symm.trans rfl)
      subst edf
      refine ⟨qm, _, rfl, _, rfl, by rw [← hfs, k7]; simp, fun i a ha => ?_⟩
      have hi : i < 113 := by rw [← k7]; exact (List.getElem?_eq_some_iff.mp ha).1
      exact ⟨_, by rw [← hfs]; simp [hi], k8 i a ha _ _⟩
    | succ k => simp at hk⟩
  refine lv_dup hx hb dL_law_11 rfl ?_
  refine ri_callR (va_runI (Ts := gU) (b := qm) (As := []) (rest := [.ref qm]) (n := 0) ⟨hx, hb, hml, hown, hts⟩ (ri_made ctM (fun q hq => by rw [mT_174] at hq; cases hq; exact Nat.le_of_ble_eq_true rfl) l H3.size mT_174 hH3 rfl) ⟨callB_of 0 hts (gU_in cw_1376 gU (fun _ g => g)) rfl rfl rfl (hts _ k3) (hts _ cw_1374) yk_174 ⟨by show 21 ≤ 2048; decide, by show 8 + (2 + 11) + 2000 ≤ 84000; decide⟩, rfl, hts _ cw_1375⟩ ⟨fun a U g mk q => by
    obtain ⟨q0, q1, qP, qK, qD, qN⟩ := q
    exact ⟨q0, q1, qP, va_K.moved (u := U) (U := U.calling g mk a) (Vm.Alike.refl U.vm) qK, qD, ri_N_same rfl qN⟩, fun U hU hW => ⟨rfl, by rw [hU], by rw [hU]; exact hP3m, va_K.moved hW.alike hK, hD3m.weaken (fun _ _ _ _ => trivial), ri_N_warm hW hN⟩⟩ rfl rfl hl.1 rfl (lv_room (Nat.le_of_ble_eq_true rfl)) dL_law_12 ⟨by decide, by decide⟩) (fun v st₀ t1 Lf1 h01 hLf1 hQ1 => ?_)
  obtain ⟨⟨wsM, ev, hHM, hadM, hPM, hDM⟩, hF1⟩ := hQ1
  cases ev
  have hFc1 : ∀ x, va_A [(qm, .inr (12, fs1))] H3.size x → s.heap.size ≤ x := fun x hx0 => by
    rcases hx0 with ⟨k, e0, hk⟩ | hx0
    · exact hD3m.2 k _ hk
    · exact Nat.le_trans hS3.1 hx0
  have hS4 := ri_S_after hS3 hF1 h01 hFc1 hLf1
  have hqm : (ri_ad wsM)[0]? = some qm := by
    obtain ⟨tl, etl⟩ := hadM
    rw [← etl]
    rfl
  have hnot : ∀ (k : Nat) (q : Nat × va_E), wsX[k]? = some q → ¬ va_A [(qm, .inr (12, fs1))] H3.size q.1 := fun k q hk g => by
    rcases g with ⟨k', e0, hk'⟩ | g
    · cases k' with
      | zero =>
        have e1 : (qm, (.inr (12, fs1) : va_E)) = (q.1, e0) := Option.some.inj hk'
        exact hnx k q hk (congrArg Prod.fst e1).symm
      | succ k' => simp at hk'
    · have := (hP3x k q hk).lt
      omega
  have hPX4 : va_P D vwCl wsX t1.heap := hP3x.kept (fun k q hk => by
    have := hF1.2 q.1 (by rw [h01]; exact (hP3x k q hk).lt) (hnot k q hk)
    rw [this, h01])
  obtain ⟨x1, x2⟩ := lw_X0 (hHX (fun _ => 0))
  obtain ⟨y1, y2⟩ := lw_M0 (hHM (fun _ => 0))
  have hDM2 : va_D (fun q : Nat => s.heap.size ≤ q) wsM := hDM.weaken (fun _ _ _ g => hFc1 _ g)
  have hiX : ∀ (i j q : Nat), (ri_ad wsX)[i]? = some q → (ri_ad wsX)[j]? = some q → i = j := fun i j q h1 h2 => by
    obtain ⟨e1, h1⟩ := lw_adE h1
    obtain ⟨e2, h2⟩ := lw_adE h2
    exact hDX2.1 i j _ _ h1 h2 rfl
  have hiM : ∀ (i j q : Nat), (ri_ad wsM)[i]? = some q → (ri_ad wsM)[j]? = some q → i = j := fun i j q h1 h2 => by
    obtain ⟨e1, h1⟩ := lw_adE h1
    obtain ⟨e2, h2⟩ := lw_adE h2
    exact hDM2.1 i j _ _ h1 h2 rfl
  have hap : ∀ (i j q : Nat), (ri_ad wsX)[i]? = some q → (ri_ad wsM)[j]? = some q → False := fun i j q h1 h2 => by
    obtain ⟨e1, h1⟩ := lw_adE h1
    obtain ⟨e2, h2⟩ := lw_adE h2
    exact hnot i (q, e1) h1 (hDM.2 j (q, e2) h2)
  have hLS : lw_LS s κ D (ri_ad wsX) (ri_ad wsM) wsX wsM t1.heap ([] ++ Lf ++ Lf1) := ⟨x1, y1, by rw [x2, y2], hPX4, hPM, hDX2, hDM2, hS4⟩
  generalize t1.heap = H4 at hLS ⊢
  refine lv_astore_n (lv' := [(2, .ref qm), (1, .ref qx), (0, .ref b)]) hx hb dL_law_15 rfl hl (by decide) rfl (fun ls hl => ?_)
  refine lv_iconst (v := 0) hx hb dL_law_16 (by decide) ?_
  refine lv_istore_n (lv' := [(3, .int 0), (2, .ref qm), (1, .ref qx), (0, .ref b)]) hx hb dL_law_17 rfl hl (by decide) rfl (fun ls hl => ?_)
  have hl := lv_sub hl (l' := [(0, .ref b), (1, .ref qx), (2, .ref qm), (3, .int 0)]) [3, 2, 1, 0] rfl
  refine W.widen (k := 211) (n := 15503) (by decide) (by decide) ?_
  exact law_loop C0 hL hK hN hZ hiX hiM hap hqx hqm 3079 0 (by decide) (by decide) (by decide) hLS hl
-- ===== YOUR PART ENDS =====
set_option maxHeartbeats 4000000 in
theorem lw_walk (l : Launch) (b : Addr) (xs : List Int32) : MetFree l x (headSpec (Jvm.Cond.code x code maxLocals ret :: tables_1) room_1) (lw_P b xs) (fun _ _ _ _ _ => True) lw_Q := by
  refine MetFree.of_bodyS (code := code) (maxLocals := maxLocals) (ret := ret) (by decide) ?_ ?_
  · intro args s m h hn
    obtain ⟨meth, c, h1, h2, h3, h4, h5, h6, -, -⟩ := Cond.code_spec hn (atoms_spec (ws := Jvm.Cond.code x code maxLocals ret :: tables_1) h _ List.mem_cons_self)
    exact ⟨meth, c, h1, h2, h3, h4, h5, h6⟩
  · intro p e s m args below meth c s₁ B hml0 hP _
    obtain ⟨rfl, hx, hbd, hgv⟩ := hP
    obtain ⟨scr, harrAt, hlist, hof, hsmall⟩ := hx
    obtain ⟨hcb, hkn, -, -⟩ := State.arrayAt?_spec harrAt
    have hown : s.vm.findClass R_law = some m.cls := findClass_of_methodNamed B.named
    have hts0 : ∀ c ∈ (Jvm.Cond.code x code maxLocals ret :: tables_1), c.before #[Value.ref b] s = true := atoms_spec (ws := Jvm.Cond.code x code maxLocals ret :: tables_1) B.pre
    have hts : ∀ w ∈ lw_tbl, w.before #[Value.ref b] s = true := k2_hts_sels lw_privs (fun w hw => hts0 w (List.mem_cons_of_mem _ hw)) lw_privs_ok
    have hml : c.maxLocals = 4 := B.maxLocals_eq (hts0 _ List.mem_cons_self)
    have X₀ : Stand p l e room_1 s m #[Value.ref b] below meth c s₁ [] 0 0 := Stand.of_body B
    have hh0 : s₁.heap = s.heap := by rw [B.state]; rfl
    have hsz : scr.slots.size = xs.length := by rw [← Array.length_toList, hlist, List.length_map]
    have hval : ∀ j : Nat, j < xs.length → scr.slots[j]? = some (.int (xs.getD j 0)) := fun j hj => by
      rw [← Array.getElem?_toList, hlist]
      simp [hj]
    have hbl : b < s.heap.size := (Array.getElem?_eq_some_iff.mp hcb).1
    have hX : va_X b xs.length (fun j => xs.getD j 0) s s.heap := ⟨scr, hcb, hof, hkn, hsz, hval⟩
    have K : W p l e room_1 s m #[Value.ref b] below meth c s₁.heap [] 0 0 (lw_Z below #[Value.ref b] s) (entryFrame m ([Value.ref b] : List Value).toArray 4) := by
      rw [hh0]
      exact whole_start l hbd ⟨B.exec, B.bytes, B.returns, hml, hown, hts, hX, hbl, B.notSynchronized, hgv⟩
    obtain ⟨t, a1, o, b1, b2, b3⟩ := K s₁ rfl X₀
    exact ⟨t, o, a1, b1, b2, b3⟩
theorem lw_pre_spec {args : Array Value} {s : State} (h : (Jvm.Cond.and given_1 narrow_1).before args s = true) (hr : rest_1_c.before args s = true) : ∃ (b : Addr) (xs : List Int32), lw_P b xs args s := by
  have hs := flat_of_before _ h
  have hq := flat_of_before _ hr
  have hc : (Cond.count 1).before args s = true := hs _ (by decide +kernel)
  have harr : (Cond.arrayOf (.arg 0) .int).before args s = true := hs _ (by decide +kernel)
  have hle : (Cond.le (.length (.arg 0)) (.int 3072)).before args s = true := hs _ (by decide +kernel)
  have hlen : (Cond.isInt (.length (.arg 0))).before args s = true := hq _ (by decide +kernel)
  have hall : (Cond.all (.arg 0) (.isInt (.elem (.arg 0) (.index 0)))).before args s = true := hq _ (by decide +kernel)
  obtain ⟨b, xs, hb, hx⟩ := State.ints_of_pre rfl harr hlen hall
  have hsm : xs.length < 2 ^ 31 := hx.choose_spec.2.2.2
  have hev : (Term.length (.arg 0)).eval args s none [] s = some (.int xs.length.toInt32) := hx.length_eval hb
  have hv := Cond.le_ints hev (show (Term.int 3072).eval args s none [] s = some (.int 3072) from rfl)
  have hd : xs.length.toInt32 ≤ 3072 := by
    simpa [Cond.before, Cond.holds, hv] using hle
  have hN : xs.length ≤ 3072 := (Int32.ofNat_le_ofNat hsm (by decide)).mp (show Int32.ofNat xs.length ≤ Int32.ofNat 3072 from hd)
  exact ⟨b, xs, Cond.one_arg hc (show args[0]? = some (.ref b) from hb), hx, hN, h⟩
theorem lw_comes (l : Launch) : Comes l x (Jvm.Cond.code x code maxLocals ret :: tables_1) room_1 (fun tb e args s => Calls_1 tb e args s ∧ rest_1 tb e args s ∧ Pre_1 tb e args s)
    (fun _ _ args s o t => lw_Q args s o t) := by
  intro p e ha hc hk s m args below hf hfit hheap happ hpre
  obtain ⟨b, xs, hP⟩ := lw_pre_spec hpre.2.2 hpre.2.1
  obtain ⟨k, o, h1, h2, h3, hQ⟩ := lw_walk l b xs p e ha hc hk s m args below hf ((Spec.applies_iff_loose hf).mp happ).1 hP trivial
  exact ⟨k, o, h1, h2, h3, hQ⟩
theorem lw_frame {s t : State} {o : Outcome} {args : Array Value} (h : Framed s o t [] 600000 7302250) :
    Framed s o t (fieldLocs frame_1_writes args s ++ arrayLocs frame_1_arrays args s ++ staticLocs frame_1_statics s) 600000 7302250 := h
theorem lw_limb (L : Cond) (hL : ∀ (args : Array Value) (s t : State), L.after args s (.returned (some (.int 1))) t = true) :
    ArmFor flags0 classFile x code maxLocals ret World_1 tables_1 room_1 Calls_1 rest_1 Pre_1
      (fun tb e a s o t => postC L tb e a s o t ∧ Framed s o t (fieldLocs frame_1_writes a s ++ arrayLocs frame_1_arrays a s ++ staticLocs frame_1_statics s) 600000 7302250) := by
  intro l _ _ _ p e ha hc hk s m args below hf hfit hheap happ hpre
  obtain ⟨k, o, h1, h2, h3, rfl, hF⟩ := lw_comes l p e ha hc hk s m args below hf hfit hheap happ hpre
  exact ⟨k, _, h1, h2, h3, hL args s _, lw_frame hF⟩
theorem i_vc : Claimed_1_1 ∧ Claimed_1_2 := ⟨lw_limb limb_1_1 (fun args s t => by simp [limb_1_1, Cond.after, Cond.holds, Cond.value]), lw_limb limb_1_2 (fun args s t => Cond.after_iff.mpr (by
  first | (rw [show limb_1_2 = Cond.eq .result (.int 1) from rfl, Cond.eq_ints (x := 1) (y := 1) rfl rfl]; simp; done) | (simp [limb_1_2, Cond.value, Term.eval]; done)))⟩
