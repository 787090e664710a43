/-! THE CLAIM OUT OF ONE WALK OF THE LAW'S BODY. Your part is whole_start (and what it stands on); all else here is the same for every law, but numbers. -/
def R_law : String := "CableStreetLaw"
def lw_P (b : Addr) (xs : List Int32) (args : Array Value) (s : State) : Prop := args = #[.ref b] ∧ s.IntsAt b xs ∧ xs.length ≤ 6 ∧ (Jvm.Cond.and given_1 narrow_1).before args s = true
def lw_Q (_ : Array Value) (s : State) (o : Outcome) (t : State) : Prop := o = .returned (some (.int 1)) ∧ Framed s o t [] 600000 7302250
def lw_Z (below : List Frame) (a : Array Value) (s : State) : State → Prop := fun t => ∃ o, t.status = .running ∧ Ended t below o ∧ lw_Q a s o t
/-- the law's own end, with 1 on the stack, nothing written that was there before, its room as the claim has it -/
theorem lw_ret {p : Program} {l : Launch} {e : Env} {s : State} {m : MethodId} {below : List Frame} {meth : Method} {c : Code} {b : Nat} (hx : p.tables.exec = Jvm.exec) (hb : c.code = code) (hr : meth.sig.returnType = ret) (hlocks : meth.locks = false) {pc : Nat} {H : Heap} {ls : Array Slot} (hdg : decode code pc = .ok (.ireturn, 1)) : W p l e room_1 s m #[Value.ref b] below meth c H [] 600000 7302250 (lw_Z below #[Value.ref b] s) (F0 m pc ls [.int 1]) := by
  intro T hT X
  obtain ⟨fs, hret, hrun, hended, hW, hframe⟩ := X.leave (v := some (.int 1)) (hlocks := hlocks) (fun h => by rw [hr] at h; cases h)
  have hmeth' : T.vm.method? m = some meth := X.method'
  refine ⟨T.setFrames fs, ?_, .returned (some (.int 1)), hrun, hended, rfl, ⟨_, rfl⟩, hW, hframe⟩
  jvm_step X.here [X.here.top, hx, hb, hdg, hmeth', hr, ret, narrow_b1]
  (try refine ⟨rfl, ?_⟩); (try refine ⟨rfl, ?_⟩)
  first | (intro acts; rw [hret _ acts rfl rfl rfl]) | rw [hret _ _ rfl rfl rfl]
  exact Steps.refl _
/-- what holds at the law's entry: the machine, the code, the tables' words (any of lw_tbl by 'hts w (by decide +kernel)'), the script of L ints xs at the cell b, what the Statement gives of the start (any of its parts by flat_of_before) -/
def lw_At (p : Program) (s : State) (m : MethodId) (meth : Method) (c : Code) (b L : Nat) (xs : Nat → Int32) : Prop :=
  p.tables.exec = Jvm.exec ∧ c.code = code ∧ meth.sig.returnType = ret ∧ c.maxLocals = 4 ∧ s.vm.findClass R_law = some m.cls ∧ (∀ w ∈ lw_tbl, w.before #[Value.ref b] s = true) ∧ va_X b L xs s s.heap ∧ b < s.heap.size ∧ meth.locks = false ∧ (Jvm.Cond.and given_1 narrow_1).before #[Value.ref b] s = true

theorem vi_0 : vp_in 0 6 := by unfold vp_in; decide +kernel
theorem vi_1 : vp_in (0 + 1) 6 := by unfold vp_in; decide +kernel
theorem vi_2 : vp_in (0 + 2) 6 := by unfold vp_in; decide +kernel
theorem vi_3 : vp_in (0 + 3) 6 := by unfold vp_in; decide +kernel
theorem vi_4 : vp_in (0 + 4) 6 := by unfold vp_in; decide +kernel
theorem vi_5 : vp_in (0 + 5) 6 := by unfold vp_in; decide +kernel
noncomputable abbrev hXc : List ri_C := hX
noncomputable abbrev hMc : List ri_C := hM
theorem nw_0 : Cond.methodLinkNest "CableStreet" 19 ⟨"CableStreet$Reader", "<init>", "()V"⟩ "CableStreet" ∈ lw_tbl := List.mem_append_right _ (List.mem_append_left _ (List.mem_of_getElem? (i := 33) rfl))
theorem nw_1 : Cond.methodLinkNest "CableStreet" 51 ⟨"CableStreet$Machine", "<init>", "()V"⟩ "CableStreet" ∈ lw_tbl := List.mem_append_right _ (List.mem_append_right _ (List.mem_append_left _ (List.mem_of_getElem? (i := 193) rfl)))
theorem nw_2 : Cond.methodLinkNest "CableStreet" 58 ⟨"CableStreet$Forecast", "<init>", "()V"⟩ "CableStreet" ∈ lw_tbl := List.mem_append_right _ (List.mem_append_right _ (List.mem_append_left _ (List.mem_of_getElem? (i := 212) rfl)))
theorem nw_3 : Cond.methodLinkNest "CableStreet" 65 ⟨"CableStreet$Logs", "<init>", "()V"⟩ "CableStreet" ∈ lw_tbl := List.mem_append_right _ (List.mem_append_right _ (List.mem_append_right _ (List.mem_append_left _ (List.mem_of_getElem? (i := 9) rfl))))
theorem nw_4 : Cond.methodLinkNest "CableStreet$Forecast" 11 ⟨"CableStreet$Machine", "<init>", "()V"⟩ "CableStreet" ∈ lw_tbl := List.mem_append_right _ (List.mem_append_right _ (List.mem_append_left _ (List.mem_of_getElem? (i := 217) rfl)))
theorem nw_5 : Cond.methodLinkNest "CableStreet$Plan" 46 ⟨"CableStreet$Crosses", "<init>", "()V"⟩ "CableStreet" ∈ lw_tbl := List.mem_append_right _ (List.mem_append_left _ (List.mem_of_getElem? (i := 120) rfl))
theorem nw_6 : Cond.methodLinkNest "CableStreet$Plan" 51 ⟨"CableStreet$Rope", "<init>", "()V"⟩ "CableStreet" ∈ lw_tbl := List.mem_append_right _ (List.mem_append_left _ (List.mem_of_getElem? (i := 149) rfl))
theorem nw_7 : Cond.methodLinkNest "CableStreet$Reader" 11 ⟨"CableStreet$Lexer", "<init>", "()V"⟩ "CableStreet" ∈ lw_tbl := List.mem_append_right _ (List.mem_append_left _ (List.mem_of_getElem? (i := 39) rfl))
theorem nw_8 : Cond.methodLinkNest "CableStreet$State" 30 ⟨"CableStreet$Events", "<init>", "()V"⟩ "CableStreet" ∈ lw_tbl := List.mem_append_right _ (List.mem_append_right _ (List.mem_append_left _ (List.mem_of_getElem? (i := 54) rfl)))
theorem nw_9 : Cond.methodLinkNest "CableStreet$State" 35 ⟨"CableStreet$Car", "<init>", "()V"⟩ "CableStreet" ∈ lw_tbl := List.mem_append_right _ (List.mem_append_right _ (List.mem_append_left _ (List.mem_of_getElem? (i := 73) rfl)))
theorem nw_all : ∀ q ∈ ri_nests, Cond.methodLinkNest q.1 q.2.1 q.2.2.1 q.2.2.2 ∈ lw_tbl := List.forall_mem_cons.mpr ⟨nw_0, List.forall_mem_cons.mpr ⟨nw_1, List.forall_mem_cons.mpr ⟨nw_2, List.forall_mem_cons.mpr ⟨nw_3, List.forall_mem_cons.mpr ⟨nw_4, List.forall_mem_cons.mpr ⟨nw_5, List.forall_mem_cons.mpr ⟨nw_6, List.forall_mem_cons.mpr ⟨nw_7, List.forall_mem_cons.mpr ⟨nw_8, List.forall_mem_cons.mpr ⟨nw_9, fun _ h => absurd h List.not_mem_nil⟩⟩⟩⟩⟩⟩⟩⟩⟩⟩
theorem ov_9 : (Jvm.Cond.arrayOver (Jvm.ClassFile.FieldType.object "CableStreet$Rope")) ∈ lw_tbl := List.mem_append_right _ (List.mem_append_left _ (List.mem_of_getElem? (i := 115) rfl))
theorem ov_0 : (Jvm.Cond.arrayOver (Jvm.ClassFile.FieldType.object "CableStreet$Car")) ∈ lw_tbl := List.mem_append_right _ (List.mem_append_right _ (List.mem_append_left _ (List.mem_of_getElem? (i := 51) rfl)))
theorem ov_10 : (Jvm.Cond.arrayOver (Jvm.ClassFile.FieldType.object "CableStreet$State")) ∈ lw_tbl := List.mem_append_right _ (List.mem_append_right _ (List.mem_append_left _ (List.mem_of_getElem? (i := 190) rfl)))
theorem ov_i : (Jvm.Cond.arrayOver (Jvm.ClassFile.FieldType.array Jvm.ClassFile.FieldType.int)) ∈ lw_tbl := List.mem_append_right _ (List.mem_append_left _ (List.mem_of_getElem? (i := 117) rfl))
/-- the classes as the tables have them, at the law's entry -/
theorem lw_world {s : State} {b : Nat} (hts : ∀ w ∈ lw_tbl, w.before #[Value.ref b] s = true) : ∃ (D : va_G) (κ : Nat → ClassId), va_K D vwCl (ri_tys κ) s ∧ ri_N s := by
  have hgu : ∀ w ∈ gU, w.before #[Value.ref b] s = true := fun w hw => hts w (List.mem_filter.mp hw).1
  have hN : ri_N s := ⟨fun q hq => va_Nw.of rfl (hts _ (nw_all q hq)), va_AO.of (hts _ ov_9), va_AO.of (hts _ ov_0), va_AO.of (hts _ ov_10), over_moved (Vm.Alike.refl s.vm) (hts _ ov_i)⟩
  have hex : ∀ ci : Nat, ∃ p : ClassId × (Nat → Nat), ∀ q : vw_C, vwCl[ci]? = some q → u_Kn s q.1 q.2.1 q.2.2 p.1 p.2 := fun ci => by
    cases h : vwCl[ci]? with
    | none => exact ⟨(0, fun _ => 0), fun q e => by cases e⟩
    | some q =>
      obtain ⟨C, T, N⟩ := q
      obtain ⟨g1, g2, -⟩ := co_all ci C T N h
      obtain ⟨cC, iS, hk⟩ := u_known hgu g1 (hgu _ g2)
      exact ⟨(cC, iS), fun q e => by cases e; exact hk⟩
  obtain ⟨F, hF⟩ := Classical.axiomOfChoice hex
  have prim : ∀ t : FieldType, Cond.arrayClass t ∈ gU → (∀ cA, s.vm.findClass ("[" ++ t.toString) = some cA → va_RA s cA t) → ∃ cA, ArrOfT s cA t ∧ va_RA s cA t := fun t ht hra => by
    obtain ⟨c, k, comp, h1, h2, h3⟩ := Cond.arrayClass_spec (hgu _ ht)
    exact ⟨c, fun n z => ⟨(fun k h => by cases h), k, h2, comp, h3⟩, hra c h1⟩
  have obj : ∀ C : String, va_AO C s → ∃ cA, ArrOfT s cA (.object C) ∧ va_RA s cA (.object C) := fun C hC => by
    obtain ⟨comp, c, k, h1, -, h2, h3, h4⟩ := Cond.arrayOver_spec hC
    exact ⟨c, fun n z => ⟨(fun k h => by cases h), k, h2, comp, h3⟩, k, comp, h2, h3, h1, h4⟩
  have hak : ∀ t : Nat, ∃ cA : ClassId, ArrOfT s cA (ri_ty t) ∧ va_RA s cA (ri_ty t) := fun t => by
    rcases t with _ | _ | _ | _ | _ | _ | _ | t
    · exact prim .int ao_all.1 (fun _ h => h)
    · exact prim .boolean ao_all.2.1 (fun _ h => h)
    · exact prim .byte ao_all.2.2.1 (fun _ h => h)
    · exact prim .long ao_all.2.2.2.1 (fun _ h => h)
    · exact obj RX9 hN.2.1
    · exact obj RX0 hN.2.2.1
    · exact obj RX10 hN.2.2.2.1
    · obtain ⟨comp, c, k, h1, -, h2, h3, h4⟩ := arrayOverA_spec hN.2.2.2.2
      exact ⟨c, fun n z => ⟨(fun k h => by cases h), k, h2, comp, h3⟩, h4⟩
  obtain ⟨κ, hκ⟩ := Classical.axiomOfChoice hak
  refine ⟨(fun ci => (F ci).1, fun ci => (F ci).2), κ, ⟨fun ci q h => hF ci q h, fun k q h => ?_⟩, hN⟩
  have hk : k ≤ 7 := by
    have : k < 8 := (List.getElem?_eq_some_iff.mp h).1
    omega
  have e := (ri_tys_at κ hk).symm.trans h
  cases e
  exact hκ k
section LW
variable {p : Program} {l : Launch} {e : Env} {s : State} {m : MethodId} {below : List Frame} {meth : Method} {c : Code} {b L : Nat} {xs : Nat → Int32} {D : va_G} {κ : Nat → ClassId}
/-- the law's world: the two systems, apart, and the script untouched -/
def lw_St (s : State) (κ : Nat → ClassId) (D : va_G) (hx0 hm0 : List ri_C) (wsX wsM : va_W) (qx qm : Nat) (H : Heap) (locs : List Loc) : Prop := (∀ τ, ri_gH τ κ hx0 wsX) ∧ (∀ τ, ri_gH τ κ hm0 wsM) ∧ va_P D vwCl wsX H ∧ va_P D vwCl wsM H ∧ va_D (fun q => s.heap.size ≤ q) wsX ∧ va_D (fun q => s.heap.size ≤ q) wsM ∧ (∀ (i j : Nat) (u v : Nat × va_E), wsX[i]? = some u → wsM[j]? = some v → u.1 ≠ v.1) ∧ (ri_ad wsX)[0]? = some qx ∧ (ri_ad wsM)[0]? = some qm ∧ va_S (fun q => s.heap.size ≤ q) s.heap H locs
/-- a method of one of them is called -/
theorem law_call {mi : Nat} {h0 : List ri_C} {as : List Int32} {z : Int32} {y : MethodName} {cc' : ByteArray} {nL' : Nat} {ret' : Option FieldType} {ci : Nat} {T : u_T} {N idx : Nat} {fs0 : List ri_V} {ws : va_W} {H : Heap} {locs : List Loc} {cells slots pc q0 : Nat} {ls : Array Slot} {st0 rest : List Value} {Q : State → Prop} (C0 : lw_At p s m meth c b L xs) (hK : va_K D vwCl (ri_tys κ) s) (hN : ri_N s) (hcon : ri_con mi h0 as z) (hm : mT[mi]? = some (y, cc', nL', ret')) (hci : vwCl[ci]? = some (y.cls, T, N)) (hlink : Cond.methodLink R_law idx y ∈ gU) (hinst : Cond.instanceMethod y ∈ gU) (hsel : Cond.selects y.cls y y ∈ gU) (hyok : ri_yOK y as.length) (hH : ∀ τ, ri_gH τ κ h0 ws) (hc0 : h0[0]? = some (.inl (ci, fs0))) (hP : va_P D vwCl ws H) (hD : va_D (fun q => s.heap.size ≤ q) ws) (hS : va_S (fun q => s.heap.size ≤ q) s.heap H locs) (hq0 : (ri_ad ws)[0]? = some q0) (hrest : (rest.map fun v => v.category).sum ≤ 8) (hcells : cells ≤ 600000) (hslots : slots ≤ 7302250) (hls : ls.size = 4) (hst : st0 = (as.map Value.int).reverse ++ .ref q0 :: rest) (hd : decode code pc = .ok (.invokevirtual idx, 3)) (kk : ∀ (H1 : Heap) (locs1 : List Loc), H.size ≤ H1.size → (∀ q : Nat, q < H.size → ¬ va_A ws H.size q → H1[q]? = H[q]?) → va_S (fun q => s.heap.size ≤ q) s.heap H1 locs1 → W p l e room_1 s m #[Value.ref b] below meth c H1 locs1 cells slots Q (F0 m (pc + 3) ls (.int z :: rest))) : W p l e room_1 s m #[Value.ref b] below meth c H locs cells slots Q (F0 m pc ls st0) := by
  obtain ⟨hx, hb, hr, hml, hown, hts0, hX, hbl, hlocks, hgv⟩ := C0
  have hts : ∀ w ∈ gU, w.before #[Value.ref b] s = true := fun w hw => hts0 w (List.mem_filter.mp hw).1
  obtain ⟨u1, u2, -, u4, -, -⟩ := tab_all mi y cc' nL' ret' hm
  subst hst
  obtain ⟨qb, e0, eqb, heb, vsb, rfl, -⟩ := ri_cell (hH (fun _ => 0)) (v := .ref q0) ⟨q0, hq0, rfl⟩ hc0
  cases eqb
  have hFc : ∀ x, va_A ws H.size x → s.heap.size ≤ x := fun x hx0 => by
    rcases hx0 with ⟨k, e0, hk⟩ | hx0
    · exact hD.2 k _ hk
    · exact Nat.le_trans hS.1 hx0
  refine ri_callR (va_runV (Ts := gU) (C := y.cls) (b := q0) (As := as.map Value.int) (rest := rest) (n := as.length) ⟨hx, hb, hml, hown, hts⟩ (hcon l κ D ws H.size q0 y cc' nL' ret' hm hH hq0) ⟨callB_of as.length hts (gU_in u1 gU (fun _ g => g)) rfl rfl rfl (hts _ u2) (hts _ hlink) hyok ⟨by show 21 ≤ 2048; decide, by show 8 + (nL' + 11) + 2000 ≤ 84000; omega⟩, hts _ hinst, hts _ hsel⟩ ⟨fun a U g mk q => by
    obtain ⟨q0, q1, qP, qK, qD, qN⟩ := q
    exact ⟨q0, q1, qP, va_K.moved (u := U) (U := U.calling g mk a) (Vm.Alike.refl U.vm) qK, qD, ri_N_same rfl qN⟩, va_recv hK hP (ci := ci) (q0 := 0) hci heb, fun U hU hW => ⟨rfl, by rw [hU], by rw [hU]; exact hP, va_K.moved hW.alike hK, hD.weaken (fun _ _ _ _ => trivial), ri_N_warm hW hN⟩⟩ rfl (by simp) hls rfl (lv_room hrest) hd ⟨hcells, hslots⟩) (fun v st₀ t0 Lf h0' hLf hQ => ?_)
  obtain ⟨ev, hF⟩ := hQ
  cases ev
  have hSn := ri_S_after hS hF h0' hFc hLf
  obtain ⟨f1, f2⟩ := hF
  rw [h0'] at f1 f2
  exact kk t0.heap _ f1 f2 hSn
/-- the other system's cells stay -/
theorem law_kept {wsX wsM : va_W} {H H1 : Heap} (hPX : va_P D vwCl wsX H) (hPM : va_P D vwCl wsM H) (hap : ∀ (i j : Nat) (u v : Nat × va_E), wsX[i]? = some u → wsM[j]? = some v → u.1 ≠ v.1) (hk : ∀ q : Nat, q < H.size → ¬ va_A wsX H.size q → H1[q]? = H[q]?) : va_P D vwCl wsM H1 := hPM.kept (fun j v hv => hk v.1 ((hPM j v hv).lt) (fun g => by
  rcases g with ⟨k, e0, hk0⟩ | g
  · exact hap k j _ v hk0 hv rfl
  · have := (hPM j v hv).lt
    omega))
/-- behind the switch: i becomes 6, the loop ends -/
theorem law_tail (hL6 : L = 6) (C0 : lw_At p s m meth c b L xs) {qx qm : Nat} {H : Heap} {locs : List Loc} (hS : va_S (fun q => s.heap.size ≤ q) s.heap H locs) {ls : Array Slot} (hl : lv_has ls 4 [(0, .ref b), (1, .ref qx), (2, .ref qm), (3, .int 0)]) : W p l e room_1 s m #[Value.ref b] below meth c H locs 211 15503 (lw_Z below #[Value.ref b] s) (F0 m 1237 ls []) := by
  obtain ⟨hx, hb, hr, hml, hown, hts0, hX, hbl, hlocks, hgv⟩ := C0
  have hbA : ¬ (fun q : Nat => s.heap.size ≤ q) b := Nat.not_le.mpr hbl
  subst hL6
  refine lv_iinc (v := 6) (lv' := [(3, .int 6), (0, .ref b), (1, .ref qx), (2, .ref qm)]) hx hb dL_law_1237 hl (k := 3) rfl (by decide +kernel) (by decide) rfl (fun ls hl => ?_)
  refine lv_goto (tgt := 18) hx hb dL_law_1240 (by decide) ?_
  refine lv_iload_n hx hb dL_law_18 rfl (lv_at hl 0 rfl) ?_
  refine lv_aload_n hx hb dL_law_19 rfl (lv_at hl 1 rfl) ?_
  refine va_slen hx hb hX hbl hbA hS dL_law_20 ?_
  refine lv_bipush (v := 6) hx hb dL_law_21 (by decide +kernel) ?_
  refine lv_isub hx hb dL_law_23 ?_
  refine lv_icmp_gt (tgt := 1243) hx hb dL_law_24 (by decide) (fun _ => ?_) (fun g => absurd (by decide +kernel) g)
  refine lv_iconst (v := 1) hx hb dL_law_1243 (by decide) ?_
  refine va_forget (fun q hq => hS.2.2 q hq) ?_
  refine W.widen (k := 600000) (n := 7302250) (by decide) (by decide) ?_
  exact lw_ret hx hb hr hlocks dL_law_1244
/-- feed -/
theorem law_feed (hL6 : L = 6) (C0 : lw_At p s m meth c b L xs) (hK : va_K D vwCl (ri_tys κ) s) (hN : ri_N s) {wsX wsM : va_W} {qx qm : Nat} {H : Heap} {locs : List Loc} (hSt : lw_St s κ D hXc hMc wsX wsM qx qm H locs) {ls : Array Slot} (hl : lv_has ls 4 [(0, .ref b), (1, .ref qx), (2, .ref qm), (3, .int 0)]) : W p l e room_1 s m #[Value.ref b] below meth c H locs 211 15503 (lw_Z below #[Value.ref b] s) (F0 m 196 ls []) := by
  obtain ⟨hHX, hHM, hPX, hPM, hDX, hDM, hap, hqx, hqm, hS⟩ := hSt
  obtain ⟨hx, hb, hr, hml, hown, hts0, hX, hbl, hlocks, hgv⟩ := id C0
  have hbA : ¬ (fun q : Nat => s.heap.size ≤ q) b := Nat.not_le.mpr hbl
  subst hL6
  obtain ⟨z, cX, cM⟩ := ag_feed (xs (((0 : Int32) + 1).toNatClampNeg)) (xs (((0 : Int32) + 2).toNatClampNeg)) (xs (((0 : Int32) + 3).toNatClampNeg)) (xs (((0 : Int32) + 4).toNatClampNeg)) (xs (((0 : Int32) + 5).toNatClampNeg))
  refine lv_aload_n hx hb dL_law_196 rfl (lv_at hl 1 rfl) ?_
  refine lv_aload_n hx hb dL_law_197 rfl (lv_at hl 0 rfl) ?_
  refine lv_iload_n hx hb dL_law_198 rfl (lv_at hl 3 rfl) ?_
  refine lv_iconst (v := 1) hx hb dL_law_199 (by decide) ?_
  refine lv_iadd hx hb dL_law_200 ?_
  refine va_sld hx hb hX hbl hbA hS vi_1 dL_law_201 ?_
  refine lv_aload_n hx hb dL_law_202 rfl (lv_at hl 0 rfl) ?_
  refine lv_iload_n hx hb dL_law_203 rfl (lv_at hl 3 rfl) ?_
  refine lv_iconst (v := 2) hx hb dL_law_204 (by decide) ?_
  refine lv_iadd hx hb dL_law_205 ?_
  refine va_sld hx hb hX hbl hbA hS vi_2 dL_law_206 ?_
  refine lv_aload_n hx hb dL_law_207 rfl (lv_at hl 0 rfl) ?_
  refine lv_iload_n hx hb dL_law_208 rfl (lv_at hl 3 rfl) ?_
  refine lv_iconst (v := 3) hx hb dL_law_209 (by decide) ?_
  refine lv_iadd hx hb dL_law_210 ?_
  refine va_sld hx hb hX hbl hbA hS vi_3 dL_law_211 ?_
  refine lv_aload_n hx hb dL_law_212 rfl (lv_at hl 0 rfl) ?_
  refine lv_iload_n hx hb dL_law_213 rfl (lv_at hl 3 rfl) ?_
  refine lv_iconst (v := 4) hx hb dL_law_214 (by decide) ?_
  refine lv_iadd hx hb dL_law_215 ?_
  refine va_sld hx hb hX hbl hbA hS vi_4 dL_law_216 ?_
  refine lv_aload_n hx hb dL_law_217 rfl (lv_at hl 0 rfl) ?_
  refine lv_iload_n hx hb dL_law_218 rfl (lv_at hl 3 rfl) ?_
  refine lv_iconst (v := 5) hx hb dL_law_219 (by decide) ?_
  refine lv_iadd hx hb dL_law_220 ?_
  refine va_sld hx hb hX hbl hbA hS vi_5 dL_law_221 ?_
  refine law_call (as := [xs (((0 : Int32) + 1).toNatClampNeg), xs (((0 : Int32) + 2).toNatClampNeg), xs (((0 : Int32) + 3).toNatClampNeg), xs (((0 : Int32) + 4).toNatClampNeg), xs (((0 : Int32) + 5).toNatClampNeg)]) (rest := []) (ci := 11) (T := TX11) (N := 11) C0 hK hN cX mT_64 rfl cw_576 cw_577 cw_578 yk_64 hHX rfl hPX hDX hS hqx (by decide) (by decide) (by decide) hl.1 rfl dL_law_222 (fun H1 locs1 z1 k1 hS1 => ?_)
  have hPM1 := law_kept hPX hPM hap k1
  refine lv_aload_n hx hb dL_law_225 rfl (lv_at hl 2 rfl) ?_
  refine lv_aload_n hx hb dL_law_226 rfl (lv_at hl 0 rfl) ?_
  refine lv_iload_n hx hb dL_law_227 rfl (lv_at hl 3 rfl) ?_
  refine lv_iconst (v := 1) hx hb dL_law_228 (by decide) ?_
  refine lv_iadd hx hb dL_law_229 ?_
  refine va_sld hx hb hX hbl hbA hS1 vi_1 dL_law_230 ?_
  refine lv_aload_n hx hb dL_law_231 rfl (lv_at hl 0 rfl) ?_
  refine lv_iload_n hx hb dL_law_232 rfl (lv_at hl 3 rfl) ?_
  refine lv_iconst (v := 2) hx hb dL_law_233 (by decide) ?_
  refine lv_iadd hx hb dL_law_234 ?_
  refine va_sld hx hb hX hbl hbA hS1 vi_2 dL_law_235 ?_
  refine lv_aload_n hx hb dL_law_236 rfl (lv_at hl 0 rfl) ?_
  refine lv_iload_n hx hb dL_law_237 rfl (lv_at hl 3 rfl) ?_
  refine lv_iconst (v := 3) hx hb dL_law_238 (by decide) ?_
  refine lv_iadd hx hb dL_law_239 ?_
  refine va_sld hx hb hX hbl hbA hS1 vi_3 dL_law_240 ?_
  refine lv_aload_n hx hb dL_law_241 rfl (lv_at hl 0 rfl) ?_
  refine lv_iload_n hx hb dL_law_242 rfl (lv_at hl 3 rfl) ?_
  refine lv_iconst (v := 4) hx hb dL_law_243 (by decide) ?_
  refine lv_iadd hx hb dL_law_244 ?_
  refine va_sld hx hb hX hbl hbA hS1 vi_4 dL_law_245 ?_
  refine lv_aload_n hx hb dL_law_246 rfl (lv_at hl 0 rfl) ?_
  refine lv_iload_n hx hb dL_law_247 rfl (lv_at hl 3 rfl) ?_
  refine lv_iconst (v := 5) hx hb dL_law_248 (by decide) ?_
  refine lv_iadd hx hb dL_law_249 ?_
  refine va_sld hx hb hX hbl hbA hS1 vi_5 dL_law_250 ?_
  refine law_call (as := [xs (((0 : Int32) + 1).toNatClampNeg), xs (((0 : Int32) + 2).toNatClampNeg), xs (((0 : Int32) + 3).toNatClampNeg), xs (((0 : Int32) + 4).toNatClampNeg), xs (((0 : Int32) + 5).toNatClampNeg)]) (rest := [.int z]) (ci := 12) (T := TX12) (N := 113) C0 hK hN cM mT_112 rfl cw_2218 cw_2219 cw_2220 yk_112 hHM rfl hPM1 hDM hS1 hqm (Nat.le_of_ble_eq_true rfl) (by decide) (by decide) hl.1 rfl dL_law_251 (fun H2 locs2 z2 k2 hS2 => ?_)
  refine lv_icmp_eq (tgt := 1237) hx hb dL_law_254 (by decide) (fun _ => ?_) (fun g => absurd rfl g)
  exact law_tail rfl C0 hS2 hl
/-- end -/
theorem law_end (hL6 : L = 6) (C0 : lw_At p s m meth c b L xs) (hK : va_K D vwCl (ri_tys κ) s) (hN : ri_N s) {wsX wsM : va_W} {qx qm : Nat} {H : Heap} {locs : List Loc} (hSt : lw_St s κ D hXc hMc wsX wsM qx qm H locs) {ls : Array Slot} (hl : lv_has ls 4 [(0, .ref b), (1, .ref qx), (2, .ref qm), (3, .int 0)]) : W p l e room_1 s m #[Value.ref b] below meth c H locs 211 15503 (lw_Z below #[Value.ref b] s) (F0 m 259 ls []) := by
  obtain ⟨hHX, hHM, hPX, hPM, hDX, hDM, hap, hqx, hqm, hS⟩ := hSt
  obtain ⟨hx, hb, hr, hml, hown, hts0, hX, hbl, hlocks, hgv⟩ := id C0
  have hbA : ¬ (fun q : Nat => s.heap.size ≤ q) b := Nat.not_le.mpr hbl
  subst hL6
  obtain ⟨z, cX, cM⟩ := ag_end (xs (((0 : Int32) + 1).toNatClampNeg))
  refine lv_aload_n hx hb dL_law_259 rfl (lv_at hl 1 rfl) ?_
  refine lv_aload_n hx hb dL_law_260 rfl (lv_at hl 0 rfl) ?_
  refine lv_iload_n hx hb dL_law_261 rfl (lv_at hl 3 rfl) ?_
  refine lv_iconst (v := 1) hx hb dL_law_262 (by decide) ?_
  refine lv_iadd hx hb dL_law_263 ?_
  refine va_sld hx hb hX hbl hbA hS vi_1 dL_law_264 ?_
  refine law_call (as := [xs (((0 : Int32) + 1).toNatClampNeg)]) (rest := []) (ci := 11) (T := TX11) (N := 11) C0 hK hN cX mT_61 rfl cw_584 cw_585 cw_586 yk_61 hHX rfl hPX hDX hS hqx (by decide) (by decide) (by decide) hl.1 rfl dL_law_265 (fun H1 locs1 z1 k1 hS1 => ?_)
  have hPM1 := law_kept hPX hPM hap k1
  refine lv_aload_n hx hb dL_law_268 rfl (lv_at hl 2 rfl) ?_
  refine lv_aload_n hx hb dL_law_269 rfl (lv_at hl 0 rfl) ?_
  refine lv_iload_n hx hb dL_law_270 rfl (lv_at hl 3 rfl) ?_
  refine lv_iconst (v := 1) hx hb dL_law_271 (by decide) ?_
  refine lv_iadd hx hb dL_law_272 ?_
  refine va_sld hx hb hX hbl hbA hS1 vi_1 dL_law_273 ?_
  refine law_call (as := [xs (((0 : Int32) + 1).toNatClampNeg)]) (rest := [.int z]) (ci := 12) (T := TX12) (N := 113) C0 hK hN cM mT_109 rfl cw_2222 cw_2223 cw_2224 yk_109 hHM rfl hPM1 hDM hS1 hqm (Nat.le_of_ble_eq_true rfl) (by decide) (by decide) hl.1 rfl dL_law_274 (fun H2 locs2 z2 k2 hS2 => ?_)
  refine lv_icmp_eq (tgt := 1237) hx hb dL_law_277 (by decide) (fun _ => ?_) (fun g => absurd rfl g)
  exact law_tail rfl C0 hS2 hl
/-- street -/
theorem law_street (hL6 : L = 6) (C0 : lw_At p s m meth c b L xs) (hK : va_K D vwCl (ri_tys κ) s) (hN : ri_N s) {wsX wsM : va_W} {qx qm : Nat} {H : Heap} {locs : List Loc} (hSt : lw_St s κ D hXc hMc wsX wsM qx qm H locs) {ls : Array Slot} (hl : lv_has ls 4 [(0, .ref b), (1, .ref qx), (2, .ref qm), (3, .int 0)]) : W p l e room_1 s m #[Value.ref b] below meth c H locs 211 15503 (lw_Z below #[Value.ref b] s) (F0 m 282 ls []) := by
  obtain ⟨hHX, hHM, hPX, hPM, hDX, hDM, hap, hqx, hqm, hS⟩ := hSt
  obtain ⟨hx, hb, hr, hml, hown, hts0, hX, hbl, hlocks, hgv⟩ := id C0
  have hbA : ¬ (fun q : Nat => s.heap.size ≤ q) b := Nat.not_le.mpr hbl
  subst hL6
  obtain ⟨z, cX, cM⟩ := ag_street
  refine lv_aload_n hx hb dL_law_282 rfl (lv_at hl 1 rfl) ?_
  refine law_call (as := []) (rest := []) (ci := 11) (T := TX11) (N := 11) C0 hK hN cX mT_87 rfl cw_588 cw_589 cw_590 yk_87 hHX rfl hPX hDX hS hqx (by decide) (by decide) (by decide) hl.1 rfl dL_law_283 (fun H1 locs1 z1 k1 hS1 => ?_)
  have hPM1 := law_kept hPX hPM hap k1
  refine lv_aload_n hx hb dL_law_286 rfl (lv_at hl 2 rfl) ?_
  refine law_call (as := []) (rest := [.int z]) (ci := 12) (T := TX12) (N := 113) C0 hK hN cM mT_151 rfl cw_1726 cw_1727 cw_1728 yk_151 hHM rfl hPM1 hDM hS1 hqm (Nat.le_of_ble_eq_true rfl) (by decide) (by decide) hl.1 rfl dL_law_287 (fun H2 locs2 z2 k2 hS2 => ?_)
  refine lv_icmp_eq (tgt := 1237) hx hb dL_law_290 (by decide) (fun _ => ?_) (fun g => absurd rfl g)
  exact law_tail rfl C0 hS2 hl
/-- fault -/
theorem law_fault (hL6 : L = 6) (C0 : lw_At p s m meth c b L xs) (hK : va_K D vwCl (ri_tys κ) s) (hN : ri_N s) {wsX wsM : va_W} {qx qm : Nat} {H : Heap} {locs : List Loc} (hSt : lw_St s κ D hXc hMc wsX wsM qx qm H locs) {ls : Array Slot} (hl : lv_has ls 4 [(0, .ref b), (1, .ref qx), (2, .ref qm), (3, .int 0)]) : W p l e room_1 s m #[Value.ref b] below meth c H locs 211 15503 (lw_Z below #[Value.ref b] s) (F0 m 295 ls []) := by
  obtain ⟨hHX, hHM, hPX, hPM, hDX, hDM, hap, hqx, hqm, hS⟩ := hSt
  obtain ⟨hx, hb, hr, hml, hown, hts0, hX, hbl, hlocks, hgv⟩ := id C0
  have hbA : ¬ (fun q : Nat => s.heap.size ≤ q) b := Nat.not_le.mpr hbl
  subst hL6
  obtain ⟨z, cX, cM⟩ := ag_fault (xs (((0 : Int32) + 1).toNatClampNeg))
  refine lv_aload_n hx hb dL_law_295 rfl (lv_at hl 1 rfl) ?_
  refine lv_aload_n hx hb dL_law_296 rfl (lv_at hl 0 rfl) ?_
  refine lv_iload_n hx hb dL_law_297 rfl (lv_at hl 3 rfl) ?_
  refine lv_iconst (v := 1) hx hb dL_law_298 (by decide) ?_
  refine lv_iadd hx hb dL_law_299 ?_
  refine va_sld hx hb hX hbl hbA hS vi_1 dL_law_300 ?_
  refine law_call (as := [xs (((0 : Int32) + 1).toNatClampNeg)]) (rest := []) (ci := 11) (T := TX11) (N := 11) C0 hK hN cX mT_63 rfl cw_925 cw_926 cw_927 yk_63 hHX rfl hPX hDX hS hqx (by decide) (by decide) (by decide) hl.1 rfl dL_law_301 (fun H1 locs1 z1 k1 hS1 => ?_)
  have hPM1 := law_kept hPX hPM hap k1
  refine lv_aload_n hx hb dL_law_304 rfl (lv_at hl 2 rfl) ?_
  refine lv_aload_n hx hb dL_law_305 rfl (lv_at hl 0 rfl) ?_
  refine lv_iload_n hx hb dL_law_306 rfl (lv_at hl 3 rfl) ?_
  refine lv_iconst (v := 1) hx hb dL_law_307 (by decide) ?_
  refine lv_iadd hx hb dL_law_308 ?_
  refine va_sld hx hb hX hbl hbA hS1 vi_1 dL_law_309 ?_
  refine law_call (as := [xs (((0 : Int32) + 1).toNatClampNeg)]) (rest := [.int z]) (ci := 12) (T := TX12) (N := 113) C0 hK hN cM mT_111 rfl cw_1896 cw_1897 cw_1898 yk_111 hHM rfl hPM1 hDM hS1 hqm (Nat.le_of_ble_eq_true rfl) (by decide) (by decide) hl.1 rfl dL_law_310 (fun H2 locs2 z2 k2 hS2 => ?_)
  refine lv_icmp_eq (tgt := 1237) hx hb dL_law_313 (by decide) (fun _ => ?_) (fun g => absurd rfl g)
  exact law_tail rfl C0 hS2 hl
/-- run -/
theorem law_run (hL6 : L = 6) (C0 : lw_At p s m meth c b L xs) (hK : va_K D vwCl (ri_tys κ) s) (hN : ri_N s) {wsX wsM : va_W} {qx qm : Nat} {H : Heap} {locs : List Loc} (hSt : lw_St s κ D hXc hMc wsX wsM qx qm H locs) {ls : Array Slot} (hl : lv_has ls 4 [(0, .ref b), (1, .ref qx), (2, .ref qm), (3, .int 0)]) : W p l e room_1 s m #[Value.ref b] below meth c H locs 211 15503 (lw_Z below #[Value.ref b] s) (F0 m 318 ls []) := by
  obtain ⟨hHX, hHM, hPX, hPM, hDX, hDM, hap, hqx, hqm, hS⟩ := hSt
  obtain ⟨hx, hb, hr, hml, hown, hts0, hX, hbl, hlocks, hgv⟩ := id C0
  have hbA : ¬ (fun q : Nat => s.heap.size ≤ q) b := Nat.not_le.mpr hbl
  subst hL6
  obtain ⟨z, cX, cM⟩ := ag_run (xs (((0 : Int32) + 1).toNatClampNeg))
  refine lv_aload_n hx hb dL_law_318 rfl (lv_at hl 1 rfl) ?_
  refine lv_aload_n hx hb dL_law_319 rfl (lv_at hl 0 rfl) ?_
  refine lv_iload_n hx hb dL_law_320 rfl (lv_at hl 3 rfl) ?_
  refine lv_iconst (v := 1) hx hb dL_law_321 (by decide) ?_
  refine lv_iadd hx hb dL_law_322 ?_
  refine va_sld hx hb hX hbl hbA hS vi_1 dL_law_323 ?_
  refine law_call (as := [xs (((0 : Int32) + 1).toNatClampNeg)]) (rest := []) (ci := 11) (T := TX11) (N := 11) C0 hK hN cX mT_80 rfl cw_929 cw_930 cw_931 yk_80 hHX rfl hPX hDX hS hqx (by decide) (by decide) (by decide) hl.1 rfl dL_law_324 (fun H1 locs1 z1 k1 hS1 => ?_)
  have hPM1 := law_kept hPX hPM hap k1
  refine lv_aload_n hx hb dL_law_327 rfl (lv_at hl 2 rfl) ?_
  refine lv_aload_n hx hb dL_law_328 rfl (lv_at hl 0 rfl) ?_
  refine lv_iload_n hx hb dL_law_329 rfl (lv_at hl 3 rfl) ?_
  refine lv_iconst (v := 1) hx hb dL_law_330 (by decide) ?_
  refine lv_iadd hx hb dL_law_331 ?_
  refine va_sld hx hb hX hbl hbA hS1 vi_1 dL_law_332 ?_
  refine law_call (as := [xs (((0 : Int32) + 1).toNatClampNeg)]) (rest := [.int z]) (ci := 12) (T := TX12) (N := 113) C0 hK hN cM mT_142 rfl cw_1900 cw_1901 cw_1902 yk_142 hHM rfl hPM1 hDM hS1 hqm (Nat.le_of_ble_eq_true rfl) (by decide) (by decide) hl.1 rfl dL_law_333 (fun H2 locs2 z2 k2 hS2 => ?_)
  refine lv_icmp_eq (tgt := 1237) hx hb dL_law_336 (by decide) (fun _ => ?_) (fun g => absurd rfl g)
  exact law_tail rfl C0 hS2 hl
/-- car -/
theorem law_car (hL6 : L = 6) (C0 : lw_At p s m meth c b L xs) (hK : va_K D vwCl (ri_tys κ) s) (hN : ri_N s) {wsX wsM : va_W} {qx qm : Nat} {H : Heap} {locs : List Loc} (hSt : lw_St s κ D hXc hMc wsX wsM qx qm H locs) {ls : Array Slot} (hl : lv_has ls 4 [(0, .ref b), (1, .ref qx), (2, .ref qm), (3, .int 0)]) : W p l e room_1 s m #[Value.ref b] below meth c H locs 211 15503 (lw_Z below #[Value.ref b] s) (F0 m 341 ls []) := by
  obtain ⟨hHX, hHM, hPX, hPM, hDX, hDM, hap, hqx, hqm, hS⟩ := hSt
  obtain ⟨hx, hb, hr, hml, hown, hts0, hX, hbl, hlocks, hgv⟩ := id C0
  have hbA : ¬ (fun q : Nat => s.heap.size ≤ q) b := Nat.not_le.mpr hbl
  subst hL6
  obtain ⟨z, cX, cM⟩ := ag_car (xs (((0 : Int32) + 1).toNatClampNeg)) (xs (((0 : Int32) + 2).toNatClampNeg))
  refine lv_aload_n hx hb dL_law_341 rfl (lv_at hl 1 rfl) ?_
  refine lv_aload_n hx hb dL_law_342 rfl (lv_at hl 0 rfl) ?_
  refine lv_iload_n hx hb dL_law_343 rfl (lv_at hl 3 rfl) ?_
  refine lv_iconst (v := 1) hx hb dL_law_344 (by decide) ?_
  refine lv_iadd hx hb dL_law_345 ?_
  refine va_sld hx hb hX hbl hbA hS vi_1 dL_law_346 ?_
  refine lv_aload_n hx hb dL_law_347 rfl (lv_at hl 0 rfl) ?_
  refine lv_iload_n hx hb dL_law_348 rfl (lv_at hl 3 rfl) ?_
  refine lv_iconst (v := 2) hx hb dL_law_349 (by decide) ?_
  refine lv_iadd hx hb dL_law_350 ?_
  refine va_sld hx hb hX hbl hbA hS vi_2 dL_law_351 ?_
  refine law_call (as := [xs (((0 : Int32) + 1).toNatClampNeg), xs (((0 : Int32) + 2).toNatClampNeg)]) (rest := []) (ci := 11) (T := TX11) (N := 11) C0 hK hN cX mT_56 rfl cw_1106 cw_1107 cw_1108 yk_56 hHX rfl hPX hDX hS hqx (by decide) (by decide) (by decide) hl.1 rfl dL_law_352 (fun H1 locs1 z1 k1 hS1 => ?_)
  have hPM1 := law_kept hPX hPM hap k1
  refine lv_aload_n hx hb dL_law_355 rfl (lv_at hl 2 rfl) ?_
  refine lv_aload_n hx hb dL_law_356 rfl (lv_at hl 0 rfl) ?_
  refine lv_iload_n hx hb dL_law_357 rfl (lv_at hl 3 rfl) ?_
  refine lv_iconst (v := 1) hx hb dL_law_358 (by decide) ?_
  refine lv_iadd hx hb dL_law_359 ?_
  refine va_sld hx hb hX hbl hbA hS1 vi_1 dL_law_360 ?_
  refine lv_aload_n hx hb dL_law_361 rfl (lv_at hl 0 rfl) ?_
  refine lv_iload_n hx hb dL_law_362 rfl (lv_at hl 3 rfl) ?_
  refine lv_iconst (v := 2) hx hb dL_law_363 (by decide) ?_
  refine lv_iadd hx hb dL_law_364 ?_
  refine va_sld hx hb hX hbl hbA hS1 vi_2 dL_law_365 ?_
  refine law_call (as := [xs (((0 : Int32) + 1).toNatClampNeg), xs (((0 : Int32) + 2).toNatClampNeg)]) (rest := [.int z]) (ci := 12) (T := TX12) (N := 113) C0 hK hN cM mT_99 rfl cw_2030 cw_2031 cw_2032 yk_99 hHM rfl hPM1 hDM hS1 hqm (Nat.le_of_ble_eq_true rfl) (by decide) (by decide) hl.1 rfl dL_law_366 (fun H2 locs2 z2 k2 hS2 => ?_)
  refine lv_icmp_eq (tgt := 1237) hx hb dL_law_369 (by decide) (fun _ => ?_) (fun g => absurd rfl g)
  exact law_tail rfl C0 hS2 hl
/-- speed -/
theorem law_speed (hL6 : L = 6) (C0 : lw_At p s m meth c b L xs) (hK : va_K D vwCl (ri_tys κ) s) (hN : ri_N s) {wsX wsM : va_W} {qx qm : Nat} {H : Heap} {locs : List Loc} (hSt : lw_St s κ D hXc hMc wsX wsM qx qm H locs) {ls : Array Slot} (hl : lv_has ls 4 [(0, .ref b), (1, .ref qx), (2, .ref qm), (3, .int 0)]) : W p l e room_1 s m #[Value.ref b] below meth c H locs 211 15503 (lw_Z below #[Value.ref b] s) (F0 m 374 ls []) := by
  obtain ⟨hHX, hHM, hPX, hPM, hDX, hDM, hap, hqx, hqm, hS⟩ := hSt
  obtain ⟨hx, hb, hr, hml, hown, hts0, hX, hbl, hlocks, hgv⟩ := id C0
  have hbA : ¬ (fun q : Nat => s.heap.size ≤ q) b := Nat.not_le.mpr hbl
  subst hL6
  obtain ⟨z, cX, cM⟩ := ag_speed (xs (((0 : Int32) + 1).toNatClampNeg))
  refine lv_aload_n hx hb dL_law_374 rfl (lv_at hl 1 rfl) ?_
  refine lv_aload_n hx hb dL_law_375 rfl (lv_at hl 0 rfl) ?_
  refine lv_iload_n hx hb dL_law_376 rfl (lv_at hl 3 rfl) ?_
  refine lv_iconst (v := 1) hx hb dL_law_377 (by decide) ?_
  refine lv_iadd hx hb dL_law_378 ?_
  refine va_sld hx hb hX hbl hbA hS vi_1 dL_law_379 ?_
  refine law_call (as := [xs (((0 : Int32) + 1).toNatClampNeg)]) (rest := []) (ci := 11) (T := TX11) (N := 11) C0 hK hN cX mT_82 rfl cw_1111 cw_1112 cw_1113 yk_82 hHX rfl hPX hDX hS hqx (by decide) (by decide) (by decide) hl.1 rfl dL_law_380 (fun H1 locs1 z1 k1 hS1 => ?_)
  have hPM1 := law_kept hPX hPM hap k1
  refine lv_aload_n hx hb dL_law_383 rfl (lv_at hl 2 rfl) ?_
  refine lv_aload_n hx hb dL_law_384 rfl (lv_at hl 0 rfl) ?_
  refine lv_iload_n hx hb dL_law_385 rfl (lv_at hl 3 rfl) ?_
  refine lv_iconst (v := 1) hx hb dL_law_386 (by decide) ?_
  refine lv_iadd hx hb dL_law_387 ?_
  refine va_sld hx hb hX hbl hbA hS1 vi_1 dL_law_388 ?_
  refine law_call (as := [xs (((0 : Int32) + 1).toNatClampNeg)]) (rest := [.int z]) (ci := 12) (T := TX12) (N := 113) C0 hK hN cM mT_146 rfl cw_2038 cw_2039 cw_2040 yk_146 hHM rfl hPM1 hDM hS1 hqm (Nat.le_of_ble_eq_true rfl) (by decide) (by decide) hl.1 rfl dL_law_389 (fun H2 locs2 z2 k2 hS2 => ?_)
  refine lv_icmp_eq (tgt := 1237) hx hb dL_law_392 (by decide) (fun _ => ?_) (fun g => absurd rfl g)
  exact law_tail rfl C0 hS2 hl
/-- rope -/
theorem law_rope (hL6 : L = 6) (C0 : lw_At p s m meth c b L xs) (hK : va_K D vwCl (ri_tys κ) s) (hN : ri_N s) {wsX wsM : va_W} {qx qm : Nat} {H : Heap} {locs : List Loc} (hSt : lw_St s κ D hXc hMc wsX wsM qx qm H locs) {ls : Array Slot} (hl : lv_has ls 4 [(0, .ref b), (1, .ref qx), (2, .ref qm), (3, .int 0)]) : W p l e room_1 s m #[Value.ref b] below meth c H locs 211 15503 (lw_Z below #[Value.ref b] s) (F0 m 397 ls []) := by
  obtain ⟨hHX, hHM, hPX, hPM, hDX, hDM, hap, hqx, hqm, hS⟩ := hSt
  obtain ⟨hx, hb, hr, hml, hown, hts0, hX, hbl, hlocks, hgv⟩ := id C0
  have hbA : ¬ (fun q : Nat => s.heap.size ≤ q) b := Nat.not_le.mpr hbl
  subst hL6
  obtain ⟨z, cX, cM⟩ := ag_rope (xs (((0 : Int32) + 1).toNatClampNeg)) (xs (((0 : Int32) + 2).toNatClampNeg))
  refine lv_aload_n hx hb dL_law_397 rfl (lv_at hl 1 rfl) ?_
  refine lv_aload_n hx hb dL_law_398 rfl (lv_at hl 0 rfl) ?_
  refine lv_iload_n hx hb dL_law_399 rfl (lv_at hl 3 rfl) ?_
  refine lv_iconst (v := 1) hx hb dL_law_400 (by decide) ?_
  refine lv_iadd hx hb dL_law_401 ?_
  refine va_sld hx hb hX hbl hbA hS vi_1 dL_law_402 ?_
  refine lv_aload_n hx hb dL_law_403 rfl (lv_at hl 0 rfl) ?_
  refine lv_iload_n hx hb dL_law_404 rfl (lv_at hl 3 rfl) ?_
  refine lv_iconst (v := 2) hx hb dL_law_405 (by decide) ?_
  refine lv_iadd hx hb dL_law_406 ?_
  refine va_sld hx hb hX hbl hbA hS vi_2 dL_law_407 ?_
  refine law_call (as := [xs (((0 : Int32) + 1).toNatClampNeg), xs (((0 : Int32) + 2).toNatClampNeg)]) (rest := []) (ci := 11) (T := TX11) (N := 11) C0 hK hN cX mT_79 rfl cw_1115 cw_1116 cw_1117 yk_79 hHX rfl hPX hDX hS hqx (by decide) (by decide) (by decide) hl.1 rfl dL_law_408 (fun H1 locs1 z1 k1 hS1 => ?_)
  have hPM1 := law_kept hPX hPM hap k1
  refine lv_aload_n hx hb dL_law_411 rfl (lv_at hl 2 rfl) ?_
  refine lv_aload_n hx hb dL_law_412 rfl (lv_at hl 0 rfl) ?_
  refine lv_iload_n hx hb dL_law_413 rfl (lv_at hl 3 rfl) ?_
  refine lv_iconst (v := 1) hx hb dL_law_414 (by decide) ?_
  refine lv_iadd hx hb dL_law_415 ?_
  refine va_sld hx hb hX hbl hbA hS1 vi_1 dL_law_416 ?_
  refine lv_aload_n hx hb dL_law_417 rfl (lv_at hl 0 rfl) ?_
  refine lv_iload_n hx hb dL_law_418 rfl (lv_at hl 3 rfl) ?_
  refine lv_iconst (v := 2) hx hb dL_law_419 (by decide) ?_
  refine lv_iadd hx hb dL_law_420 ?_
  refine va_sld hx hb hX hbl hbA hS1 vi_2 dL_law_421 ?_
  refine law_call (as := [xs (((0 : Int32) + 1).toNatClampNeg), xs (((0 : Int32) + 2).toNatClampNeg)]) (rest := [.int z]) (ci := 12) (T := TX12) (N := 113) C0 hK hN cM mT_140 rfl cw_2042 cw_2043 cw_2044 yk_140 hHM rfl hPM1 hDM hS1 hqm (Nat.le_of_ble_eq_true rfl) (by decide) (by decide) hl.1 rfl dL_law_422 (fun H2 locs2 z2 k2 hS2 => ?_)
  refine lv_icmp_eq (tgt := 1237) hx hb dL_law_425 (by decide) (fun _ => ?_) (fun g => absurd rfl g)
  exact law_tail rfl C0 hS2 hl
/-- count -/
theorem law_count (hL6 : L = 6) (C0 : lw_At p s m meth c b L xs) (hK : va_K D vwCl (ri_tys κ) s) (hN : ri_N s) {wsX wsM : va_W} {qx qm : Nat} {H : Heap} {locs : List Loc} (hSt : lw_St s κ D hXc hMc wsX wsM qx qm H locs) {ls : Array Slot} (hl : lv_has ls 4 [(0, .ref b), (1, .ref qx), (2, .ref qm), (3, .int 0)]) : W p l e room_1 s m #[Value.ref b] below meth c H locs 211 15503 (lw_Z below #[Value.ref b] s) (F0 m 430 ls []) := by
  obtain ⟨hHX, hHM, hPX, hPM, hDX, hDM, hap, hqx, hqm, hS⟩ := hSt
  obtain ⟨hx, hb, hr, hml, hown, hts0, hX, hbl, hlocks, hgv⟩ := id C0
  have hbA : ¬ (fun q : Nat => s.heap.size ≤ q) b := Nat.not_le.mpr hbl
  subst hL6
  obtain ⟨z, cX, cM⟩ := ag_count (xs (((0 : Int32) + 1).toNatClampNeg))
  refine lv_aload_n hx hb dL_law_430 rfl (lv_at hl 1 rfl) ?_
  refine lv_aload_n hx hb dL_law_431 rfl (lv_at hl 0 rfl) ?_
  refine lv_iload_n hx hb dL_law_432 rfl (lv_at hl 3 rfl) ?_
  refine lv_iconst (v := 1) hx hb dL_law_433 (by decide) ?_
  refine lv_iadd hx hb dL_law_434 ?_
  refine va_sld hx hb hX hbl hbA hS vi_1 dL_law_435 ?_
  refine law_call (as := [xs (((0 : Int32) + 1).toNatClampNeg)]) (rest := []) (ci := 11) (T := TX11) (N := 11) C0 hK hN cX mT_59 rfl cw_1122 cw_1123 cw_1124 yk_59 hHX rfl hPX hDX hS hqx (by decide) (by decide) (by decide) hl.1 rfl dL_law_436 (fun H1 locs1 z1 k1 hS1 => ?_)
  have hPM1 := law_kept hPX hPM hap k1
  refine lv_aload_n hx hb dL_law_439 rfl (lv_at hl 2 rfl) ?_
  refine lv_aload_n hx hb dL_law_440 rfl (lv_at hl 0 rfl) ?_
  refine lv_iload_n hx hb dL_law_441 rfl (lv_at hl 3 rfl) ?_
  refine lv_iconst (v := 1) hx hb dL_law_442 (by decide) ?_
  refine lv_iadd hx hb dL_law_443 ?_
  refine va_sld hx hb hX hbl hbA hS1 vi_1 dL_law_444 ?_
  refine law_call (as := [xs (((0 : Int32) + 1).toNatClampNeg)]) (rest := [.int z]) (ci := 12) (T := TX12) (N := 113) C0 hK hN cM mT_106 rfl cw_2050 cw_2051 cw_2052 yk_106 hHM rfl hPM1 hDM hS1 hqm (Nat.le_of_ble_eq_true rfl) (by decide) (by decide) hl.1 rfl dL_law_445 (fun H2 locs2 z2 k2 hS2 => ?_)
  refine lv_icmp_eq (tgt := 1237) hx hb dL_law_448 (by decide) (fun _ => ?_) (fun g => absurd rfl g)
  exact law_tail rfl C0 hS2 hl
/-- strand -/
theorem law_strand (hL6 : L = 6) (C0 : lw_At p s m meth c b L xs) (hK : va_K D vwCl (ri_tys κ) s) (hN : ri_N s) {wsX wsM : va_W} {qx qm : Nat} {H : Heap} {locs : List Loc} (hSt : lw_St s κ D hXc hMc wsX wsM qx qm H locs) {ls : Array Slot} (hl : lv_has ls 4 [(0, .ref b), (1, .ref qx), (2, .ref qm), (3, .int 0)]) : W p l e room_1 s m #[Value.ref b] below meth c H locs 211 15503 (lw_Z below #[Value.ref b] s) (F0 m 453 ls []) := by
  obtain ⟨hHX, hHM, hPX, hPM, hDX, hDM, hap, hqx, hqm, hS⟩ := hSt
  obtain ⟨hx, hb, hr, hml, hown, hts0, hX, hbl, hlocks, hgv⟩ := id C0
  have hbA : ¬ (fun q : Nat => s.heap.size ≤ q) b := Nat.not_le.mpr hbl
  subst hL6
  obtain ⟨z, cX, cM⟩ := ag_strand (xs (((0 : Int32) + 1).toNatClampNeg)) (xs (((0 : Int32) + 2).toNatClampNeg))
  refine lv_aload_n hx hb dL_law_453 rfl (lv_at hl 1 rfl) ?_
  refine lv_aload_n hx hb dL_law_454 rfl (lv_at hl 0 rfl) ?_
  refine lv_iload_n hx hb dL_law_455 rfl (lv_at hl 3 rfl) ?_
  refine lv_iconst (v := 1) hx hb dL_law_456 (by decide) ?_
  refine lv_iadd hx hb dL_law_457 ?_
  refine va_sld hx hb hX hbl hbA hS vi_1 dL_law_458 ?_
  refine lv_aload_n hx hb dL_law_459 rfl (lv_at hl 0 rfl) ?_
  refine lv_iload_n hx hb dL_law_460 rfl (lv_at hl 3 rfl) ?_
  refine lv_iconst (v := 2) hx hb dL_law_461 (by decide) ?_
  refine lv_iadd hx hb dL_law_462 ?_
  refine va_sld hx hb hX hbl hbA hS vi_2 dL_law_463 ?_
  refine law_call (as := [xs (((0 : Int32) + 1).toNatClampNeg), xs (((0 : Int32) + 2).toNatClampNeg)]) (rest := []) (ci := 11) (T := TX11) (N := 11) C0 hK hN cX mT_85 rfl cw_1126 cw_1127 cw_1128 yk_85 hHX rfl hPX hDX hS hqx (by decide) (by decide) (by decide) hl.1 rfl dL_law_464 (fun H1 locs1 z1 k1 hS1 => ?_)
  have hPM1 := law_kept hPX hPM hap k1
  refine lv_aload_n hx hb dL_law_467 rfl (lv_at hl 2 rfl) ?_
  refine lv_aload_n hx hb dL_law_468 rfl (lv_at hl 0 rfl) ?_
  refine lv_iload_n hx hb dL_law_469 rfl (lv_at hl 3 rfl) ?_
  refine lv_iconst (v := 1) hx hb dL_law_470 (by decide) ?_
  refine lv_iadd hx hb dL_law_471 ?_
  refine va_sld hx hb hX hbl hbA hS1 vi_1 dL_law_472 ?_
  refine lv_aload_n hx hb dL_law_473 rfl (lv_at hl 0 rfl) ?_
  refine lv_iload_n hx hb dL_law_474 rfl (lv_at hl 3 rfl) ?_
  refine lv_iconst (v := 2) hx hb dL_law_475 (by decide) ?_
  refine lv_iadd hx hb dL_law_476 ?_
  refine va_sld hx hb hX hbl hbA hS1 vi_2 dL_law_477 ?_
  refine law_call (as := [xs (((0 : Int32) + 1).toNatClampNeg), xs (((0 : Int32) + 2).toNatClampNeg)]) (rest := [.int z]) (ci := 12) (T := TX12) (N := 113) C0 hK hN cM mT_149 rfl cw_2054 cw_2055 cw_2056 yk_149 hHM rfl hPM1 hDM hS1 hqm (Nat.le_of_ble_eq_true rfl) (by decide) (by decide) hl.1 rfl dL_law_478 (fun H2 locs2 z2 k2 hS2 => ?_)
  refine lv_icmp_eq (tgt := 1237) hx hb dL_law_481 (by decide) (fun _ => ?_) (fun g => absurd rfl g)
  exact law_tail rfl C0 hS2 hl
/-- strandNow -/
theorem law_strandNow (hL6 : L = 6) (C0 : lw_At p s m meth c b L xs) (hK : va_K D vwCl (ri_tys κ) s) (hN : ri_N s) {wsX wsM : va_W} {qx qm : Nat} {H : Heap} {locs : List Loc} (hSt : lw_St s κ D hXc hMc wsX wsM qx qm H locs) {ls : Array Slot} (hl : lv_has ls 4 [(0, .ref b), (1, .ref qx), (2, .ref qm), (3, .int 0)]) : W p l e room_1 s m #[Value.ref b] below meth c H locs 211 15503 (lw_Z below #[Value.ref b] s) (F0 m 486 ls []) := by
  obtain ⟨hHX, hHM, hPX, hPM, hDX, hDM, hap, hqx, hqm, hS⟩ := hSt
  obtain ⟨hx, hb, hr, hml, hown, hts0, hX, hbl, hlocks, hgv⟩ := id C0
  have hbA : ¬ (fun q : Nat => s.heap.size ≤ q) b := Nat.not_le.mpr hbl
  subst hL6
  obtain ⟨z, cX, cM⟩ := ag_strandNow (xs (((0 : Int32) + 1).toNatClampNeg))
  refine lv_aload_n hx hb dL_law_486 rfl (lv_at hl 1 rfl) ?_
  refine lv_aload_n hx hb dL_law_487 rfl (lv_at hl 0 rfl) ?_
  refine lv_iload_n hx hb dL_law_488 rfl (lv_at hl 3 rfl) ?_
  refine lv_iconst (v := 1) hx hb dL_law_489 (by decide) ?_
  refine lv_iadd hx hb dL_law_490 ?_
  refine va_sld hx hb hX hbl hbA hS vi_1 dL_law_491 ?_
  refine law_call (as := [xs (((0 : Int32) + 1).toNatClampNeg)]) (rest := []) (ci := 11) (T := TX11) (N := 11) C0 hK hN cX mT_86 rfl cw_1131 cw_1132 cw_1133 yk_86 hHX rfl hPX hDX hS hqx (by decide) (by decide) (by decide) hl.1 rfl dL_law_492 (fun H1 locs1 z1 k1 hS1 => ?_)
  have hPM1 := law_kept hPX hPM hap k1
  refine lv_aload_n hx hb dL_law_495 rfl (lv_at hl 2 rfl) ?_
  refine lv_aload_n hx hb dL_law_496 rfl (lv_at hl 0 rfl) ?_
  refine lv_iload_n hx hb dL_law_497 rfl (lv_at hl 3 rfl) ?_
  refine lv_iconst (v := 1) hx hb dL_law_498 (by decide) ?_
  refine lv_iadd hx hb dL_law_499 ?_
  refine va_sld hx hb hX hbl hbA hS1 vi_1 dL_law_500 ?_
  refine law_call (as := [xs (((0 : Int32) + 1).toNatClampNeg)]) (rest := [.int z]) (ci := 12) (T := TX12) (N := 113) C0 hK hN cM mT_150 rfl cw_2062 cw_2063 cw_2064 yk_150 hHM rfl hPM1 hDM hS1 hqm (Nat.le_of_ble_eq_true rfl) (by decide) (by decide) hl.1 rfl dL_law_501 (fun H2 locs2 z2 k2 hS2 => ?_)
  refine lv_icmp_eq (tgt := 1237) hx hb dL_law_504 (by decide) (fun _ => ?_) (fun g => absurd rfl g)
  exact law_tail rfl C0 hS2 hl
/-- free -/
theorem law_free (hL6 : L = 6) (C0 : lw_At p s m meth c b L xs) (hK : va_K D vwCl (ri_tys κ) s) (hN : ri_N s) {wsX wsM : va_W} {qx qm : Nat} {H : Heap} {locs : List Loc} (hSt : lw_St s κ D hXc hMc wsX wsM qx qm H locs) {ls : Array Slot} (hl : lv_has ls 4 [(0, .ref b), (1, .ref qx), (2, .ref qm), (3, .int 0)]) : W p l e room_1 s m #[Value.ref b] below meth c H locs 211 15503 (lw_Z below #[Value.ref b] s) (F0 m 509 ls []) := by
  obtain ⟨hHX, hHM, hPX, hPM, hDX, hDM, hap, hqx, hqm, hS⟩ := hSt
  obtain ⟨hx, hb, hr, hml, hown, hts0, hX, hbl, hlocks, hgv⟩ := id C0
  have hbA : ¬ (fun q : Nat => s.heap.size ≤ q) b := Nat.not_le.mpr hbl
  subst hL6
  obtain ⟨z, cX, cM⟩ := ag_free (xs (((0 : Int32) + 1).toNatClampNeg))
  refine lv_aload_n hx hb dL_law_509 rfl (lv_at hl 1 rfl) ?_
  refine lv_aload_n hx hb dL_law_510 rfl (lv_at hl 0 rfl) ?_
  refine lv_iload_n hx hb dL_law_511 rfl (lv_at hl 3 rfl) ?_
  refine lv_iconst (v := 1) hx hb dL_law_512 (by decide) ?_
  refine lv_iadd hx hb dL_law_513 ?_
  refine va_sld hx hb hX hbl hbA hS vi_1 dL_law_514 ?_
  refine law_call (as := [xs (((0 : Int32) + 1).toNatClampNeg)]) (rest := []) (ci := 11) (T := TX11) (N := 11) C0 hK hN cX mT_65 rfl cw_1136 cw_1137 cw_1138 yk_65 hHX rfl hPX hDX hS hqx (by decide) (by decide) (by decide) hl.1 rfl dL_law_515 (fun H1 locs1 z1 k1 hS1 => ?_)
  have hPM1 := law_kept hPX hPM hap k1
  refine lv_aload_n hx hb dL_law_518 rfl (lv_at hl 2 rfl) ?_
  refine lv_aload_n hx hb dL_law_519 rfl (lv_at hl 0 rfl) ?_
  refine lv_iload_n hx hb dL_law_520 rfl (lv_at hl 3 rfl) ?_
  refine lv_iconst (v := 1) hx hb dL_law_521 (by decide) ?_
  refine lv_iadd hx hb dL_law_522 ?_
  refine va_sld hx hb hX hbl hbA hS1 vi_1 dL_law_523 ?_
  refine law_call (as := [xs (((0 : Int32) + 1).toNatClampNeg)]) (rest := [.int z]) (ci := 12) (T := TX12) (N := 113) C0 hK hN cM mT_114 rfl cw_2066 cw_2067 cw_2068 yk_114 hHM rfl hPM1 hDM hS1 hqm (Nat.le_of_ble_eq_true rfl) (by decide) (by decide) hl.1 rfl dL_law_524 (fun H2 locs2 z2 k2 hS2 => ?_)
  refine lv_icmp_eq (tgt := 1237) hx hb dL_law_527 (by decide) (fun _ => ?_) (fun g => absurd rfl g)
  exact law_tail rfl C0 hS2 hl
/-- splice -/
theorem law_splice (hL6 : L = 6) (C0 : lw_At p s m meth c b L xs) (hK : va_K D vwCl (ri_tys κ) s) (hN : ri_N s) {wsX wsM : va_W} {qx qm : Nat} {H : Heap} {locs : List Loc} (hSt : lw_St s κ D hXc hMc wsX wsM qx qm H locs) {ls : Array Slot} (hl : lv_has ls 4 [(0, .ref b), (1, .ref qx), (2, .ref qm), (3, .int 0)]) : W p l e room_1 s m #[Value.ref b] below meth c H locs 211 15503 (lw_Z below #[Value.ref b] s) (F0 m 532 ls []) := by
  obtain ⟨hHX, hHM, hPX, hPM, hDX, hDM, hap, hqx, hqm, hS⟩ := hSt
  obtain ⟨hx, hb, hr, hml, hown, hts0, hX, hbl, hlocks, hgv⟩ := id C0
  have hbA : ¬ (fun q : Nat => s.heap.size ≤ q) b := Nat.not_le.mpr hbl
  subst hL6
  obtain ⟨z, cX, cM⟩ := ag_splice (xs (((0 : Int32) + 1).toNatClampNeg)) (xs (((0 : Int32) + 2).toNatClampNeg))
  refine lv_aload_n hx hb dL_law_532 rfl (lv_at hl 1 rfl) ?_
  refine lv_aload_n hx hb dL_law_533 rfl (lv_at hl 0 rfl) ?_
  refine lv_iload_n hx hb dL_law_534 rfl (lv_at hl 3 rfl) ?_
  refine lv_iconst (v := 1) hx hb dL_law_535 (by decide) ?_
  refine lv_iadd hx hb dL_law_536 ?_
  refine va_sld hx hb hX hbl hbA hS vi_1 dL_law_537 ?_
  refine lv_aload_n hx hb dL_law_538 rfl (lv_at hl 0 rfl) ?_
  refine lv_iload_n hx hb dL_law_539 rfl (lv_at hl 3 rfl) ?_
  refine lv_iconst (v := 2) hx hb dL_law_540 (by decide) ?_
  refine lv_iadd hx hb dL_law_541 ?_
  refine va_sld hx hb hX hbl hbA hS vi_2 dL_law_542 ?_
  refine law_call (as := [xs (((0 : Int32) + 1).toNatClampNeg), xs (((0 : Int32) + 2).toNatClampNeg)]) (rest := []) (ci := 11) (T := TX11) (N := 11) C0 hK hN cX mT_83 rfl cw_1140 cw_1141 cw_1142 yk_83 hHX rfl hPX hDX hS hqx (by decide) (by decide) (by decide) hl.1 rfl dL_law_543 (fun H1 locs1 z1 k1 hS1 => ?_)
  have hPM1 := law_kept hPX hPM hap k1
  refine lv_aload_n hx hb dL_law_546 rfl (lv_at hl 2 rfl) ?_
  refine lv_aload_n hx hb dL_law_547 rfl (lv_at hl 0 rfl) ?_
  refine lv_iload_n hx hb dL_law_548 rfl (lv_at hl 3 rfl) ?_
  refine lv_iconst (v := 1) hx hb dL_law_549 (by decide) ?_
  refine lv_iadd hx hb dL_law_550 ?_
  refine va_sld hx hb hX hbl hbA hS1 vi_1 dL_law_551 ?_
  refine lv_aload_n hx hb dL_law_552 rfl (lv_at hl 0 rfl) ?_
  refine lv_iload_n hx hb dL_law_553 rfl (lv_at hl 3 rfl) ?_
  refine lv_iconst (v := 2) hx hb dL_law_554 (by decide) ?_
  refine lv_iadd hx hb dL_law_555 ?_
  refine va_sld hx hb hX hbl hbA hS1 vi_2 dL_law_556 ?_
  refine law_call (as := [xs (((0 : Int32) + 1).toNatClampNeg), xs (((0 : Int32) + 2).toNatClampNeg)]) (rest := [.int z]) (ci := 12) (T := TX12) (N := 113) C0 hK hN cM mT_147 rfl cw_2070 cw_2071 cw_2072 yk_147 hHM rfl hPM1 hDM hS1 hqm (Nat.le_of_ble_eq_true rfl) (by decide) (by decide) hl.1 rfl dL_law_557 (fun H2 locs2 z2 k2 hS2 => ?_)
  refine lv_icmp_eq (tgt := 1237) hx hb dL_law_560 (by decide) (fun _ => ?_) (fun g => absurd rfl g)
  exact law_tail rfl C0 hS2 hl
/-- due -/
theorem law_due (hL6 : L = 6) (C0 : lw_At p s m meth c b L xs) (hK : va_K D vwCl (ri_tys κ) s) (hN : ri_N s) {wsX wsM : va_W} {qx qm : Nat} {H : Heap} {locs : List Loc} (hSt : lw_St s κ D hXc hMc wsX wsM qx qm H locs) {ls : Array Slot} (hl : lv_has ls 4 [(0, .ref b), (1, .ref qx), (2, .ref qm), (3, .int 0)]) : W p l e room_1 s m #[Value.ref b] below meth c H locs 211 15503 (lw_Z below #[Value.ref b] s) (F0 m 565 ls []) := by
  obtain ⟨hHX, hHM, hPX, hPM, hDX, hDM, hap, hqx, hqm, hS⟩ := hSt
  obtain ⟨hx, hb, hr, hml, hown, hts0, hX, hbl, hlocks, hgv⟩ := id C0
  have hbA : ¬ (fun q : Nat => s.heap.size ≤ q) b := Nat.not_le.mpr hbl
  subst hL6
  obtain ⟨z, cX, cM⟩ := ag_due (xs (((0 : Int32) + 1).toNatClampNeg))
  refine lv_aload_n hx hb dL_law_565 rfl (lv_at hl 1 rfl) ?_
  refine lv_aload_n hx hb dL_law_566 rfl (lv_at hl 0 rfl) ?_
  refine lv_iload_n hx hb dL_law_567 rfl (lv_at hl 3 rfl) ?_
  refine lv_iconst (v := 1) hx hb dL_law_568 (by decide) ?_
  refine lv_iadd hx hb dL_law_569 ?_
  refine va_sld hx hb hX hbl hbA hS vi_1 dL_law_570 ?_
  refine law_call (as := [xs (((0 : Int32) + 1).toNatClampNeg)]) (rest := []) (ci := 11) (T := TX11) (N := 11) C0 hK hN cX mT_60 rfl cw_1148 cw_1149 cw_1150 yk_60 hHX rfl hPX hDX hS hqx (by decide) (by decide) (by decide) hl.1 rfl dL_law_571 (fun H1 locs1 z1 k1 hS1 => ?_)
  have hPM1 := law_kept hPX hPM hap k1
  refine lv_aload_n hx hb dL_law_574 rfl (lv_at hl 2 rfl) ?_
  refine lv_aload_n hx hb dL_law_575 rfl (lv_at hl 0 rfl) ?_
  refine lv_iload_n hx hb dL_law_576 rfl (lv_at hl 3 rfl) ?_
  refine lv_iconst (v := 1) hx hb dL_law_577 (by decide) ?_
  refine lv_iadd hx hb dL_law_578 ?_
  refine va_sld hx hb hX hbl hbA hS1 vi_1 dL_law_579 ?_
  refine law_call (as := [xs (((0 : Int32) + 1).toNatClampNeg)]) (rest := [.int z]) (ci := 12) (T := TX12) (N := 113) C0 hK hN cM mT_108 rfl cw_2095 cw_2096 cw_2097 yk_108 hHM rfl hPM1 hDM hS1 hqm (Nat.le_of_ble_eq_true rfl) (by decide) (by decide) hl.1 rfl dL_law_580 (fun H2 locs2 z2 k2 hS2 => ?_)
  refine lv_icmp_eq (tgt := 1237) hx hb dL_law_583 (by decide) (fun _ => ?_) (fun g => absurd rfl g)
  exact law_tail rfl C0 hS2 hl
/-- cost -/
theorem law_cost (hL6 : L = 6) (C0 : lw_At p s m meth c b L xs) (hK : va_K D vwCl (ri_tys κ) s) (hN : ri_N s) {wsX wsM : va_W} {qx qm : Nat} {H : Heap} {locs : List Loc} (hSt : lw_St s κ D hXc hMc wsX wsM qx qm H locs) {ls : Array Slot} (hl : lv_has ls 4 [(0, .ref b), (1, .ref qx), (2, .ref qm), (3, .int 0)]) : W p l e room_1 s m #[Value.ref b] below meth c H locs 211 15503 (lw_Z below #[Value.ref b] s) (F0 m 588 ls []) := by
  obtain ⟨hHX, hHM, hPX, hPM, hDX, hDM, hap, hqx, hqm, hS⟩ := hSt
  obtain ⟨hx, hb, hr, hml, hown, hts0, hX, hbl, hlocks, hgv⟩ := id C0
  have hbA : ¬ (fun q : Nat => s.heap.size ≤ q) b := Nat.not_le.mpr hbl
  subst hL6
  obtain ⟨z, cX, cM⟩ := ag_cost (xs (((0 : Int32) + 1).toNatClampNeg)) (xs (((0 : Int32) + 2).toNatClampNeg))
  refine lv_aload_n hx hb dL_law_588 rfl (lv_at hl 1 rfl) ?_
  refine lv_aload_n hx hb dL_law_589 rfl (lv_at hl 0 rfl) ?_
  refine lv_iload_n hx hb dL_law_590 rfl (lv_at hl 3 rfl) ?_
  refine lv_iconst (v := 1) hx hb dL_law_591 (by decide) ?_
  refine lv_iadd hx hb dL_law_592 ?_
  refine va_sld hx hb hX hbl hbA hS vi_1 dL_law_593 ?_
  refine lv_aload_n hx hb dL_law_594 rfl (lv_at hl 0 rfl) ?_
  refine lv_iload_n hx hb dL_law_595 rfl (lv_at hl 3 rfl) ?_
  refine lv_iconst (v := 2) hx hb dL_law_596 (by decide) ?_
  refine lv_iadd hx hb dL_law_597 ?_
  refine va_sld hx hb hX hbl hbA hS vi_2 dL_law_598 ?_
  refine law_call (as := [xs (((0 : Int32) + 1).toNatClampNeg), xs (((0 : Int32) + 2).toNatClampNeg)]) (rest := []) (ci := 11) (T := TX11) (N := 11) C0 hK hN cX mT_58 rfl cw_1172 cw_1173 cw_1174 yk_58 hHX rfl hPX hDX hS hqx (by decide) (by decide) (by decide) hl.1 rfl dL_law_599 (fun H1 locs1 z1 k1 hS1 => ?_)
  have hPM1 := law_kept hPX hPM hap k1
  refine lv_aload_n hx hb dL_law_602 rfl (lv_at hl 2 rfl) ?_
  refine lv_aload_n hx hb dL_law_603 rfl (lv_at hl 0 rfl) ?_
  refine lv_iload_n hx hb dL_law_604 rfl (lv_at hl 3 rfl) ?_
  refine lv_iconst (v := 1) hx hb dL_law_605 (by decide) ?_
  refine lv_iadd hx hb dL_law_606 ?_
  refine va_sld hx hb hX hbl hbA hS1 vi_1 dL_law_607 ?_
  refine lv_aload_n hx hb dL_law_608 rfl (lv_at hl 0 rfl) ?_
  refine lv_iload_n hx hb dL_law_609 rfl (lv_at hl 3 rfl) ?_
  refine lv_iconst (v := 2) hx hb dL_law_610 (by decide) ?_
  refine lv_iadd hx hb dL_law_611 ?_
  refine va_sld hx hb hX hbl hbA hS1 vi_2 dL_law_612 ?_
  refine law_call (as := [xs (((0 : Int32) + 1).toNatClampNeg), xs (((0 : Int32) + 2).toNatClampNeg)]) (rest := [.int z]) (ci := 12) (T := TX12) (N := 113) C0 hK hN cM mT_105 rfl cw_2119 cw_2120 cw_2121 yk_105 hHM rfl hPM1 hDM hS1 hqm (Nat.le_of_ble_eq_true rfl) (by decide) (by decide) hl.1 rfl dL_law_613 (fun H2 locs2 z2 k2 hS2 => ?_)
  refine lv_icmp_eq (tgt := 1237) hx hb dL_law_616 (by decide) (fun _ => ?_) (fun g => absurd rfl g)
  exact law_tail rfl C0 hS2 hl
/-- halt -/
theorem law_halt (hL6 : L = 6) (C0 : lw_At p s m meth c b L xs) (hK : va_K D vwCl (ri_tys κ) s) (hN : ri_N s) {wsX wsM : va_W} {qx qm : Nat} {H : Heap} {locs : List Loc} (hSt : lw_St s κ D hXc hMc wsX wsM qx qm H locs) {ls : Array Slot} (hl : lv_has ls 4 [(0, .ref b), (1, .ref qx), (2, .ref qm), (3, .int 0)]) : W p l e room_1 s m #[Value.ref b] below meth c H locs 211 15503 (lw_Z below #[Value.ref b] s) (F0 m 621 ls []) := by
  obtain ⟨hHX, hHM, hPX, hPM, hDX, hDM, hap, hqx, hqm, hS⟩ := hSt
  obtain ⟨hx, hb, hr, hml, hown, hts0, hX, hbl, hlocks, hgv⟩ := id C0
  have hbA : ¬ (fun q : Nat => s.heap.size ≤ q) b := Nat.not_le.mpr hbl
  subst hL6
  obtain ⟨z, cX, cM⟩ := ag_halt (xs (((0 : Int32) + 1).toNatClampNeg))
  refine lv_aload_n hx hb dL_law_621 rfl (lv_at hl 1 rfl) ?_
  refine lv_aload_n hx hb dL_law_622 rfl (lv_at hl 0 rfl) ?_
  refine lv_iload_n hx hb dL_law_623 rfl (lv_at hl 3 rfl) ?_
  refine lv_iconst (v := 1) hx hb dL_law_624 (by decide) ?_
  refine lv_iadd hx hb dL_law_625 ?_
  refine va_sld hx hb hX hbl hbA hS vi_1 dL_law_626 ?_
  refine law_call (as := [xs (((0 : Int32) + 1).toNatClampNeg)]) (rest := []) (ci := 11) (T := TX11) (N := 11) C0 hK hN cX mT_66 rfl cw_1188 cw_1189 cw_1190 yk_66 hHX rfl hPX hDX hS hqx (by decide) (by decide) (by decide) hl.1 rfl dL_law_627 (fun H1 locs1 z1 k1 hS1 => ?_)
  have hPM1 := law_kept hPX hPM hap k1
  refine lv_aload_n hx hb dL_law_630 rfl (lv_at hl 2 rfl) ?_
  refine lv_aload_n hx hb dL_law_631 rfl (lv_at hl 0 rfl) ?_
  refine lv_iload_n hx hb dL_law_632 rfl (lv_at hl 3 rfl) ?_
  refine lv_iconst (v := 1) hx hb dL_law_633 (by decide) ?_
  refine lv_iadd hx hb dL_law_634 ?_
  refine va_sld hx hb hX hbl hbA hS1 vi_1 dL_law_635 ?_
  refine law_call (as := [xs (((0 : Int32) + 1).toNatClampNeg)]) (rest := [.int z]) (ci := 12) (T := TX12) (N := 113) C0 hK hN cM mT_118 rfl cw_2074 cw_2075 cw_2076 yk_118 hHM rfl hPM1 hDM hS1 hqm (Nat.le_of_ble_eq_true rfl) (by decide) (by decide) hl.1 rfl dL_law_636 (fun H2 locs2 z2 k2 hS2 => ?_)
  refine lv_icmp_eq (tgt := 1237) hx hb dL_law_639 (by decide) (fun _ => ?_) (fun g => absurd rfl g)
  exact law_tail rfl C0 hS2 hl
/-- rolls -/
theorem law_rolls (hL6 : L = 6) (C0 : lw_At p s m meth c b L xs) (hK : va_K D vwCl (ri_tys κ) s) (hN : ri_N s) {wsX wsM : va_W} {qx qm : Nat} {H : Heap} {locs : List Loc} (hSt : lw_St s κ D hXc hMc wsX wsM qx qm H locs) {ls : Array Slot} (hl : lv_has ls 4 [(0, .ref b), (1, .ref qx), (2, .ref qm), (3, .int 0)]) : W p l e room_1 s m #[Value.ref b] below meth c H locs 211 15503 (lw_Z below #[Value.ref b] s) (F0 m 644 ls []) := by
  obtain ⟨hHX, hHM, hPX, hPM, hDX, hDM, hap, hqx, hqm, hS⟩ := hSt
  obtain ⟨hx, hb, hr, hml, hown, hts0, hX, hbl, hlocks, hgv⟩ := id C0
  have hbA : ¬ (fun q : Nat => s.heap.size ≤ q) b := Nat.not_le.mpr hbl
  subst hL6
  obtain ⟨z, cX, cM⟩ := ag_rolls
  refine lv_aload_n hx hb dL_law_644 rfl (lv_at hl 1 rfl) ?_
  refine law_call (as := []) (rest := []) (ci := 11) (T := TX11) (N := 11) C0 hK hN cX mT_78 rfl cw_1193 cw_1194 cw_1195 yk_78 hHX rfl hPX hDX hS hqx (by decide) (by decide) (by decide) hl.1 rfl dL_law_645 (fun H1 locs1 z1 k1 hS1 => ?_)
  have hPM1 := law_kept hPX hPM hap k1
  refine lv_aload_n hx hb dL_law_648 rfl (lv_at hl 2 rfl) ?_
  refine law_call (as := []) (rest := [.int z]) (ci := 12) (T := TX12) (N := 113) C0 hK hN cM mT_139 rfl cw_2078 cw_2079 cw_2080 yk_139 hHM rfl hPM1 hDM hS1 hqm (Nat.le_of_ble_eq_true rfl) (by decide) (by decide) hl.1 rfl dL_law_649 (fun H2 locs2 z2 k2 hS2 => ?_)
  refine lv_icmp_eq (tgt := 1237) hx hb dL_law_652 (by decide) (fun _ => ?_) (fun g => absurd rfl g)
  exact law_tail rfl C0 hS2 hl
/-- trips -/
theorem law_trips (hL6 : L = 6) (C0 : lw_At p s m meth c b L xs) (hK : va_K D vwCl (ri_tys κ) s) (hN : ri_N s) {wsX wsM : va_W} {qx qm : Nat} {H : Heap} {locs : List Loc} (hSt : lw_St s κ D hXc hMc wsX wsM qx qm H locs) {ls : Array Slot} (hl : lv_has ls 4 [(0, .ref b), (1, .ref qx), (2, .ref qm), (3, .int 0)]) : W p l e room_1 s m #[Value.ref b] below meth c H locs 211 15503 (lw_Z below #[Value.ref b] s) (F0 m 657 ls []) := by
  obtain ⟨hHX, hHM, hPX, hPM, hDX, hDM, hap, hqx, hqm, hS⟩ := hSt
  obtain ⟨hx, hb, hr, hml, hown, hts0, hX, hbl, hlocks, hgv⟩ := id C0
  have hbA : ¬ (fun q : Nat => s.heap.size ≤ q) b := Nat.not_le.mpr hbl
  subst hL6
  obtain ⟨z, cX, cM⟩ := ag_trips (xs (((0 : Int32) + 1).toNatClampNeg))
  refine lv_aload_n hx hb dL_law_657 rfl (lv_at hl 1 rfl) ?_
  refine lv_aload_n hx hb dL_law_658 rfl (lv_at hl 0 rfl) ?_
  refine lv_iload_n hx hb dL_law_659 rfl (lv_at hl 3 rfl) ?_
  refine lv_iconst (v := 1) hx hb dL_law_660 (by decide) ?_
  refine lv_iadd hx hb dL_law_661 ?_
  refine va_sld hx hb hX hbl hbA hS vi_1 dL_law_662 ?_
  refine law_call (as := [xs (((0 : Int32) + 1).toNatClampNeg)]) (rest := []) (ci := 11) (T := TX11) (N := 11) C0 hK hN cX mT_89 rfl cw_1199 cw_1200 cw_1201 yk_89 hHX rfl hPX hDX hS hqx (by decide) (by decide) (by decide) hl.1 rfl dL_law_663 (fun H1 locs1 z1 k1 hS1 => ?_)
  have hPM1 := law_kept hPX hPM hap k1
  refine lv_aload_n hx hb dL_law_666 rfl (lv_at hl 2 rfl) ?_
  refine lv_aload_n hx hb dL_law_667 rfl (lv_at hl 0 rfl) ?_
  refine lv_iload_n hx hb dL_law_668 rfl (lv_at hl 3 rfl) ?_
  refine lv_iconst (v := 1) hx hb dL_law_669 (by decide) ?_
  refine lv_iadd hx hb dL_law_670 ?_
  refine va_sld hx hb hX hbl hbA hS1 vi_1 dL_law_671 ?_
  refine law_call (as := [xs (((0 : Int32) + 1).toNatClampNeg)]) (rest := [.int z]) (ci := 12) (T := TX12) (N := 113) C0 hK hN cM mT_154 rfl cw_2082 cw_2083 cw_2084 yk_154 hHM rfl hPM1 hDM hS1 hqm (Nat.le_of_ble_eq_true rfl) (by decide) (by decide) hl.1 rfl dL_law_672 (fun H2 locs2 z2 k2 hS2 => ?_)
  refine lv_icmp_eq (tgt := 1237) hx hb dL_law_675 (by decide) (fun _ => ?_) (fun g => absurd rfl g)
  exact law_tail rfl C0 hS2 hl
/-- asks -/
theorem law_asks (hL6 : L = 6) (C0 : lw_At p s m meth c b L xs) (hK : va_K D vwCl (ri_tys κ) s) (hN : ri_N s) {wsX wsM : va_W} {qx qm : Nat} {H : Heap} {locs : List Loc} (hSt : lw_St s κ D hXc hMc wsX wsM qx qm H locs) {ls : Array Slot} (hl : lv_has ls 4 [(0, .ref b), (1, .ref qx), (2, .ref qm), (3, .int 0)]) : W p l e room_1 s m #[Value.ref b] below meth c H locs 211 15503 (lw_Z below #[Value.ref b] s) (F0 m 680 ls []) := by
  obtain ⟨hHX, hHM, hPX, hPM, hDX, hDM, hap, hqx, hqm, hS⟩ := hSt
  obtain ⟨hx, hb, hr, hml, hown, hts0, hX, hbl, hlocks, hgv⟩ := id C0
  have hbA : ¬ (fun q : Nat => s.heap.size ≤ q) b := Nat.not_le.mpr hbl
  subst hL6
  obtain ⟨z, cX, cM⟩ := ag_asks (xs (((0 : Int32) + 1).toNatClampNeg)) (xs (((0 : Int32) + 2).toNatClampNeg))
  refine lv_aload_n hx hb dL_law_680 rfl (lv_at hl 1 rfl) ?_
  refine lv_aload_n hx hb dL_law_681 rfl (lv_at hl 0 rfl) ?_
  refine lv_iload_n hx hb dL_law_682 rfl (lv_at hl 3 rfl) ?_
  refine lv_iconst (v := 1) hx hb dL_law_683 (by decide) ?_
  refine lv_iadd hx hb dL_law_684 ?_
  refine va_sld hx hb hX hbl hbA hS vi_1 dL_law_685 ?_
  refine lv_aload_n hx hb dL_law_686 rfl (lv_at hl 0 rfl) ?_
  refine lv_iload_n hx hb dL_law_687 rfl (lv_at hl 3 rfl) ?_
  refine lv_iconst (v := 2) hx hb dL_law_688 (by decide) ?_
  refine lv_iadd hx hb dL_law_689 ?_
  refine va_sld hx hb hX hbl hbA hS vi_2 dL_law_690 ?_
  refine law_call (as := [xs (((0 : Int32) + 1).toNatClampNeg), xs (((0 : Int32) + 2).toNatClampNeg)]) (rest := []) (ci := 11) (T := TX11) (N := 11) C0 hK hN cX mT_54 rfl cw_1203 cw_1204 cw_1205 yk_54 hHX rfl hPX hDX hS hqx (by decide) (by decide) (by decide) hl.1 rfl dL_law_691 (fun H1 locs1 z1 k1 hS1 => ?_)
  have hPM1 := law_kept hPX hPM hap k1
  refine lv_aload_n hx hb dL_law_694 rfl (lv_at hl 2 rfl) ?_
  refine lv_aload_n hx hb dL_law_695 rfl (lv_at hl 0 rfl) ?_
  refine lv_iload_n hx hb dL_law_696 rfl (lv_at hl 3 rfl) ?_
  refine lv_iconst (v := 1) hx hb dL_law_697 (by decide) ?_
  refine lv_iadd hx hb dL_law_698 ?_
  refine va_sld hx hb hX hbl hbA hS1 vi_1 dL_law_699 ?_
  refine lv_aload_n hx hb dL_law_700 rfl (lv_at hl 0 rfl) ?_
  refine lv_iload_n hx hb dL_law_701 rfl (lv_at hl 3 rfl) ?_
  refine lv_iconst (v := 2) hx hb dL_law_702 (by decide) ?_
  refine lv_iadd hx hb dL_law_703 ?_
  refine va_sld hx hb hX hbl hbA hS1 vi_2 dL_law_704 ?_
  refine law_call (as := [xs (((0 : Int32) + 1).toNatClampNeg), xs (((0 : Int32) + 2).toNatClampNeg)]) (rest := [.int z]) (ci := 12) (T := TX12) (N := 113) C0 hK hN cM mT_94 rfl cw_2086 cw_2087 cw_2088 yk_94 hHM rfl hPM1 hDM hS1 hqm (Nat.le_of_ble_eq_true rfl) (by decide) (by decide) hl.1 rfl dL_law_705 (fun H2 locs2 z2 k2 hS2 => ?_)
  refine lv_icmp_eq (tgt := 1237) hx hb dL_law_708 (by decide) (fun _ => ?_) (fun g => absurd rfl g)
  exact law_tail rfl C0 hS2 hl
/-- event -/
theorem law_event (hL6 : L = 6) (C0 : lw_At p s m meth c b L xs) (hK : va_K D vwCl (ri_tys κ) s) (hN : ri_N s) {wsX wsM : va_W} {qx qm : Nat} {H : Heap} {locs : List Loc} (hSt : lw_St s κ D hXc hMc wsX wsM qx qm H locs) {ls : Array Slot} (hl : lv_has ls 4 [(0, .ref b), (1, .ref qx), (2, .ref qm), (3, .int 0)]) : W p l e room_1 s m #[Value.ref b] below meth c H locs 211 15503 (lw_Z below #[Value.ref b] s) (F0 m 713 ls []) := by
  obtain ⟨hHX, hHM, hPX, hPM, hDX, hDM, hap, hqx, hqm, hS⟩ := hSt
  obtain ⟨hx, hb, hr, hml, hown, hts0, hX, hbl, hlocks, hgv⟩ := id C0
  have hbA : ¬ (fun q : Nat => s.heap.size ≤ q) b := Nat.not_le.mpr hbl
  subst hL6
  obtain ⟨z, cX, cM⟩ := ag_event (xs (((0 : Int32) + 1).toNatClampNeg)) (xs (((0 : Int32) + 2).toNatClampNeg))
  refine lv_aload_n hx hb dL_law_713 rfl (lv_at hl 1 rfl) ?_
  refine lv_aload_n hx hb dL_law_714 rfl (lv_at hl 0 rfl) ?_
  refine lv_iload_n hx hb dL_law_715 rfl (lv_at hl 3 rfl) ?_
  refine lv_iconst (v := 1) hx hb dL_law_716 (by decide) ?_
  refine lv_iadd hx hb dL_law_717 ?_
  refine va_sld hx hb hX hbl hbA hS vi_1 dL_law_718 ?_
  refine lv_aload_n hx hb dL_law_719 rfl (lv_at hl 0 rfl) ?_
  refine lv_iload_n hx hb dL_law_720 rfl (lv_at hl 3 rfl) ?_
  refine lv_iconst (v := 2) hx hb dL_law_721 (by decide) ?_
  refine lv_iadd hx hb dL_law_722 ?_
  refine va_sld hx hb hX hbl hbA hS vi_2 dL_law_723 ?_
  refine law_call (as := [xs (((0 : Int32) + 1).toNatClampNeg), xs (((0 : Int32) + 2).toNatClampNeg)]) (rest := []) (ci := 11) (T := TX11) (N := 11) C0 hK hN cX mT_62 rfl cw_1212 cw_1213 cw_1214 yk_62 hHX rfl hPX hDX hS hqx (by decide) (by decide) (by decide) hl.1 rfl dL_law_724 (fun H1 locs1 z1 k1 hS1 => ?_)
  have hPM1 := law_kept hPX hPM hap k1
  refine lv_aload_n hx hb dL_law_727 rfl (lv_at hl 2 rfl) ?_
  refine lv_aload_n hx hb dL_law_728 rfl (lv_at hl 0 rfl) ?_
  refine lv_iload_n hx hb dL_law_729 rfl (lv_at hl 3 rfl) ?_
  refine lv_iconst (v := 1) hx hb dL_law_730 (by decide) ?_
  refine lv_iadd hx hb dL_law_731 ?_
  refine va_sld hx hb hX hbl hbA hS1 vi_1 dL_law_732 ?_
  refine lv_aload_n hx hb dL_law_733 rfl (lv_at hl 0 rfl) ?_
  refine lv_iload_n hx hb dL_law_734 rfl (lv_at hl 3 rfl) ?_
  refine lv_iconst (v := 2) hx hb dL_law_735 (by decide) ?_
  refine lv_iadd hx hb dL_law_736 ?_
  refine va_sld hx hb hX hbl hbA hS1 vi_2 dL_law_737 ?_
  refine law_call (as := [xs (((0 : Int32) + 1).toNatClampNeg), xs (((0 : Int32) + 2).toNatClampNeg)]) (rest := [.int z]) (ci := 12) (T := TX12) (N := 113) C0 hK hN cM mT_110 rfl cw_2091 cw_2092 cw_2093 yk_110 hHM rfl hPM1 hDM hS1 hqm (Nat.le_of_ble_eq_true rfl) (by decide) (by decide) hl.1 rfl dL_law_738 (fun H2 locs2 z2 k2 hS2 => ?_)
  refine lv_icmp_eq (tgt := 1237) hx hb dL_law_741 (by decide) (fun _ => ?_) (fun g => absurd rfl g)
  exact law_tail rfl C0 hS2 hl
/-- coasts -/
theorem law_coasts (hL6 : L = 6) (C0 : lw_At p s m meth c b L xs) (hK : va_K D vwCl (ri_tys κ) s) (hN : ri_N s) {wsX wsM : va_W} {qx qm : Nat} {H : Heap} {locs : List Loc} (hSt : lw_St s κ D hXc hMc wsX wsM qx qm H locs) {ls : Array Slot} (hl : lv_has ls 4 [(0, .ref b), (1, .ref qx), (2, .ref qm), (3, .int 0)]) : W p l e room_1 s m #[Value.ref b] below meth c H locs 211 15503 (lw_Z below #[Value.ref b] s) (F0 m 746 ls []) := by
  obtain ⟨hHX, hHM, hPX, hPM, hDX, hDM, hap, hqx, hqm, hS⟩ := hSt
  obtain ⟨hx, hb, hr, hml, hown, hts0, hX, hbl, hlocks, hgv⟩ := id C0
  have hbA : ¬ (fun q : Nat => s.heap.size ≤ q) b := Nat.not_le.mpr hbl
  subst hL6
  obtain ⟨z, cX, cM⟩ := ag_coasts (xs (((0 : Int32) + 1).toNatClampNeg)) (xs (((0 : Int32) + 2).toNatClampNeg)) (xs (((0 : Int32) + 3).toNatClampNeg))
  refine lv_aload_n hx hb dL_law_746 rfl (lv_at hl 1 rfl) ?_
  refine lv_aload_n hx hb dL_law_747 rfl (lv_at hl 0 rfl) ?_
  refine lv_iload_n hx hb dL_law_748 rfl (lv_at hl 3 rfl) ?_
  refine lv_iconst (v := 1) hx hb dL_law_749 (by decide) ?_
  refine lv_iadd hx hb dL_law_750 ?_
  refine va_sld hx hb hX hbl hbA hS vi_1 dL_law_751 ?_
  refine lv_aload_n hx hb dL_law_752 rfl (lv_at hl 0 rfl) ?_
  refine lv_iload_n hx hb dL_law_753 rfl (lv_at hl 3 rfl) ?_
  refine lv_iconst (v := 2) hx hb dL_law_754 (by decide) ?_
  refine lv_iadd hx hb dL_law_755 ?_
  refine va_sld hx hb hX hbl hbA hS vi_2 dL_law_756 ?_
  refine lv_aload_n hx hb dL_law_757 rfl (lv_at hl 0 rfl) ?_
  refine lv_iload_n hx hb dL_law_758 rfl (lv_at hl 3 rfl) ?_
  refine lv_iconst (v := 3) hx hb dL_law_759 (by decide) ?_
  refine lv_iadd hx hb dL_law_760 ?_
  refine va_sld hx hb hX hbl hbA hS vi_3 dL_law_761 ?_
  refine law_call (as := [xs (((0 : Int32) + 1).toNatClampNeg), xs (((0 : Int32) + 2).toNatClampNeg), xs (((0 : Int32) + 3).toNatClampNeg)]) (rest := []) (ci := 11) (T := TX11) (N := 11) C0 hK hN cX mT_57 rfl cw_1220 cw_1221 cw_1222 yk_57 hHX rfl hPX hDX hS hqx (by decide) (by decide) (by decide) hl.1 rfl dL_law_762 (fun H1 locs1 z1 k1 hS1 => ?_)
  have hPM1 := law_kept hPX hPM hap k1
  refine lv_aload_n hx hb dL_law_765 rfl (lv_at hl 2 rfl) ?_
  refine lv_aload_n hx hb dL_law_766 rfl (lv_at hl 0 rfl) ?_
  refine lv_iload_n hx hb dL_law_767 rfl (lv_at hl 3 rfl) ?_
  refine lv_iconst (v := 1) hx hb dL_law_768 (by decide) ?_
  refine lv_iadd hx hb dL_law_769 ?_
  refine va_sld hx hb hX hbl hbA hS1 vi_1 dL_law_770 ?_
  refine lv_aload_n hx hb dL_law_771 rfl (lv_at hl 0 rfl) ?_
  refine lv_iload_n hx hb dL_law_772 rfl (lv_at hl 3 rfl) ?_
  refine lv_iconst (v := 2) hx hb dL_law_773 (by decide) ?_
  refine lv_iadd hx hb dL_law_774 ?_
  refine va_sld hx hb hX hbl hbA hS1 vi_2 dL_law_775 ?_
  refine lv_aload_n hx hb dL_law_776 rfl (lv_at hl 0 rfl) ?_
  refine lv_iload_n hx hb dL_law_777 rfl (lv_at hl 3 rfl) ?_
  refine lv_iconst (v := 3) hx hb dL_law_778 (by decide) ?_
  refine lv_iadd hx hb dL_law_779 ?_
  refine va_sld hx hb hX hbl hbA hS1 vi_3 dL_law_780 ?_
  refine law_call (as := [xs (((0 : Int32) + 1).toNatClampNeg), xs (((0 : Int32) + 2).toNatClampNeg), xs (((0 : Int32) + 3).toNatClampNeg)]) (rest := [.int z]) (ci := 12) (T := TX12) (N := 113) C0 hK hN cM mT_104 rfl cw_2130 cw_2131 cw_2132 yk_104 hHM rfl hPM1 hDM hS1 hqm (Nat.le_of_ble_eq_true rfl) (by decide) (by decide) hl.1 rfl dL_law_781 (fun H2 locs2 z2 k2 hS2 => ?_)
  refine lv_icmp_eq (tgt := 1237) hx hb dL_law_784 (by decide) (fun _ => ?_) (fun g => absurd rfl g)
  exact law_tail rfl C0 hS2 hl
/-- need -/
theorem law_need (hL6 : L = 6) (C0 : lw_At p s m meth c b L xs) (hK : va_K D vwCl (ri_tys κ) s) (hN : ri_N s) {wsX wsM : va_W} {qx qm : Nat} {H : Heap} {locs : List Loc} (hSt : lw_St s κ D hXc hMc wsX wsM qx qm H locs) {ls : Array Slot} (hl : lv_has ls 4 [(0, .ref b), (1, .ref qx), (2, .ref qm), (3, .int 0)]) : W p l e room_1 s m #[Value.ref b] below meth c H locs 211 15503 (lw_Z below #[Value.ref b] s) (F0 m 789 ls []) := by
  obtain ⟨hHX, hHM, hPX, hPM, hDX, hDM, hap, hqx, hqm, hS⟩ := hSt
  obtain ⟨hx, hb, hr, hml, hown, hts0, hX, hbl, hlocks, hgv⟩ := id C0
  have hbA : ¬ (fun q : Nat => s.heap.size ≤ q) b := Nat.not_le.mpr hbl
  subst hL6
  obtain ⟨z, cX, cM⟩ := ag_need (xs (((0 : Int32) + 1).toNatClampNeg))
  refine lv_aload_n hx hb dL_law_789 rfl (lv_at hl 1 rfl) ?_
  refine lv_aload_n hx hb dL_law_790 rfl (lv_at hl 0 rfl) ?_
  refine lv_iload_n hx hb dL_law_791 rfl (lv_at hl 3 rfl) ?_
  refine lv_iconst (v := 1) hx hb dL_law_792 (by decide) ?_
  refine lv_iadd hx hb dL_law_793 ?_
  refine va_sld hx hb hX hbl hbA hS vi_1 dL_law_794 ?_
  refine law_call (as := [xs (((0 : Int32) + 1).toNatClampNeg)]) (rest := []) (ci := 11) (T := TX11) (N := 11) C0 hK hN cX mT_74 rfl cw_1234 cw_1235 cw_1236 yk_74 hHX rfl hPX hDX hS hqx (by decide) (by decide) (by decide) hl.1 rfl dL_law_795 (fun H1 locs1 z1 k1 hS1 => ?_)
  have hPM1 := law_kept hPX hPM hap k1
  refine lv_aload_n hx hb dL_law_798 rfl (lv_at hl 2 rfl) ?_
  refine lv_aload_n hx hb dL_law_799 rfl (lv_at hl 0 rfl) ?_
  refine lv_iload_n hx hb dL_law_800 rfl (lv_at hl 3 rfl) ?_
  refine lv_iconst (v := 1) hx hb dL_law_801 (by decide) ?_
  refine lv_iadd hx hb dL_law_802 ?_
  refine va_sld hx hb hX hbl hbA hS1 vi_1 dL_law_803 ?_
  refine law_call (as := [xs (((0 : Int32) + 1).toNatClampNeg)]) (rest := [.int z]) (ci := 12) (T := TX12) (N := 113) C0 hK hN cM mT_136 rfl cw_2141 cw_2142 cw_2143 yk_136 hHM rfl hPM1 hDM hS1 hqm (Nat.le_of_ble_eq_true rfl) (by decide) (by decide) hl.1 rfl dL_law_804 (fun H2 locs2 z2 k2 hS2 => ?_)
  refine lv_icmp_eq (tgt := 1237) hx hb dL_law_807 (by decide) (fun _ => ?_) (fun g => absurd rfl g)
  exact law_tail rfl C0 hS2 hl
/-- takes -/
theorem law_takes (hL6 : L = 6) (C0 : lw_At p s m meth c b L xs) (hK : va_K D vwCl (ri_tys κ) s) (hN : ri_N s) {wsX wsM : va_W} {qx qm : Nat} {H : Heap} {locs : List Loc} (hSt : lw_St s κ D hXc hMc wsX wsM qx qm H locs) {ls : Array Slot} (hl : lv_has ls 4 [(0, .ref b), (1, .ref qx), (2, .ref qm), (3, .int 0)]) : W p l e room_1 s m #[Value.ref b] below meth c H locs 211 15503 (lw_Z below #[Value.ref b] s) (F0 m 812 ls []) := by
  obtain ⟨hHX, hHM, hPX, hPM, hDX, hDM, hap, hqx, hqm, hS⟩ := hSt
  obtain ⟨hx, hb, hr, hml, hown, hts0, hX, hbl, hlocks, hgv⟩ := id C0
  have hbA : ¬ (fun q : Nat => s.heap.size ≤ q) b := Nat.not_le.mpr hbl
  subst hL6
  obtain ⟨z, cX, cM⟩ := ag_takes
  refine lv_aload_n hx hb dL_law_812 rfl (lv_at hl 1 rfl) ?_
  refine law_call (as := []) (rest := []) (ci := 11) (T := TX11) (N := 11) C0 hK hN cX mT_88 rfl cw_1243 cw_1244 cw_1245 yk_88 hHX rfl hPX hDX hS hqx (by decide) (by decide) (by decide) hl.1 rfl dL_law_813 (fun H1 locs1 z1 k1 hS1 => ?_)
  have hPM1 := law_kept hPX hPM hap k1
  refine lv_aload_n hx hb dL_law_816 rfl (lv_at hl 2 rfl) ?_
  refine law_call (as := []) (rest := [.int z]) (ci := 12) (T := TX12) (N := 113) C0 hK hN cM mT_152 rfl cw_2145 cw_2146 cw_2147 yk_152 hHM rfl hPM1 hDM hS1 hqm (Nat.le_of_ble_eq_true rfl) (by decide) (by decide) hl.1 rfl dL_law_817 (fun H2 locs2 z2 k2 hS2 => ?_)
  refine lv_icmp_eq (tgt := 1237) hx hb dL_law_820 (by decide) (fun _ => ?_) (fun g => absurd rfl g)
  exact law_tail rfl C0 hS2 hl
/-- head -/
theorem law_head (hL6 : L = 6) (C0 : lw_At p s m meth c b L xs) (hK : va_K D vwCl (ri_tys κ) s) (hN : ri_N s) {wsX wsM : va_W} {qx qm : Nat} {H : Heap} {locs : List Loc} (hSt : lw_St s κ D hXc hMc wsX wsM qx qm H locs) {ls : Array Slot} (hl : lv_has ls 4 [(0, .ref b), (1, .ref qx), (2, .ref qm), (3, .int 0)]) : W p l e room_1 s m #[Value.ref b] below meth c H locs 211 15503 (lw_Z below #[Value.ref b] s) (F0 m 825 ls []) := by
  obtain ⟨hHX, hHM, hPX, hPM, hDX, hDM, hap, hqx, hqm, hS⟩ := hSt
  obtain ⟨hx, hb, hr, hml, hown, hts0, hX, hbl, hlocks, hgv⟩ := id C0
  have hbA : ¬ (fun q : Nat => s.heap.size ≤ q) b := Nat.not_le.mpr hbl
  subst hL6
  obtain ⟨z, cX, cM⟩ := ag_head (xs (((0 : Int32) + 1).toNatClampNeg))
  refine lv_aload_n hx hb dL_law_825 rfl (lv_at hl 1 rfl) ?_
  refine lv_aload_n hx hb dL_law_826 rfl (lv_at hl 0 rfl) ?_
  refine lv_iload_n hx hb dL_law_827 rfl (lv_at hl 3 rfl) ?_
  refine lv_iconst (v := 1) hx hb dL_law_828 (by decide) ?_
  refine lv_iadd hx hb dL_law_829 ?_
  refine va_sld hx hb hX hbl hbA hS vi_1 dL_law_830 ?_
  refine law_call (as := [xs (((0 : Int32) + 1).toNatClampNeg)]) (rest := []) (ci := 11) (T := TX11) (N := 11) C0 hK hN cX mT_67 rfl cw_1251 cw_1252 cw_1253 yk_67 hHX rfl hPX hDX hS hqx (by decide) (by decide) (by decide) hl.1 rfl dL_law_831 (fun H1 locs1 z1 k1 hS1 => ?_)
  have hPM1 := law_kept hPX hPM hap k1
  refine lv_aload_n hx hb dL_law_834 rfl (lv_at hl 2 rfl) ?_
  refine lv_aload_n hx hb dL_law_835 rfl (lv_at hl 0 rfl) ?_
  refine lv_iload_n hx hb dL_law_836 rfl (lv_at hl 3 rfl) ?_
  refine lv_iconst (v := 1) hx hb dL_law_837 (by decide) ?_
  refine lv_iadd hx hb dL_law_838 ?_
  refine va_sld hx hb hX hbl hbA hS1 vi_1 dL_law_839 ?_
  refine law_call (as := [xs (((0 : Int32) + 1).toNatClampNeg)]) (rest := [.int z]) (ci := 12) (T := TX12) (N := 113) C0 hK hN cM mT_120 rfl cw_2149 cw_2150 cw_2151 yk_120 hHM rfl hPM1 hDM hS1 hqm (Nat.le_of_ble_eq_true rfl) (by decide) (by decide) hl.1 rfl dL_law_840 (fun H2 locs2 z2 k2 hS2 => ?_)
  refine lv_icmp_eq (tgt := 1237) hx hb dL_law_843 (by decide) (fun _ => ?_) (fun g => absurd rfl g)
  exact law_tail rfl C0 hS2 hl
/-- spread -/
theorem law_spread (hL6 : L = 6) (C0 : lw_At p s m meth c b L xs) (hK : va_K D vwCl (ri_tys κ) s) (hN : ri_N s) {wsX wsM : va_W} {qx qm : Nat} {H : Heap} {locs : List Loc} (hSt : lw_St s κ D hXc hMc wsX wsM qx qm H locs) {ls : Array Slot} (hl : lv_has ls 4 [(0, .ref b), (1, .ref qx), (2, .ref qm), (3, .int 0)]) : W p l e room_1 s m #[Value.ref b] below meth c H locs 211 15503 (lw_Z below #[Value.ref b] s) (F0 m 848 ls []) := by
  obtain ⟨hHX, hHM, hPX, hPM, hDX, hDM, hap, hqx, hqm, hS⟩ := hSt
  obtain ⟨hx, hb, hr, hml, hown, hts0, hX, hbl, hlocks, hgv⟩ := id C0
  have hbA : ¬ (fun q : Nat => s.heap.size ≤ q) b := Nat.not_le.mpr hbl
  subst hL6
  obtain ⟨z, cX, cM⟩ := ag_spread (xs (((0 : Int32) + 1).toNatClampNeg)) (xs (((0 : Int32) + 2).toNatClampNeg))
  refine lv_aload_n hx hb dL_law_848 rfl (lv_at hl 1 rfl) ?_
  refine lv_aload_n hx hb dL_law_849 rfl (lv_at hl 0 rfl) ?_
  refine lv_iload_n hx hb dL_law_850 rfl (lv_at hl 3 rfl) ?_
  refine lv_iconst (v := 1) hx hb dL_law_851 (by decide) ?_
  refine lv_iadd hx hb dL_law_852 ?_
  refine va_sld hx hb hX hbl hbA hS vi_1 dL_law_853 ?_
  refine lv_aload_n hx hb dL_law_854 rfl (lv_at hl 0 rfl) ?_
  refine lv_iload_n hx hb dL_law_855 rfl (lv_at hl 3 rfl) ?_
  refine lv_iconst (v := 2) hx hb dL_law_856 (by decide) ?_
  refine lv_iadd hx hb dL_law_857 ?_
  refine va_sld hx hb hX hbl hbA hS vi_2 dL_law_858 ?_
  refine law_call (as := [xs (((0 : Int32) + 1).toNatClampNeg), xs (((0 : Int32) + 2).toNatClampNeg)]) (rest := []) (ci := 11) (T := TX11) (N := 11) C0 hK hN cX mT_84 rfl cw_1271 cw_1272 cw_1273 yk_84 hHX rfl hPX hDX hS hqx (by decide) (by decide) (by decide) hl.1 rfl dL_law_859 (fun H1 locs1 z1 k1 hS1 => ?_)
  have hPM1 := law_kept hPX hPM hap k1
  refine lv_aload_n hx hb dL_law_862 rfl (lv_at hl 2 rfl) ?_
  refine lv_aload_n hx hb dL_law_863 rfl (lv_at hl 0 rfl) ?_
  refine lv_iload_n hx hb dL_law_864 rfl (lv_at hl 3 rfl) ?_
  refine lv_iconst (v := 1) hx hb dL_law_865 (by decide) ?_
  refine lv_iadd hx hb dL_law_866 ?_
  refine va_sld hx hb hX hbl hbA hS1 vi_1 dL_law_867 ?_
  refine lv_aload_n hx hb dL_law_868 rfl (lv_at hl 0 rfl) ?_
  refine lv_iload_n hx hb dL_law_869 rfl (lv_at hl 3 rfl) ?_
  refine lv_iconst (v := 2) hx hb dL_law_870 (by decide) ?_
  refine lv_iadd hx hb dL_law_871 ?_
  refine va_sld hx hb hX hbl hbA hS1 vi_2 dL_law_872 ?_
  refine law_call (as := [xs (((0 : Int32) + 1).toNatClampNeg), xs (((0 : Int32) + 2).toNatClampNeg)]) (rest := [.int z]) (ci := 12) (T := TX12) (N := 113) C0 hK hN cM mT_148 rfl cw_2157 cw_2158 cw_2159 yk_148 hHM rfl hPM1 hDM hS1 hqm (Nat.le_of_ble_eq_true rfl) (by decide) (by decide) hl.1 rfl dL_law_873 (fun H2 locs2 z2 k2 hS2 => ?_)
  refine lv_icmp_eq (tgt := 1237) hx hb dL_law_876 (by decide) (fun _ => ?_) (fun g => absurd rfl g)
  exact law_tail rfl C0 hS2 hl
/-- power -/
theorem law_power (hL6 : L = 6) (C0 : lw_At p s m meth c b L xs) (hK : va_K D vwCl (ri_tys κ) s) (hN : ri_N s) {wsX wsM : va_W} {qx qm : Nat} {H : Heap} {locs : List Loc} (hSt : lw_St s κ D hXc hMc wsX wsM qx qm H locs) {ls : Array Slot} (hl : lv_has ls 4 [(0, .ref b), (1, .ref qx), (2, .ref qm), (3, .int 0)]) : W p l e room_1 s m #[Value.ref b] below meth c H locs 211 15503 (lw_Z below #[Value.ref b] s) (F0 m 881 ls []) := by
  obtain ⟨hHX, hHM, hPX, hPM, hDX, hDM, hap, hqx, hqm, hS⟩ := hSt
  obtain ⟨hx, hb, hr, hml, hown, hts0, hX, hbl, hlocks, hgv⟩ := id C0
  have hbA : ¬ (fun q : Nat => s.heap.size ≤ q) b := Nat.not_le.mpr hbl
  subst hL6
  obtain ⟨z, cX, cM⟩ := ag_power (xs (((0 : Int32) + 1).toNatClampNeg)) (xs (((0 : Int32) + 2).toNatClampNeg))
  refine lv_aload_n hx hb dL_law_881 rfl (lv_at hl 1 rfl) ?_
  refine lv_aload_n hx hb dL_law_882 rfl (lv_at hl 0 rfl) ?_
  refine lv_iload_n hx hb dL_law_883 rfl (lv_at hl 3 rfl) ?_
  refine lv_iconst (v := 1) hx hb dL_law_884 (by decide) ?_
  refine lv_iadd hx hb dL_law_885 ?_
  refine va_sld hx hb hX hbl hbA hS vi_1 dL_law_886 ?_
  refine lv_aload_n hx hb dL_law_887 rfl (lv_at hl 0 rfl) ?_
  refine lv_iload_n hx hb dL_law_888 rfl (lv_at hl 3 rfl) ?_
  refine lv_iconst (v := 2) hx hb dL_law_889 (by decide) ?_
  refine lv_iadd hx hb dL_law_890 ?_
  refine va_sld hx hb hX hbl hbA hS vi_2 dL_law_891 ?_
  refine law_call (as := [xs (((0 : Int32) + 1).toNatClampNeg), xs (((0 : Int32) + 2).toNatClampNeg)]) (rest := []) (ci := 11) (T := TX11) (N := 11) C0 hK hN cX mT_76 rfl cw_1275 cw_1276 cw_1277 yk_76 hHX rfl hPX hDX hS hqx (by decide) (by decide) (by decide) hl.1 rfl dL_law_892 (fun H1 locs1 z1 k1 hS1 => ?_)
  have hPM1 := law_kept hPX hPM hap k1
  refine lv_aload_n hx hb dL_law_895 rfl (lv_at hl 2 rfl) ?_
  refine lv_aload_n hx hb dL_law_896 rfl (lv_at hl 0 rfl) ?_
  refine lv_iload_n hx hb dL_law_897 rfl (lv_at hl 3 rfl) ?_
  refine lv_iconst (v := 1) hx hb dL_law_898 (by decide) ?_
  refine lv_iadd hx hb dL_law_899 ?_
  refine va_sld hx hb hX hbl hbA hS1 vi_1 dL_law_900 ?_
  refine lv_aload_n hx hb dL_law_901 rfl (lv_at hl 0 rfl) ?_
  refine lv_iload_n hx hb dL_law_902 rfl (lv_at hl 3 rfl) ?_
  refine lv_iconst (v := 2) hx hb dL_law_903 (by decide) ?_
  refine lv_iadd hx hb dL_law_904 ?_
  refine va_sld hx hb hX hbl hbA hS1 vi_2 dL_law_905 ?_
  refine law_call (as := [xs (((0 : Int32) + 1).toNatClampNeg), xs (((0 : Int32) + 2).toNatClampNeg)]) (rest := [.int z]) (ci := 12) (T := TX12) (N := 113) C0 hK hN cM mT_138 rfl cw_2161 cw_2127 cw_2128 yk_138 hHM rfl hPM1 hDM hS1 hqm (Nat.le_of_ble_eq_true rfl) (by decide) (by decide) hl.1 rfl dL_law_906 (fun H2 locs2 z2 k2 hS2 => ?_)
  refine lv_icmp_eq (tgt := 1237) hx hb dL_law_909 (by decide) (fun _ => ?_) (fun g => absurd rfl g)
  exact law_tail rfl C0 hS2 hl
/-- runaway -/
theorem law_runaway (hL6 : L = 6) (C0 : lw_At p s m meth c b L xs) (hK : va_K D vwCl (ri_tys κ) s) (hN : ri_N s) {wsX wsM : va_W} {qx qm : Nat} {H : Heap} {locs : List Loc} (hSt : lw_St s κ D hXc hMc wsX wsM qx qm H locs) {ls : Array Slot} (hl : lv_has ls 4 [(0, .ref b), (1, .ref qx), (2, .ref qm), (3, .int 0)]) : W p l e room_1 s m #[Value.ref b] below meth c H locs 211 15503 (lw_Z below #[Value.ref b] s) (F0 m 914 ls []) := by
  obtain ⟨hHX, hHM, hPX, hPM, hDX, hDM, hap, hqx, hqm, hS⟩ := hSt
  obtain ⟨hx, hb, hr, hml, hown, hts0, hX, hbl, hlocks, hgv⟩ := id C0
  have hbA : ¬ (fun q : Nat => s.heap.size ≤ q) b := Nat.not_le.mpr hbl
  subst hL6
  obtain ⟨z, cX, cM⟩ := ag_runaway (xs (((0 : Int32) + 1).toNatClampNeg)) (xs (((0 : Int32) + 2).toNatClampNeg))
  refine lv_aload_n hx hb dL_law_914 rfl (lv_at hl 1 rfl) ?_
  refine lv_aload_n hx hb dL_law_915 rfl (lv_at hl 0 rfl) ?_
  refine lv_iload_n hx hb dL_law_916 rfl (lv_at hl 3 rfl) ?_
  refine lv_iconst (v := 1) hx hb dL_law_917 (by decide) ?_
  refine lv_iadd hx hb dL_law_918 ?_
  refine va_sld hx hb hX hbl hbA hS vi_1 dL_law_919 ?_
  refine lv_aload_n hx hb dL_law_920 rfl (lv_at hl 0 rfl) ?_
  refine lv_iload_n hx hb dL_law_921 rfl (lv_at hl 3 rfl) ?_
  refine lv_iconst (v := 2) hx hb dL_law_922 (by decide) ?_
  refine lv_iadd hx hb dL_law_923 ?_
  refine va_sld hx hb hX hbl hbA hS vi_2 dL_law_924 ?_
  refine law_call (as := [xs (((0 : Int32) + 1).toNatClampNeg), xs (((0 : Int32) + 2).toNatClampNeg)]) (rest := []) (ci := 11) (T := TX11) (N := 11) C0 hK hN cX mT_81 rfl cw_1279 cw_1280 cw_1281 yk_81 hHX rfl hPX hDX hS hqx (by decide) (by decide) (by decide) hl.1 rfl dL_law_925 (fun H1 locs1 z1 k1 hS1 => ?_)
  have hPM1 := law_kept hPX hPM hap k1
  refine lv_aload_n hx hb dL_law_928 rfl (lv_at hl 2 rfl) ?_
  refine lv_aload_n hx hb dL_law_929 rfl (lv_at hl 0 rfl) ?_
  refine lv_iload_n hx hb dL_law_930 rfl (lv_at hl 3 rfl) ?_
  refine lv_iconst (v := 1) hx hb dL_law_931 (by decide) ?_
  refine lv_iadd hx hb dL_law_932 ?_
  refine va_sld hx hb hX hbl hbA hS1 vi_1 dL_law_933 ?_
  refine lv_aload_n hx hb dL_law_934 rfl (lv_at hl 0 rfl) ?_
  refine lv_iload_n hx hb dL_law_935 rfl (lv_at hl 3 rfl) ?_
  refine lv_iconst (v := 2) hx hb dL_law_936 (by decide) ?_
  refine lv_iadd hx hb dL_law_937 ?_
  refine va_sld hx hb hX hbl hbA hS1 vi_2 dL_law_938 ?_
  refine law_call (as := [xs (((0 : Int32) + 1).toNatClampNeg), xs (((0 : Int32) + 2).toNatClampNeg)]) (rest := [.int z]) (ci := 12) (T := TX12) (N := 113) C0 hK hN cM mT_143 rfl cw_2162 cw_2163 cw_2164 yk_143 hHM rfl hPM1 hDM hS1 hqm (Nat.le_of_ble_eq_true rfl) (by decide) (by decide) hl.1 rfl dL_law_939 (fun H2 locs2 z2 k2 hS2 => ?_)
  refine lv_icmp_eq (tgt := 1237) hx hb dL_law_942 (by decide) (fun _ => ?_) (fun g => absurd rfl g)
  exact law_tail rfl C0 hS2 hl
/-- order -/
theorem law_order (hL6 : L = 6) (C0 : lw_At p s m meth c b L xs) (hK : va_K D vwCl (ri_tys κ) s) (hN : ri_N s) {wsX wsM : va_W} {qx qm : Nat} {H : Heap} {locs : List Loc} (hSt : lw_St s κ D hXc hMc wsX wsM qx qm H locs) {ls : Array Slot} (hl : lv_has ls 4 [(0, .ref b), (1, .ref qx), (2, .ref qm), (3, .int 0)]) : W p l e room_1 s m #[Value.ref b] below meth c H locs 211 15503 (lw_Z below #[Value.ref b] s) (F0 m 947 ls []) := by
  obtain ⟨hHX, hHM, hPX, hPM, hDX, hDM, hap, hqx, hqm, hS⟩ := hSt
  obtain ⟨hx, hb, hr, hml, hown, hts0, hX, hbl, hlocks, hgv⟩ := id C0
  have hbA : ¬ (fun q : Nat => s.heap.size ≤ q) b := Nat.not_le.mpr hbl
  subst hL6
  obtain ⟨z, cX, cM⟩ := ag_order (xs (((0 : Int32) + 1).toNatClampNeg))
  refine lv_aload_n hx hb dL_law_947 rfl (lv_at hl 1 rfl) ?_
  refine lv_aload_n hx hb dL_law_948 rfl (lv_at hl 0 rfl) ?_
  refine lv_iload_n hx hb dL_law_949 rfl (lv_at hl 3 rfl) ?_
  refine lv_iconst (v := 1) hx hb dL_law_950 (by decide) ?_
  refine lv_iadd hx hb dL_law_951 ?_
  refine va_sld hx hb hX hbl hbA hS vi_1 dL_law_952 ?_
  refine law_call (as := [xs (((0 : Int32) + 1).toNatClampNeg)]) (rest := []) (ci := 11) (T := TX11) (N := 11) C0 hK hN cX mT_75 rfl cw_1287 cw_1288 cw_1289 yk_75 hHX rfl hPX hDX hS hqx (by decide) (by decide) (by decide) hl.1 rfl dL_law_953 (fun H1 locs1 z1 k1 hS1 => ?_)
  have hPM1 := law_kept hPX hPM hap k1
  refine lv_aload_n hx hb dL_law_956 rfl (lv_at hl 2 rfl) ?_
  refine lv_aload_n hx hb dL_law_957 rfl (lv_at hl 0 rfl) ?_
  refine lv_iload_n hx hb dL_law_958 rfl (lv_at hl 3 rfl) ?_
  refine lv_iconst (v := 1) hx hb dL_law_959 (by decide) ?_
  refine lv_iadd hx hb dL_law_960 ?_
  refine va_sld hx hb hX hbl hbA hS1 vi_1 dL_law_961 ?_
  refine law_call (as := [xs (((0 : Int32) + 1).toNatClampNeg)]) (rest := [.int z]) (ci := 12) (T := TX12) (N := 113) C0 hK hN cM mT_137 rfl cw_2166 cw_2167 cw_2168 yk_137 hHM rfl hPM1 hDM hS1 hqm (Nat.le_of_ble_eq_true rfl) (by decide) (by decide) hl.1 rfl dL_law_962 (fun H2 locs2 z2 k2 hS2 => ?_)
  refine lv_icmp_eq (tgt := 1237) hx hb dL_law_965 (by decide) (fun _ => ?_) (fun g => absurd rfl g)
  exact law_tail rfl C0 hS2 hl
/-- where -/
theorem law_where (hL6 : L = 6) (C0 : lw_At p s m meth c b L xs) (hK : va_K D vwCl (ri_tys κ) s) (hN : ri_N s) {wsX wsM : va_W} {qx qm : Nat} {H : Heap} {locs : List Loc} (hSt : lw_St s κ D hXc hMc wsX wsM qx qm H locs) {ls : Array Slot} (hl : lv_has ls 4 [(0, .ref b), (1, .ref qx), (2, .ref qm), (3, .int 0)]) : W p l e room_1 s m #[Value.ref b] below meth c H locs 211 15503 (lw_Z below #[Value.ref b] s) (F0 m 970 ls []) := by
  obtain ⟨hHX, hHM, hPX, hPM, hDX, hDM, hap, hqx, hqm, hS⟩ := hSt
  obtain ⟨hx, hb, hr, hml, hown, hts0, hX, hbl, hlocks, hgv⟩ := id C0
  have hbA : ¬ (fun q : Nat => s.heap.size ≤ q) b := Nat.not_le.mpr hbl
  subst hL6
  obtain ⟨z, cX, cM⟩ := ag_where (xs (((0 : Int32) + 1).toNatClampNeg)) (xs (((0 : Int32) + 2).toNatClampNeg)) (xs (((0 : Int32) + 3).toNatClampNeg))
  refine lv_aload_n hx hb dL_law_970 rfl (lv_at hl 1 rfl) ?_
  refine lv_aload_n hx hb dL_law_971 rfl (lv_at hl 0 rfl) ?_
  refine lv_iload_n hx hb dL_law_972 rfl (lv_at hl 3 rfl) ?_
  refine lv_iconst (v := 1) hx hb dL_law_973 (by decide) ?_
  refine lv_iadd hx hb dL_law_974 ?_
  refine va_sld hx hb hX hbl hbA hS vi_1 dL_law_975 ?_
  refine lv_aload_n hx hb dL_law_976 rfl (lv_at hl 0 rfl) ?_
  refine lv_iload_n hx hb dL_law_977 rfl (lv_at hl 3 rfl) ?_
  refine lv_iconst (v := 2) hx hb dL_law_978 (by decide) ?_
  refine lv_iadd hx hb dL_law_979 ?_
  refine va_sld hx hb hX hbl hbA hS vi_2 dL_law_980 ?_
  refine lv_aload_n hx hb dL_law_981 rfl (lv_at hl 0 rfl) ?_
  refine lv_iload_n hx hb dL_law_982 rfl (lv_at hl 3 rfl) ?_
  refine lv_iconst (v := 3) hx hb dL_law_983 (by decide) ?_
  refine lv_iadd hx hb dL_law_984 ?_
  refine va_sld hx hb hX hbl hbA hS vi_3 dL_law_985 ?_
  refine law_call (as := [xs (((0 : Int32) + 1).toNatClampNeg), xs (((0 : Int32) + 2).toNatClampNeg), xs (((0 : Int32) + 3).toNatClampNeg)]) (rest := []) (ci := 11) (T := TX11) (N := 11) C0 hK hN cX mT_91 rfl cw_1296 cw_1297 cw_1298 yk_91 hHX rfl hPX hDX hS hqx (by decide) (by decide) (by decide) hl.1 rfl dL_law_986 (fun H1 locs1 z1 k1 hS1 => ?_)
  have hPM1 := law_kept hPX hPM hap k1
  refine lv_aload_n hx hb dL_law_989 rfl (lv_at hl 2 rfl) ?_
  refine lv_aload_n hx hb dL_law_990 rfl (lv_at hl 0 rfl) ?_
  refine lv_iload_n hx hb dL_law_991 rfl (lv_at hl 3 rfl) ?_
  refine lv_iconst (v := 1) hx hb dL_law_992 (by decide) ?_
  refine lv_iadd hx hb dL_law_993 ?_
  refine va_sld hx hb hX hbl hbA hS1 vi_1 dL_law_994 ?_
  refine lv_aload_n hx hb dL_law_995 rfl (lv_at hl 0 rfl) ?_
  refine lv_iload_n hx hb dL_law_996 rfl (lv_at hl 3 rfl) ?_
  refine lv_iconst (v := 2) hx hb dL_law_997 (by decide) ?_
  refine lv_iadd hx hb dL_law_998 ?_
  refine va_sld hx hb hX hbl hbA hS1 vi_2 dL_law_999 ?_
  refine lv_aload_n hx hb dL_law_1000 rfl (lv_at hl 0 rfl) ?_
  refine lv_iload_n hx hb dL_law_1001 rfl (lv_at hl 3 rfl) ?_
  refine lv_iconst (v := 3) hx hb dL_law_1002 (by decide) ?_
  refine lv_iadd hx hb dL_law_1003 ?_
  refine va_sld hx hb hX hbl hbA hS1 vi_3 dL_law_1004 ?_
  refine law_call (as := [xs (((0 : Int32) + 1).toNatClampNeg), xs (((0 : Int32) + 2).toNatClampNeg), xs (((0 : Int32) + 3).toNatClampNeg)]) (rest := [.int z]) (ci := 12) (T := TX12) (N := 113) C0 hK hN cM mT_156 rfl cw_2170 cw_2171 cw_2172 yk_156 hHM rfl hPM1 hDM hS1 hqm (Nat.le_of_ble_eq_true rfl) (by decide) (by decide) hl.1 rfl dL_law_1005 (fun H2 locs2 z2 k2 hS2 => ?_)
  refine lv_icmp_eq (tgt := 1237) hx hb dL_law_1008 (by decide) (fun _ => ?_) (fun g => absurd rfl g)
  exact law_tail rfl C0 hS2 hl
/-- log -/
theorem law_log (hL6 : L = 6) (C0 : lw_At p s m meth c b L xs) (hK : va_K D vwCl (ri_tys κ) s) (hN : ri_N s) {wsX wsM : va_W} {qx qm : Nat} {H : Heap} {locs : List Loc} (hSt : lw_St s κ D hXc hMc wsX wsM qx qm H locs) {ls : Array Slot} (hl : lv_has ls 4 [(0, .ref b), (1, .ref qx), (2, .ref qm), (3, .int 0)]) : W p l e room_1 s m #[Value.ref b] below meth c H locs 211 15503 (lw_Z below #[Value.ref b] s) (F0 m 1013 ls []) := by
  obtain ⟨hHX, hHM, hPX, hPM, hDX, hDM, hap, hqx, hqm, hS⟩ := hSt
  obtain ⟨hx, hb, hr, hml, hown, hts0, hX, hbl, hlocks, hgv⟩ := id C0
  have hbA : ¬ (fun q : Nat => s.heap.size ≤ q) b := Nat.not_le.mpr hbl
  subst hL6
  obtain ⟨z, cX, cM⟩ := ag_log (xs (((0 : Int32) + 1).toNatClampNeg)) (xs (((0 : Int32) + 2).toNatClampNeg)) (xs (((0 : Int32) + 3).toNatClampNeg))
  refine lv_aload_n hx hb dL_law_1013 rfl (lv_at hl 1 rfl) ?_
  refine lv_aload_n hx hb dL_law_1014 rfl (lv_at hl 0 rfl) ?_
  refine lv_iload_n hx hb dL_law_1015 rfl (lv_at hl 3 rfl) ?_
  refine lv_iconst (v := 1) hx hb dL_law_1016 (by decide) ?_
  refine lv_iadd hx hb dL_law_1017 ?_
  refine va_sld hx hb hX hbl hbA hS vi_1 dL_law_1018 ?_
  refine lv_aload_n hx hb dL_law_1019 rfl (lv_at hl 0 rfl) ?_
  refine lv_iload_n hx hb dL_law_1020 rfl (lv_at hl 3 rfl) ?_
  refine lv_iconst (v := 2) hx hb dL_law_1021 (by decide) ?_
  refine lv_iadd hx hb dL_law_1022 ?_
  refine va_sld hx hb hX hbl hbA hS vi_2 dL_law_1023 ?_
  refine lv_aload_n hx hb dL_law_1024 rfl (lv_at hl 0 rfl) ?_
  refine lv_iload_n hx hb dL_law_1025 rfl (lv_at hl 3 rfl) ?_
  refine lv_iconst (v := 3) hx hb dL_law_1026 (by decide) ?_
  refine lv_iadd hx hb dL_law_1027 ?_
  refine va_sld hx hb hX hbl hbA hS vi_3 dL_law_1028 ?_
  refine law_call (as := [xs (((0 : Int32) + 1).toNatClampNeg), xs (((0 : Int32) + 2).toNatClampNeg), xs (((0 : Int32) + 3).toNatClampNeg)]) (rest := []) (ci := 11) (T := TX11) (N := 11) C0 hK hN cX mT_72 rfl cw_1301 cw_1302 cw_1303 yk_72 hHX rfl hPX hDX hS hqx (by decide) (by decide) (by decide) hl.1 rfl dL_law_1029 (fun H1 locs1 z1 k1 hS1 => ?_)
  have hPM1 := law_kept hPX hPM hap k1
  refine lv_aload_n hx hb dL_law_1032 rfl (lv_at hl 2 rfl) ?_
  refine lv_aload_n hx hb dL_law_1033 rfl (lv_at hl 0 rfl) ?_
  refine lv_iload_n hx hb dL_law_1034 rfl (lv_at hl 3 rfl) ?_
  refine lv_iconst (v := 1) hx hb dL_law_1035 (by decide) ?_
  refine lv_iadd hx hb dL_law_1036 ?_
  refine va_sld hx hb hX hbl hbA hS1 vi_1 dL_law_1037 ?_
  refine lv_aload_n hx hb dL_law_1038 rfl (lv_at hl 0 rfl) ?_
  refine lv_iload_n hx hb dL_law_1039 rfl (lv_at hl 3 rfl) ?_
  refine lv_iconst (v := 2) hx hb dL_law_1040 (by decide) ?_
  refine lv_iadd hx hb dL_law_1041 ?_
  refine va_sld hx hb hX hbl hbA hS1 vi_2 dL_law_1042 ?_
  refine lv_aload_n hx hb dL_law_1043 rfl (lv_at hl 0 rfl) ?_
  refine lv_iload_n hx hb dL_law_1044 rfl (lv_at hl 3 rfl) ?_
  refine lv_iconst (v := 3) hx hb dL_law_1045 (by decide) ?_
  refine lv_iadd hx hb dL_law_1046 ?_
  refine va_sld hx hb hX hbl hbA hS1 vi_3 dL_law_1047 ?_
  refine law_call (as := [xs (((0 : Int32) + 1).toNatClampNeg), xs (((0 : Int32) + 2).toNatClampNeg), xs (((0 : Int32) + 3).toNatClampNeg)]) (rest := [.int z]) (ci := 12) (T := TX12) (N := 113) C0 hK hN cM mT_133 rfl cw_2174 cw_2175 cw_2176 yk_133 hHM rfl hPM1 hDM hS1 hqm (Nat.le_of_ble_eq_true rfl) (by decide) (by decide) hl.1 rfl dL_law_1048 (fun H2 locs2 z2 k2 hS2 => ?_)
  refine lv_icmp_eq (tgt := 1237) hx hb dL_law_1051 (by decide) (fun _ => ?_) (fun g => absurd rfl g)
  exact law_tail rfl C0 hS2 hl
/-- untell -/
theorem law_untell (hL6 : L = 6) (C0 : lw_At p s m meth c b L xs) (hK : va_K D vwCl (ri_tys κ) s) (hN : ri_N s) {wsX wsM : va_W} {qx qm : Nat} {H : Heap} {locs : List Loc} (hSt : lw_St s κ D hXc hMc wsX wsM qx qm H locs) {ls : Array Slot} (hl : lv_has ls 4 [(0, .ref b), (1, .ref qx), (2, .ref qm), (3, .int 0)]) : W p l e room_1 s m #[Value.ref b] below meth c H locs 211 15503 (lw_Z below #[Value.ref b] s) (F0 m 1056 ls []) := by
  obtain ⟨hHX, hHM, hPX, hPM, hDX, hDM, hap, hqx, hqm, hS⟩ := hSt
  obtain ⟨hx, hb, hr, hml, hown, hts0, hX, hbl, hlocks, hgv⟩ := id C0
  have hbA : ¬ (fun q : Nat => s.heap.size ≤ q) b := Nat.not_le.mpr hbl
  subst hL6
  obtain ⟨z, cX, cM⟩ := ag_untell (xs (((0 : Int32) + 1).toNatClampNeg))
  refine lv_aload_n hx hb dL_law_1056 rfl (lv_at hl 1 rfl) ?_
  refine lv_aload_n hx hb dL_law_1057 rfl (lv_at hl 0 rfl) ?_
  refine lv_iload_n hx hb dL_law_1058 rfl (lv_at hl 3 rfl) ?_
  refine lv_iconst (v := 1) hx hb dL_law_1059 (by decide) ?_
  refine lv_iadd hx hb dL_law_1060 ?_
  refine va_sld hx hb hX hbl hbA hS vi_1 dL_law_1061 ?_
  refine law_call (as := [xs (((0 : Int32) + 1).toNatClampNeg)]) (rest := []) (ci := 11) (T := TX11) (N := 11) C0 hK hN cX mT_90 rfl cw_1309 cw_1310 cw_1311 yk_90 hHX rfl hPX hDX hS hqx (by decide) (by decide) (by decide) hl.1 rfl dL_law_1062 (fun H1 locs1 z1 k1 hS1 => ?_)
  have hPM1 := law_kept hPX hPM hap k1
  refine lv_aload_n hx hb dL_law_1065 rfl (lv_at hl 2 rfl) ?_
  refine lv_aload_n hx hb dL_law_1066 rfl (lv_at hl 0 rfl) ?_
  refine lv_iload_n hx hb dL_law_1067 rfl (lv_at hl 3 rfl) ?_
  refine lv_iconst (v := 1) hx hb dL_law_1068 (by decide) ?_
  refine lv_iadd hx hb dL_law_1069 ?_
  refine va_sld hx hb hX hbl hbA hS1 vi_1 dL_law_1070 ?_
  refine law_call (as := [xs (((0 : Int32) + 1).toNatClampNeg)]) (rest := [.int z]) (ci := 12) (T := TX12) (N := 113) C0 hK hN cM mT_155 rfl cw_2178 cw_2179 cw_2180 yk_155 hHM rfl hPM1 hDM hS1 hqm (Nat.le_of_ble_eq_true rfl) (by decide) (by decide) hl.1 rfl dL_law_1071 (fun H2 locs2 z2 k2 hS2 => ?_)
  refine lv_icmp_eq (tgt := 1237) hx hb dL_law_1074 (by decide) (fun _ => ?_) (fun g => absurd rfl g)
  exact law_tail rfl C0 hS2 hl
/-- later -/
theorem law_later (hL6 : L = 6) (C0 : lw_At p s m meth c b L xs) (hK : va_K D vwCl (ri_tys κ) s) (hN : ri_N s) {wsX wsM : va_W} {qx qm : Nat} {H : Heap} {locs : List Loc} (hSt : lw_St s κ D hXc hMc wsX wsM qx qm H locs) {ls : Array Slot} (hl : lv_has ls 4 [(0, .ref b), (1, .ref qx), (2, .ref qm), (3, .int 0)]) : W p l e room_1 s m #[Value.ref b] below meth c H locs 211 15503 (lw_Z below #[Value.ref b] s) (F0 m 1079 ls []) := by
  obtain ⟨hHX, hHM, hPX, hPM, hDX, hDM, hap, hqx, hqm, hS⟩ := hSt
  obtain ⟨hx, hb, hr, hml, hown, hts0, hX, hbl, hlocks, hgv⟩ := id C0
  have hbA : ¬ (fun q : Nat => s.heap.size ≤ q) b := Nat.not_le.mpr hbl
  subst hL6
  obtain ⟨z, cX, cM⟩ := ag_later (xs (((0 : Int32) + 1).toNatClampNeg))
  refine lv_aload_n hx hb dL_law_1079 rfl (lv_at hl 1 rfl) ?_
  refine lv_aload_n hx hb dL_law_1080 rfl (lv_at hl 0 rfl) ?_
  refine lv_iload_n hx hb dL_law_1081 rfl (lv_at hl 3 rfl) ?_
  refine lv_iconst (v := 1) hx hb dL_law_1082 (by decide) ?_
  refine lv_iadd hx hb dL_law_1083 ?_
  refine va_sld hx hb hX hbl hbA hS vi_1 dL_law_1084 ?_
  refine law_call (as := [xs (((0 : Int32) + 1).toNatClampNeg)]) (rest := []) (ci := 11) (T := TX11) (N := 11) C0 hK hN cX mT_71 rfl cw_1317 cw_1318 cw_1319 yk_71 hHX rfl hPX hDX hS hqx (by decide) (by decide) (by decide) hl.1 rfl dL_law_1085 (fun H1 locs1 z1 k1 hS1 => ?_)
  have hPM1 := law_kept hPX hPM hap k1
  refine lv_aload_n hx hb dL_law_1088 rfl (lv_at hl 2 rfl) ?_
  refine lv_aload_n hx hb dL_law_1089 rfl (lv_at hl 0 rfl) ?_
  refine lv_iload_n hx hb dL_law_1090 rfl (lv_at hl 3 rfl) ?_
  refine lv_iconst (v := 1) hx hb dL_law_1091 (by decide) ?_
  refine lv_iadd hx hb dL_law_1092 ?_
  refine va_sld hx hb hX hbl hbA hS1 vi_1 dL_law_1093 ?_
  refine law_call (as := [xs (((0 : Int32) + 1).toNatClampNeg)]) (rest := [.int z]) (ci := 12) (T := TX12) (N := 113) C0 hK hN cM mT_132 rfl cw_2182 cw_2183 cw_2184 yk_132 hHM rfl hPM1 hDM hS1 hqm (Nat.le_of_ble_eq_true rfl) (by decide) (by decide) hl.1 rfl dL_law_1094 (fun H2 locs2 z2 k2 hS2 => ?_)
  refine lv_icmp_eq (tgt := 1237) hx hb dL_law_1097 (by decide) (fun _ => ?_) (fun g => absurd rfl g)
  exact law_tail rfl C0 hS2 hl
/-- judge -/
theorem law_judge (hL6 : L = 6) (C0 : lw_At p s m meth c b L xs) (hK : va_K D vwCl (ri_tys κ) s) (hN : ri_N s) {wsX wsM : va_W} {qx qm : Nat} {H : Heap} {locs : List Loc} (hSt : lw_St s κ D hXc hMc wsX wsM qx qm H locs) {ls : Array Slot} (hl : lv_has ls 4 [(0, .ref b), (1, .ref qx), (2, .ref qm), (3, .int 0)]) : W p l e room_1 s m #[Value.ref b] below meth c H locs 211 15503 (lw_Z below #[Value.ref b] s) (F0 m 1102 ls []) := by
  obtain ⟨hHX, hHM, hPX, hPM, hDX, hDM, hap, hqx, hqm, hS⟩ := hSt
  obtain ⟨hx, hb, hr, hml, hown, hts0, hX, hbl, hlocks, hgv⟩ := id C0
  have hbA : ¬ (fun q : Nat => s.heap.size ≤ q) b := Nat.not_le.mpr hbl
  subst hL6
  obtain ⟨z, cX, cM⟩ := ag_judge (xs (((0 : Int32) + 1).toNatClampNeg)) (xs (((0 : Int32) + 2).toNatClampNeg))
  refine lv_aload_n hx hb dL_law_1102 rfl (lv_at hl 1 rfl) ?_
  refine lv_aload_n hx hb dL_law_1103 rfl (lv_at hl 0 rfl) ?_
  refine lv_iload_n hx hb dL_law_1104 rfl (lv_at hl 3 rfl) ?_
  refine lv_iconst (v := 1) hx hb dL_law_1105 (by decide) ?_
  refine lv_iadd hx hb dL_law_1106 ?_
  refine va_sld hx hb hX hbl hbA hS vi_1 dL_law_1107 ?_
  refine lv_aload_n hx hb dL_law_1108 rfl (lv_at hl 0 rfl) ?_
  refine lv_iload_n hx hb dL_law_1109 rfl (lv_at hl 3 rfl) ?_
  refine lv_iconst (v := 2) hx hb dL_law_1110 (by decide) ?_
  refine lv_iadd hx hb dL_law_1111 ?_
  refine va_sld hx hb hX hbl hbA hS vi_2 dL_law_1112 ?_
  refine law_call (as := [xs (((0 : Int32) + 1).toNatClampNeg), xs (((0 : Int32) + 2).toNatClampNeg)]) (rest := []) (ci := 11) (T := TX11) (N := 11) C0 hK hN cX mT_70 rfl cw_1321 cw_1322 cw_1323 yk_70 hHX rfl hPX hDX hS hqx (by decide) (by decide) (by decide) hl.1 rfl dL_law_1113 (fun H1 locs1 z1 k1 hS1 => ?_)
  have hPM1 := law_kept hPX hPM hap k1
  refine lv_aload_n hx hb dL_law_1116 rfl (lv_at hl 2 rfl) ?_
  refine lv_aload_n hx hb dL_law_1117 rfl (lv_at hl 0 rfl) ?_
  refine lv_iload_n hx hb dL_law_1118 rfl (lv_at hl 3 rfl) ?_
  refine lv_iconst (v := 1) hx hb dL_law_1119 (by decide) ?_
  refine lv_iadd hx hb dL_law_1120 ?_
  refine va_sld hx hb hX hbl hbA hS1 vi_1 dL_law_1121 ?_
  refine lv_aload_n hx hb dL_law_1122 rfl (lv_at hl 0 rfl) ?_
  refine lv_iload_n hx hb dL_law_1123 rfl (lv_at hl 3 rfl) ?_
  refine lv_iconst (v := 2) hx hb dL_law_1124 (by decide) ?_
  refine lv_iadd hx hb dL_law_1125 ?_
  refine va_sld hx hb hX hbl hbA hS1 vi_2 dL_law_1126 ?_
  refine law_call (as := [xs (((0 : Int32) + 1).toNatClampNeg), xs (((0 : Int32) + 2).toNatClampNeg)]) (rest := [.int z]) (ci := 12) (T := TX12) (N := 113) C0 hK hN cM mT_129 rfl cw_2186 cw_2187 cw_2188 yk_129 hHM rfl hPM1 hDM hS1 hqm (Nat.le_of_ble_eq_true rfl) (by decide) (by decide) hl.1 rfl dL_law_1127 (fun H2 locs2 z2 k2 hS2 => ?_)
  refine lv_icmp_eq (tgt := 1237) hx hb dL_law_1130 (by decide) (fun _ => ?_) (fun g => absurd rfl g)
  exact law_tail rfl C0 hS2 hl
/-- logged -/
theorem law_logged (hL6 : L = 6) (C0 : lw_At p s m meth c b L xs) (hK : va_K D vwCl (ri_tys κ) s) (hN : ri_N s) {wsX wsM : va_W} {qx qm : Nat} {H : Heap} {locs : List Loc} (hSt : lw_St s κ D hXc hMc wsX wsM qx qm H locs) {ls : Array Slot} (hl : lv_has ls 4 [(0, .ref b), (1, .ref qx), (2, .ref qm), (3, .int 0)]) : W p l e room_1 s m #[Value.ref b] below meth c H locs 211 15503 (lw_Z below #[Value.ref b] s) (F0 m 1135 ls []) := by
  obtain ⟨hHX, hHM, hPX, hPM, hDX, hDM, hap, hqx, hqm, hS⟩ := hSt
  obtain ⟨hx, hb, hr, hml, hown, hts0, hX, hbl, hlocks, hgv⟩ := id C0
  have hbA : ¬ (fun q : Nat => s.heap.size ≤ q) b := Nat.not_le.mpr hbl
  subst hL6
  obtain ⟨z, cX, cM⟩ := ag_logged (xs (((0 : Int32) + 1).toNatClampNeg)) (xs (((0 : Int32) + 2).toNatClampNeg))
  refine lv_aload_n hx hb dL_law_1135 rfl (lv_at hl 1 rfl) ?_
  refine lv_aload_n hx hb dL_law_1136 rfl (lv_at hl 0 rfl) ?_
  refine lv_iload_n hx hb dL_law_1137 rfl (lv_at hl 3 rfl) ?_
  refine lv_iconst (v := 1) hx hb dL_law_1138 (by decide) ?_
  refine lv_iadd hx hb dL_law_1139 ?_
  refine va_sld hx hb hX hbl hbA hS vi_1 dL_law_1140 ?_
  refine lv_aload_n hx hb dL_law_1141 rfl (lv_at hl 0 rfl) ?_
  refine lv_iload_n hx hb dL_law_1142 rfl (lv_at hl 3 rfl) ?_
  refine lv_iconst (v := 2) hx hb dL_law_1143 (by decide) ?_
  refine lv_iadd hx hb dL_law_1144 ?_
  refine va_sld hx hb hX hbl hbA hS vi_2 dL_law_1145 ?_
  refine law_call (as := [xs (((0 : Int32) + 1).toNatClampNeg), xs (((0 : Int32) + 2).toNatClampNeg)]) (rest := []) (ci := 11) (T := TX11) (N := 11) C0 hK hN cX mT_73 rfl cw_1347 cw_1348 cw_1349 yk_73 hHX rfl hPX hDX hS hqx (by decide) (by decide) (by decide) hl.1 rfl dL_law_1146 (fun H1 locs1 z1 k1 hS1 => ?_)
  have hPM1 := law_kept hPX hPM hap k1
  refine lv_aload_n hx hb dL_law_1149 rfl (lv_at hl 2 rfl) ?_
  refine lv_aload_n hx hb dL_law_1150 rfl (lv_at hl 0 rfl) ?_
  refine lv_iload_n hx hb dL_law_1151 rfl (lv_at hl 3 rfl) ?_
  refine lv_iconst (v := 1) hx hb dL_law_1152 (by decide) ?_
  refine lv_iadd hx hb dL_law_1153 ?_
  refine va_sld hx hb hX hbl hbA hS1 vi_1 dL_law_1154 ?_
  refine lv_aload_n hx hb dL_law_1155 rfl (lv_at hl 0 rfl) ?_
  refine lv_iload_n hx hb dL_law_1156 rfl (lv_at hl 3 rfl) ?_
  refine lv_iconst (v := 2) hx hb dL_law_1157 (by decide) ?_
  refine lv_iadd hx hb dL_law_1158 ?_
  refine va_sld hx hb hX hbl hbA hS1 vi_2 dL_law_1159 ?_
  refine law_call (as := [xs (((0 : Int32) + 1).toNatClampNeg), xs (((0 : Int32) + 2).toNatClampNeg)]) (rest := [.int z]) (ci := 12) (T := TX12) (N := 113) C0 hK hN cM mT_134 rfl cw_2198 cw_2199 cw_2200 yk_134 hHM rfl hPM1 hDM hS1 hqm (Nat.le_of_ble_eq_true rfl) (by decide) (by decide) hl.1 rfl dL_law_1160 (fun H2 locs2 z2 k2 hS2 => ?_)
  refine lv_icmp_eq (tgt := 1237) hx hb dL_law_1163 (by decide) (fun _ => ?_) (fun g => absurd rfl g)
  exact law_tail rfl C0 hS2 hl
/-- image -/
theorem law_image (hL6 : L = 6) (C0 : lw_At p s m meth c b L xs) (hK : va_K D vwCl (ri_tys κ) s) (hN : ri_N s) {wsX wsM : va_W} {qx qm : Nat} {H : Heap} {locs : List Loc} (hSt : lw_St s κ D hXc hMc wsX wsM qx qm H locs) {ls : Array Slot} (hl : lv_has ls 4 [(0, .ref b), (1, .ref qx), (2, .ref qm), (3, .int 0)]) : W p l e room_1 s m #[Value.ref b] below meth c H locs 211 15503 (lw_Z below #[Value.ref b] s) (F0 m 1168 ls []) := by
  obtain ⟨hHX, hHM, hPX, hPM, hDX, hDM, hap, hqx, hqm, hS⟩ := hSt
  obtain ⟨hx, hb, hr, hml, hown, hts0, hX, hbl, hlocks, hgv⟩ := id C0
  have hbA : ¬ (fun q : Nat => s.heap.size ≤ q) b := Nat.not_le.mpr hbl
  subst hL6
  obtain ⟨z, cX, cM⟩ := ag_image (xs (((0 : Int32) + 1).toNatClampNeg))
  refine lv_aload_n hx hb dL_law_1168 rfl (lv_at hl 1 rfl) ?_
  refine lv_aload_n hx hb dL_law_1169 rfl (lv_at hl 0 rfl) ?_
  refine lv_iload_n hx hb dL_law_1170 rfl (lv_at hl 3 rfl) ?_
  refine lv_iconst (v := 1) hx hb dL_law_1171 (by decide) ?_
  refine lv_iadd hx hb dL_law_1172 ?_
  refine va_sld hx hb hX hbl hbA hS vi_1 dL_law_1173 ?_
  refine law_call (as := [xs (((0 : Int32) + 1).toNatClampNeg)]) (rest := []) (ci := 11) (T := TX11) (N := 11) C0 hK hN cX mT_68 rfl cw_1359 cw_1360 cw_1361 yk_68 hHX rfl hPX hDX hS hqx (by decide) (by decide) (by decide) hl.1 rfl dL_law_1174 (fun H1 locs1 z1 k1 hS1 => ?_)
  have hPM1 := law_kept hPX hPM hap k1
  refine lv_aload_n hx hb dL_law_1177 rfl (lv_at hl 2 rfl) ?_
  refine lv_aload_n hx hb dL_law_1178 rfl (lv_at hl 0 rfl) ?_
  refine lv_iload_n hx hb dL_law_1179 rfl (lv_at hl 3 rfl) ?_
  refine lv_iconst (v := 1) hx hb dL_law_1180 (by decide) ?_
  refine lv_iadd hx hb dL_law_1181 ?_
  refine va_sld hx hb hX hbl hbA hS1 vi_1 dL_law_1182 ?_
  refine law_call (as := [xs (((0 : Int32) + 1).toNatClampNeg)]) (rest := [.int z]) (ci := 12) (T := TX12) (N := 113) C0 hK hN cM mT_122 rfl cw_2206 cw_2207 cw_2208 yk_122 hHM rfl hPM1 hDM hS1 hqm (Nat.le_of_ble_eq_true rfl) (by decide) (by decide) hl.1 rfl dL_law_1183 (fun H2 locs2 z2 k2 hS2 => ?_)
  refine lv_icmp_eq (tgt := 1237) hx hb dL_law_1186 (by decide) (fun _ => ?_) (fun g => absurd rfl g)
  exact law_tail rfl C0 hS2 hl
/-- back -/
theorem law_back (hL6 : L = 6) (C0 : lw_At p s m meth c b L xs) (hK : va_K D vwCl (ri_tys κ) s) (hN : ri_N s) {wsX wsM : va_W} {qx qm : Nat} {H : Heap} {locs : List Loc} (hSt : lw_St s κ D hXc hMc wsX wsM qx qm H locs) {ls : Array Slot} (hl : lv_has ls 4 [(0, .ref b), (1, .ref qx), (2, .ref qm), (3, .int 0)]) : W p l e room_1 s m #[Value.ref b] below meth c H locs 211 15503 (lw_Z below #[Value.ref b] s) (F0 m 1191 ls []) := by
  obtain ⟨hHX, hHM, hPX, hPM, hDX, hDM, hap, hqx, hqm, hS⟩ := hSt
  obtain ⟨hx, hb, hr, hml, hown, hts0, hX, hbl, hlocks, hgv⟩ := id C0
  have hbA : ¬ (fun q : Nat => s.heap.size ≤ q) b := Nat.not_le.mpr hbl
  subst hL6
  obtain ⟨z, cX, cM⟩ := ag_back (xs (((0 : Int32) + 1).toNatClampNeg))
  refine lv_aload_n hx hb dL_law_1191 rfl (lv_at hl 1 rfl) ?_
  refine lv_aload_n hx hb dL_law_1192 rfl (lv_at hl 0 rfl) ?_
  refine lv_iload_n hx hb dL_law_1193 rfl (lv_at hl 3 rfl) ?_
  refine lv_iconst (v := 1) hx hb dL_law_1194 (by decide) ?_
  refine lv_iadd hx hb dL_law_1195 ?_
  refine va_sld hx hb hX hbl hbA hS vi_1 dL_law_1196 ?_
  refine law_call (as := [xs (((0 : Int32) + 1).toNatClampNeg)]) (rest := []) (ci := 11) (T := TX11) (N := 11) C0 hK hN cX mT_55 rfl cw_1364 cw_1365 cw_1366 yk_55 hHX rfl hPX hDX hS hqx (by decide) (by decide) (by decide) hl.1 rfl dL_law_1197 (fun H1 locs1 z1 k1 hS1 => ?_)
  have hPM1 := law_kept hPX hPM hap k1
  refine lv_aload_n hx hb dL_law_1200 rfl (lv_at hl 2 rfl) ?_
  refine lv_aload_n hx hb dL_law_1201 rfl (lv_at hl 0 rfl) ?_
  refine lv_iload_n hx hb dL_law_1202 rfl (lv_at hl 3 rfl) ?_
  refine lv_iconst (v := 1) hx hb dL_law_1203 (by decide) ?_
  refine lv_iadd hx hb dL_law_1204 ?_
  refine va_sld hx hb hX hbl hbA hS1 vi_1 dL_law_1205 ?_
  refine law_call (as := [xs (((0 : Int32) + 1).toNatClampNeg)]) (rest := [.int z]) (ci := 12) (T := TX12) (N := 113) C0 hK hN cM mT_95 rfl cw_2210 cw_2211 cw_2212 yk_95 hHM rfl hPM1 hDM hS1 hqm (Nat.le_of_ble_eq_true rfl) (by decide) (by decide) hl.1 rfl dL_law_1206 (fun H2 locs2 z2 k2 hS2 => ?_)
  refine lv_icmp_eq (tgt := 1237) hx hb dL_law_1209 (by decide) (fun _ => ?_) (fun g => absurd rfl g)
  exact law_tail rfl C0 hS2 hl
/-- about -/
theorem law_about (hL6 : L = 6) (C0 : lw_At p s m meth c b L xs) (hK : va_K D vwCl (ri_tys κ) s) (hN : ri_N s) {wsX wsM : va_W} {qx qm : Nat} {H : Heap} {locs : List Loc} (hSt : lw_St s κ D hXc hMc wsX wsM qx qm H locs) {ls : Array Slot} (hl : lv_has ls 4 [(0, .ref b), (1, .ref qx), (2, .ref qm), (3, .int 0)]) : W p l e room_1 s m #[Value.ref b] below meth c H locs 211 15503 (lw_Z below #[Value.ref b] s) (F0 m 1214 ls []) := by
  obtain ⟨hHX, hHM, hPX, hPM, hDX, hDM, hap, hqx, hqm, hS⟩ := hSt
  obtain ⟨hx, hb, hr, hml, hown, hts0, hX, hbl, hlocks, hgv⟩ := id C0
  have hbA : ¬ (fun q : Nat => s.heap.size ≤ q) b := Nat.not_le.mpr hbl
  subst hL6
  obtain ⟨z, cX, cM⟩ := ag_about (xs (((0 : Int32) + 1).toNatClampNeg))
  refine lv_aload_n hx hb dL_law_1214 rfl (lv_at hl 1 rfl) ?_
  refine lv_aload_n hx hb dL_law_1215 rfl (lv_at hl 0 rfl) ?_
  refine lv_iload_n hx hb dL_law_1216 rfl (lv_at hl 3 rfl) ?_
  refine lv_iconst (v := 1) hx hb dL_law_1217 (by decide) ?_
  refine lv_iadd hx hb dL_law_1218 ?_
  refine va_sld hx hb hX hbl hbA hS vi_1 dL_law_1219 ?_
  refine law_call (as := [xs (((0 : Int32) + 1).toNatClampNeg)]) (rest := []) (ci := 11) (T := TX11) (N := 11) C0 hK hN cX mT_53 rfl cw_1368 cw_1369 cw_1370 yk_53 hHX rfl hPX hDX hS hqx (by decide) (by decide) (by decide) hl.1 rfl dL_law_1220 (fun H1 locs1 z1 k1 hS1 => ?_)
  have hPM1 := law_kept hPX hPM hap k1
  refine lv_aload_n hx hb dL_law_1223 rfl (lv_at hl 2 rfl) ?_
  refine lv_aload_n hx hb dL_law_1224 rfl (lv_at hl 0 rfl) ?_
  refine lv_iload_n hx hb dL_law_1225 rfl (lv_at hl 3 rfl) ?_
  refine lv_iconst (v := 1) hx hb dL_law_1226 (by decide) ?_
  refine lv_iadd hx hb dL_law_1227 ?_
  refine va_sld hx hb hX hbl hbA hS1 vi_1 dL_law_1228 ?_
  refine law_call (as := [xs (((0 : Int32) + 1).toNatClampNeg)]) (rest := [.int z]) (ci := 12) (T := TX12) (N := 113) C0 hK hN cM mT_93 rfl cw_2214 cw_2215 cw_2216 yk_93 hHM rfl hPM1 hDM hS1 hqm (Nat.le_of_ble_eq_true rfl) (by decide) (by decide) hl.1 rfl dL_law_1229 (fun H2 locs2 z2 k2 hS2 => ?_)
  refine lv_icmp_eq (tgt := 1237) hx hb dL_law_1232 (by decide) (fun _ => ?_) (fun g => absurd rfl g)
  exact law_tail rfl C0 hS2 hl
end LW
