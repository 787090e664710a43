/-! THE CLAIM OUT OF ONE WALK OF THE LAW'S BODY. Your part is whole_start (and what it stands on); all else here is the same for every law, but numbers. -/
def R_law : String := "CableStreetLaw"
def lw_P (b : Addr) (xs : List Int32) (args : Array Value) (s : State) : Prop := args = #[.ref b] ∧ s.IntsAt b xs ∧ xs.length ≤ 3072 ∧ (Jvm.Cond.and given_1 narrow_1).before args s = true
def lw_Q (_ : Array Value) (s : State) (o : Outcome) (t : State) : Prop := o = .returned (some (.int 1)) ∧ Framed s o t [] 600000 7302250
def lw_Z (below : List Frame) (a : Array Value) (s : State) : State → Prop := fun t => ∃ o, t.status = .running ∧ Ended t below o ∧ lw_Q a s o t
/-- the law's own end, with 1 on the stack, nothing written that was there before, its room as the claim has it -/
theorem lw_ret {p : Program} {l : Launch} {e : Env} {s : State} {m : MethodId} {below : List Frame} {meth : Method} {c : Code} {b : Nat} (hx : p.tables.exec = Jvm.exec) (hb : c.code = code) (hr : meth.sig.returnType = ret) (hlocks : meth.locks = false) {pc : Nat} {H : Heap} {ls : Array Slot} (hdg : decode code pc = .ok (.ireturn, 1)) : W p l e room_1 s m #[Value.ref b] below meth c H [] 600000 7302250 (lw_Z below #[Value.ref b] s) (F0 m pc ls [.int 1]) := by
  intro T hT X
  obtain ⟨fs, hret, hrun, hended, hW, hframe⟩ := X.leave (v := some (.int 1)) (hlocks := hlocks) (fun h => by rw [hr] at h; cases h)
  have hmeth' : T.vm.method? m = some meth := X.method'
  refine ⟨T.setFrames fs, ?_, .returned (some (.int 1)), hrun, hended, rfl, ⟨_, rfl⟩, hW, hframe⟩
  jvm_step X.here [X.here.top, hx, hb, hdg, hmeth', hr, ret, narrow_b1]
  (try refine ⟨rfl, ?_⟩); (try refine ⟨rfl, ?_⟩)
  first | (intro acts; rw [hret _ acts rfl rfl rfl]) | rw [hret _ _ rfl rfl rfl]
  exact Steps.refl _
/-- what holds at the law's entry: the machine, the code, the tables' words (any of lw_tbl by 'hts w (by decide +kernel)'), the script of L ints xs at the cell b, what the Statement gives of the start (any of its parts by flat_of_before) -/
def lw_At (p : Program) (s : State) (m : MethodId) (meth : Method) (c : Code) (b L : Nat) (xs : Nat → Int32) : Prop :=
  p.tables.exec = Jvm.exec ∧ c.code = code ∧ meth.sig.returnType = ret ∧ c.maxLocals = 4 ∧ s.vm.findClass R_law = some m.cls ∧ (∀ w ∈ lw_tbl, w.before #[Value.ref b] s = true) ∧ va_X b L xs s s.heap ∧ b < s.heap.size ∧ meth.locks = false ∧ (Jvm.Cond.and given_1 narrow_1).before #[Value.ref b] s = true

theorem nw_0 : Cond.methodLinkNest "CableStreet" 19 ⟨"CableStreet$Reader", "<init>", "()V"⟩ "CableStreet" ∈ lw_tbl := List.mem_append_right _ (List.mem_append_left _ (List.mem_of_getElem? (i := 33) rfl))
theorem nw_1 : Cond.methodLinkNest "CableStreet" 51 ⟨"CableStreet$Machine", "<init>", "()V"⟩ "CableStreet" ∈ lw_tbl := List.mem_append_right _ (List.mem_append_right _ (List.mem_append_left _ (List.mem_of_getElem? (i := 193) rfl)))
theorem nw_2 : Cond.methodLinkNest "CableStreet" 58 ⟨"CableStreet$Forecast", "<init>", "()V"⟩ "CableStreet" ∈ lw_tbl := List.mem_append_right _ (List.mem_append_right _ (List.mem_append_left _ (List.mem_of_getElem? (i := 212) rfl)))
theorem nw_3 : Cond.methodLinkNest "CableStreet" 65 ⟨"CableStreet$Logs", "<init>", "()V"⟩ "CableStreet" ∈ lw_tbl := List.mem_append_right _ (List.mem_append_right _ (List.mem_append_right _ (List.mem_append_left _ (List.mem_of_getElem? (i := 9) rfl))))
theorem nw_4 : Cond.methodLinkNest "CableStreet$Forecast" 11 ⟨"CableStreet$Machine", "<init>", "()V"⟩ "CableStreet" ∈ lw_tbl := List.mem_append_right _ (List.mem_append_right _ (List.mem_append_left _ (List.mem_of_getElem? (i := 217) rfl)))
theorem nw_5 : Cond.methodLinkNest "CableStreet$Plan" 46 ⟨"CableStreet$Crosses", "<init>", "()V"⟩ "CableStreet" ∈ lw_tbl := List.mem_append_right _ (List.mem_append_left _ (List.mem_of_getElem? (i := 120) rfl))
theorem nw_6 : Cond.methodLinkNest "CableStreet$Plan" 51 ⟨"CableStreet$Rope", "<init>", "()V"⟩ "CableStreet" ∈ lw_tbl := List.mem_append_right _ (List.mem_append_left _ (List.mem_of_getElem? (i := 149) rfl))
theorem nw_7 : Cond.methodLinkNest "CableStreet$Reader" 11 ⟨"CableStreet$Lexer", "<init>", "()V"⟩ "CableStreet" ∈ lw_tbl := List.mem_append_right _ (List.mem_append_left _ (List.mem_of_getElem? (i := 39) rfl))
theorem nw_8 : Cond.methodLinkNest "CableStreet$State" 30 ⟨"CableStreet$Events", "<init>", "()V"⟩ "CableStreet" ∈ lw_tbl := List.mem_append_right _ (List.mem_append_right _ (List.mem_append_left _ (List.mem_of_getElem? (i := 54) rfl)))
theorem nw_9 : Cond.methodLinkNest "CableStreet$State" 35 ⟨"CableStreet$Car", "<init>", "()V"⟩ "CableStreet" ∈ lw_tbl := List.mem_append_right _ (List.mem_append_right _ (List.mem_append_left _ (List.mem_of_getElem? (i := 73) rfl)))
theorem nw_all : ∀ q ∈ ri_nests, Cond.methodLinkNest q.1 q.2.1 q.2.2.1 q.2.2.2 ∈ lw_tbl := List.forall_mem_cons.mpr ⟨nw_0, List.forall_mem_cons.mpr ⟨nw_1, List.forall_mem_cons.mpr ⟨nw_2, List.forall_mem_cons.mpr ⟨nw_3, List.forall_mem_cons.mpr ⟨nw_4, List.forall_mem_cons.mpr ⟨nw_5, List.forall_mem_cons.mpr ⟨nw_6, List.forall_mem_cons.mpr ⟨nw_7, List.forall_mem_cons.mpr ⟨nw_8, List.forall_mem_cons.mpr ⟨nw_9, fun _ h => absurd h List.not_mem_nil⟩⟩⟩⟩⟩⟩⟩⟩⟩⟩
theorem ov_9 : (Jvm.Cond.arrayOver (Jvm.ClassFile.FieldType.object "CableStreet$Rope")) ∈ lw_tbl := List.mem_append_right _ (List.mem_append_left _ (List.mem_of_getElem? (i := 115) rfl))
theorem ov_0 : (Jvm.Cond.arrayOver (Jvm.ClassFile.FieldType.object "CableStreet$Car")) ∈ lw_tbl := List.mem_append_right _ (List.mem_append_right _ (List.mem_append_left _ (List.mem_of_getElem? (i := 51) rfl)))
theorem ov_10 : (Jvm.Cond.arrayOver (Jvm.ClassFile.FieldType.object "CableStreet$State")) ∈ lw_tbl := List.mem_append_right _ (List.mem_append_right _ (List.mem_append_left _ (List.mem_of_getElem? (i := 190) rfl)))
theorem ov_i : (Jvm.Cond.arrayOver (Jvm.ClassFile.FieldType.array Jvm.ClassFile.FieldType.int)) ∈ lw_tbl := List.mem_append_right _ (List.mem_append_left _ (List.mem_of_getElem? (i := 117) rfl))
theorem st_0 : (Jvm.Cond.stringRef "CableStreet$Lexer" (67 : Nat) ";-()<>=+*") ∈ lw_tbl := List.mem_append_right _ (List.mem_append_right _ (List.mem_append_right _ (List.mem_append_left _ (List.mem_of_getElem? (i := 200) rfl))))
theorem st_1 : (Jvm.Cond.stringRef "CableStreet$Lexer" (77 : Nat) "rope speed long from to bears grade car at weighs let grip stop for catch drag brake splice on lasts turn cross when or and not tick ahead behind load ") ∈ lw_tbl := List.mem_append_right _ (List.mem_append_right _ (List.mem_append_right _ (List.mem_append_left _ (List.mem_of_getElem? (i := 143) rfl))))
theorem st_2 : (Jvm.Cond.laysStatic "java/lang/String" "COMPACT_STRINGS" "Z") ∈ lw_tbl := List.mem_append_right _ (List.mem_append_right _ (List.mem_append_right _ (List.mem_append_left _ (List.mem_of_getElem? (i := 153) rfl))))
theorem st_3 : (Jvm.Cond.laysStatic "jdk/internal/util/Preconditions" "SIOOBE_FORMATTER" "Ljava/util/function/BiFunction;") ∈ lw_tbl := List.mem_append_right _ (List.mem_append_right _ (List.mem_append_right _ (List.mem_append_left _ (List.mem_of_getElem? (i := 169) rfl))))
theorem st_4 : (Jvm.Cond.initialized "java/lang/String") ∈ lw_tbl := List.mem_append_right _ (List.mem_append_left _ (List.mem_of_getElem? (i := 17) rfl))
theorem st_5 : (Jvm.Cond.initialized "jdk/internal/util/Preconditions") ∈ lw_tbl := List.mem_append_right _ (List.mem_append_left _ (List.mem_of_getElem? (i := 19) rfl))
/-- the classes as the tables have them, at the law's entry -/
theorem lw_world {s : State} {b : Nat} (hts : ∀ w ∈ lw_tbl, w.before #[Value.ref b] s = true) : ∃ (D : va_G) (κ : Nat → ClassId), va_K D vwCl (ri_tys κ) s ∧ ri_N s := by
  have hgu : ∀ w ∈ gU, w.before #[Value.ref b] s = true := fun w hw => hts w (List.mem_filter.mp hw).1
  have hN : ri_N s := ⟨fun q hq => va_Nw.of rfl (hts _ (nw_all q hq)), va_AO.of (hts _ ov_9), va_AO.of (hts _ ov_0), va_AO.of (hts _ ov_10), over_moved (Vm.Alike.refl s.vm) (hts _ ov_i)⟩
  have hex : ∀ ci : Nat, ∃ p : ClassId × (Nat → Nat), ∀ q : vw_C, vwCl[ci]? = some q → u_Kn s q.1 q.2.1 q.2.2 p.1 p.2 := fun ci => by
    cases h : vwCl[ci]? with
    | none => exact ⟨(0, fun _ => 0), fun q e => by cases e⟩
    | some q =>
      obtain ⟨C, T, N⟩ := q
      obtain ⟨g1, g2, -⟩ := co_all ci C T N h
      obtain ⟨cC, iS, hk⟩ := u_known hgu g1 (hgu _ g2)
      exact ⟨(cC, iS), fun q e => by cases e; exact hk⟩
  obtain ⟨F, hF⟩ := Classical.axiomOfChoice hex
  have prim : ∀ t : FieldType, Cond.arrayClass t ∈ gU → (∀ cA, s.vm.findClass ("[" ++ t.toString) = some cA → va_RA s cA t) → ∃ cA, ArrOfT s cA t ∧ va_RA s cA t := fun t ht hra => by
    obtain ⟨c, k, comp, h1, h2, h3⟩ := Cond.arrayClass_spec (hgu _ ht)
    exact ⟨c, fun n z => ⟨(fun k h => by cases h), k, h2, comp, h3⟩, hra c h1⟩
  have obj : ∀ C : String, va_AO C s → ∃ cA, ArrOfT s cA (.object C) ∧ va_RA s cA (.object C) := fun C hC => by
    obtain ⟨comp, c, k, h1, -, h2, h3, h4⟩ := Cond.arrayOver_spec hC
    exact ⟨c, fun n z => ⟨(fun k h => by cases h), k, h2, comp, h3⟩, k, comp, h2, h3, h1, h4⟩
  have hak : ∀ t : Nat, ∃ cA : ClassId, ArrOfT s cA (ri_ty t) ∧ va_RA s cA (ri_ty t) := fun t => by
    rcases t with _ | _ | _ | _ | _ | _ | _ | t
    · exact prim .int ao_all.1 (fun _ h => h)
    · exact prim .boolean ao_all.2.1 (fun _ h => h)
    · exact prim .byte ao_all.2.2.1 (fun _ h => h)
    · exact prim .long ao_all.2.2.2.1 (fun _ h => h)
    · exact obj RX9 hN.2.1
    · exact obj RX0 hN.2.2.1
    · exact obj RX10 hN.2.2.2.1
    · obtain ⟨comp, c, k, h1, -, h2, h3, h4⟩ := arrayOverA_spec hN.2.2.2.2
      exact ⟨c, fun n z => ⟨(fun k h => by cases h), k, h2, comp, h3⟩, h4⟩
  obtain ⟨κ, hκ⟩ := Classical.axiomOfChoice hak
  refine ⟨(fun ci => (F ci).1, fun ci => (F ci).2), κ, ⟨fun ci q h => hF ci q h, fun k q h => ?_⟩, hN⟩
  have hk : k ≤ 7 := by
    have : k < 8 := (List.getElem?_eq_some_iff.mp h).1
    omega
  have e := (ri_tys_at κ hk).symm.trans h
  cases e
  exact hκ k
def lw_tm (i : Nat) : Term := match i with
  | 0 => .string "CableStreet$Lexer" 67
  | _ => .string "CableStreet$Lexer" 77
set_option maxRecDepth 100000 in
theorem lw_z1 : ∀ i, i < 2 → (Cond.exactly (lw_tm i) "java/lang/String") ∈ flatC (Jvm.Cond.and given_1 narrow_1) := by decide +kernel
set_option maxRecDepth 100000 in
theorem lw_z2 : ∀ i, i < 2 → (Cond.eq (.field (lw_tm i) "java/lang/String" "coder" "B") (.int 0)) ∈ flatC (Jvm.Cond.and given_1 narrow_1) := by decide +kernel
set_option maxRecDepth 100000 in
theorem lw_z3 : ∀ i, i < 2 → (Cond.arrayOf (.field (lw_tm i) "java/lang/String" "value" "[B") .byte) ∈ flatC (Jvm.Cond.and given_1 narrow_1) := by decide +kernel
set_option maxRecDepth 100000 in
theorem lw_z4 : ∀ i, i < 2 → (Cond.eq (.length (.field (lw_tm i) "java/lang/String" "value" "[B")) (.int (Int32.ofNat (jLen.getD i 0)))) ∈ flatC (Jvm.Cond.and given_1 narrow_1) := by decide +kernel
def lw_bs : List Nat := [207, 52]
set_option maxRecDepth 100000 in
theorem lw_z5a : ∀ i, i < 2 → ∀ j, j < jLen.getD i 0 → (flatC (Jvm.Cond.and given_1 narrow_1))[lw_bs.getD i 0 + j]? = some (Cond.eq (.elem (.field (lw_tm i) "java/lang/String" "value" "[B") (.int (Int32.ofNat j))) (.int ((jByt.getD i []).getD j 0))) := by decide +kernel
theorem lw_z5 : ∀ i, i < 2 → ∀ j, j < jLen.getD i 0 → (Cond.eq (.elem (.field (lw_tm i) "java/lang/String" "value" "[B") (.int (Int32.ofNat j))) (.int ((jByt.getD i []).getD j 0))) ∈ flatC (Jvm.Cond.and given_1 narrow_1) := fun i hi j hj => List.mem_of_getElem? (lw_z5a i hi j hj)
set_option maxRecDepth 100000 in
theorem lw_z6 : ∀ i, i < 2 → ∀ j, j < 2 → i ≠ j → (Cond.not (Cond.eq (lw_tm i) (lw_tm j))) ∈ flatC (Jvm.Cond.and given_1 narrow_1) ∨ (Cond.not (Cond.eq (lw_tm j) (lw_tm i))) ∈ flatC (Jvm.Cond.and given_1 narrow_1) := by decide +kernel
theorem lw_z7 : (Cond.eq (.static "java/lang/String" "COMPACT_STRINGS" "Z") (.int 1)) ∈ flatC (Jvm.Cond.and given_1 narrow_1) := by decide +kernel
theorem lw_z8 : (Cond.isRef (.static "jdk/internal/util/Preconditions" "SIOOBE_FORMATTER" "Ljava/util/function/BiFunction;")) ∈ flatC (Jvm.Cond.and given_1 narrow_1) := by decide +kernel
/-- .. and the String constants -/
theorem lw_world2 {s : State} {b : Nat} (hts : ∀ w ∈ lw_tbl, w.before #[Value.ref b] s = true) (hgv : (Jvm.Cond.and given_1 narrow_1).before #[Value.ref b] s = true) : ∃ (D : va_G) (κ : Nat → ClassId), va_K D vwCl (ri_tys κ) s ∧ ri_N s ∧ rc_Z D [] s := by
  obtain ⟨D, κ, hK, hN⟩ := lw_world hts
  have hs := flat_of_before _ hgv
  have hA : ∀ a : Nat, a < s.heap.size → ¬ va_A [] s.heap.size a := fun a ha g => by
    rcases g with ⟨k, e0, hk⟩ | g
    · simp at hk
    · omega
  obtain ⟨adK, adV, hS, hE⟩ := vk_Sof (args := #[Value.ref b]) (s := s) (N := 2) (tm := lw_tm) (len := jLen) (byt := jByt) (A := va_A [] s.heap.size) (by decide) (fun i hi => hs _ (lw_z1 i hi)) (fun i hi => hs _ (lw_z2 i hi)) (fun i hi => hs _ (lw_z3 i hi)) (fun i hi => hs _ (lw_z4 i hi)) (fun i hi j hj => hs _ (lw_z5 i hi j hj)) (fun i j hi hj hne => (lw_z6 i hi j hj hne).imp (fun g => hs _ g) (fun g => hs _ g)) hA
  obtain ⟨v, hv, hvr⟩ := Cond.isRef_spec (hs _ lw_z8)
  have hv2 : ∃ z f : Nat, v = (if z = 0 then .ref f else .null) := by
    cases v with
    | ref a => exact ⟨0, a, rfl⟩
    | null => exact ⟨1, 0, rfl⟩
    | _ => exact absurd (show false = true from hvr) (by decide)
  obtain ⟨z, f, rfl⟩ := hv2
  refine ⟨(D.1, fun ci => if ci = 100 then adK else if ci = 101 then adV else if ci = 102 then (fun _ => f) else if ci = 103 then (fun _ => z) else D.2 ci), κ, ⟨fun c q hq => ?_, hK.2⟩, hN, hS, ?_, ?_, ?_, ?_⟩
  · have hc : c < vwCl.length := (List.getElem?_eq_some_iff.mp hq).1
    have hc : c < 13 := hc
    show u_Kn s q.1 q.2.1 q.2.2 (D.1 c) (if c = 100 then adK else if c = 101 then adV else if c = 102 then (fun _ => f) else if c = 103 then (fun _ => z) else D.2 c)
    rw [if_neg (by omega), if_neg (by omega), if_neg (by omega), if_neg (by omega)]
    exact hK.1 c q hq
  · exact vk_R.of (A := #[Value.ref b]) (hts _ st_0) (hE 0 (by decide))
  · exact vk_R.of (A := #[Value.ref b]) (hts _ st_1) (hE 1 (by decide))
  · exact va_Zof (hts _ st_2) (hts _ st_4) (va_eqt (hs _ lw_z7)) hA
  · exact va_Zof (hts _ st_3) (hts _ st_5) hv hA
section LW
variable {p : Program} {l : Launch} {e : Env} {s : State} {m : MethodId} {below : List Frame} {meth : Method} {c : Code} {b L : Nat} {xs : Nat → Int32} {D : va_G} {κ : Nat → ClassId} {adX adM : List Nat}
/-- the two systems between calls -/
def lw_LS (s : State) (κ : Nat → ClassId) (D : va_G) (adX adM : List Nat) (wsX wsM : va_W) (H : Heap) (locs : List Loc) : Prop := xI κ adX wsX ∧ mI κ adM wsM ∧ mv wsX 85 0 = mv wsM 0 97 ∧ va_P D vwCl wsX H ∧ va_P D vwCl wsM H ∧ va_D (fun q => s.heap.size ≤ q) wsX ∧ va_D (fun q => s.heap.size ≤ q) wsM ∧ va_S (fun q => s.heap.size ≤ q) s.heap H locs
theorem lw_call {mi : Nat} {P : List Value → va_W → Prop} {Qv : List Value → va_W → Option Value → va_W → Prop} {as : List Value} {y : MethodName} {cc' : ByteArray} {nL' : Nat} {ret' : Option FieldType} {ci : Nat} {T : u_T} {N idx : Nat} {vsb : List Value} {ws : va_W} {H : Heap} {locs : List Loc} {pc q0 : Nat} {ls : Array Slot} {rest : List Value} {Q : State → Prop} (C0 : lw_At p s m meth c b L xs) (hK : va_K D vwCl (ri_tys κ) s) (hN : ri_N s) (hZ : rc_Z D [] s) (hme : rc_ME l κ D mi P Qv) (hm : mT[mi]? = some (y, cc', nL', ret')) (hci : vwCl[ci]? = some (y.cls, T, N)) (hlink : Cond.methodLink R_law idx y ∈ gU) (hinst : Cond.instanceMethod y ∈ gU) (hsel : Cond.selects y.cls y y ∈ gU) (hyok : ri_yOK y as.length) (hpre : P (.ref q0 :: as) ws) (heb : ws[0]? = some (q0, .inr (ci, vsb))) (hP : va_P D vwCl ws H) (hD : va_D (fun q => s.heap.size ≤ q) ws) (hS : va_S (fun q => s.heap.size ≤ q) s.heap H locs) (hrest : (rest.map fun v => v.category).sum ≤ 8) (hls : ls.size = 4) (hd : decode code pc = .ok (.invokevirtual idx, 3)) (kk : ∀ (ov : Option Value) (ws' : va_W) (H1 : Heap) (locs1 : List Loc), Qv (.ref q0 :: as) ws ov ws' → ri_ad ws' = ri_ad ws → va_P D vwCl ws' H1 → va_D (fun q => s.heap.size ≤ q) ws' → (∀ q : Nat, q < H.size → ¬ va_A ws H.size q → H1[q]? = H[q]?) → va_S (fun q => s.heap.size ≤ q) s.heap H1 locs1 → W p l e room_1 s m #[Value.ref b] below meth c H1 locs1 211 15503 Q (F0 m (pc + 3) ls (ov.toList ++ rest))) : W p l e room_1 s m #[Value.ref b] below meth c H locs 211 15503 Q (F0 m pc ls (as.reverse ++ .ref q0 :: rest)) := by
  obtain ⟨hx, hb, hr, hml, hown, hts0, hX, hbl, hlocks, hgv⟩ := C0
  have hts : ∀ w ∈ gU, w.before #[Value.ref b] s = true := fun w hw => hts0 w (List.mem_filter.mp hw).1
  obtain ⟨u1, u2, -, u4, -, -⟩ := tab_all mi y cc' nL' ret' hm
  obtain ⟨d, hd200, met⟩ := hme y cc' nL' ret' hm ws H.size (.ref q0 :: as) hpre
  have hFc : ∀ x, va_A ws H.size x → s.heap.size ≤ x := fun x hx0 => by
    rcases hx0 with ⟨k, e0, hk⟩ | hx0
    · exact hD.2 k _ hk
    · exact Nat.le_trans hS.1 hx0
  have eA : (fun q : Nat => s.heap.size ≤ q) = va_A [] s.heap.size := by
    funext q
    exact propext ⟨Or.inr, fun g => by
      rcases g with ⟨k, e0, hk⟩ | g
      · simp at hk
      · exact g⟩
  have hS' : va_S (va_A [] s.heap.size) s.heap H locs := by rw [← eA]; exact hS
  have hFc' : ∀ x, va_A ws H.size x → va_A [] s.heap.size x := fun x g => Or.inr (hFc x g)
  refine ri_callR (va_runV (Ts := gU) (C := y.cls) (b := q0) (As := as) (rest := rest) (n := as.length) ⟨hx, hb, hml, hown, hts⟩ met ⟨callB_of as.length hts (gU_in u1 gU (fun _ g => g)) rfl rfl rfl (hts _ u2) (hts _ hlink) hyok ⟨by show d + 1 ≤ 2048; omega, by show 8 + (nL' + 11) + 100 * d ≤ 84000; omega⟩, hts _ hinst, hts _ hsel⟩ ⟨fun a U g mk q => by
    obtain ⟨q0, q1, qP, qK, qD, qN, qZ⟩ := q
    exact ⟨q0, q1, qP, va_K.moved (u := U) (U := U.calling g mk a) (Vm.Alike.refl U.vm) qK, qD, ri_N_same rfl qN, rc_Z_moved rfl rfl qZ⟩, va_recv hK hP (ci := ci) (q0 := 0) hci heb, fun U hU hW => ⟨rfl, by rw [hU], by rw [hU]; exact hP, va_K.moved hW.alike hK, hD.weaken (fun _ _ _ _ => trivial), ri_N_warm hW hN, rc_Z_call hZ hS' hFc' hU hW⟩⟩ rfl rfl hls rfl (lv_room hrest) hd ⟨by decide, by decide⟩) (fun v st₀ t0 Lf h0' hLf hQ => ?_)
  obtain ⟨⟨ws', ov, ev, m3, m5, m6, m7⟩, hF⟩ := hQ
  cases ev
  have hSn := ri_S_after hS hF h0' hFc hLf
  obtain ⟨f1, f2⟩ := hF
  rw [h0'] at f1 f2
  exact kk v ws' t0.heap _ m3 m5 m6 (m7.weaken (fun _ _ _ g => hFc _ g)) f2 hSn
theorem lw_kept {wsA wsB : va_W} {adA adB : List Nat} {H H1 : Heap} (hA : ri_ad wsA = adA) (hB : ri_ad wsB = adB) (hPB : va_P D vwCl wsB H) (hap : ∀ (i j q : Nat), adA[i]? = some q → adB[j]? = some q → False) (hk : ∀ q : Nat, q < H.size → ¬ va_A wsA H.size q → H1[q]? = H[q]?) : va_P D vwCl wsB H1 := hPB.kept (fun j v hv => hk v.1 ((hPB j v hv).lt) (fun g => by
  rcases g with ⟨k, e0, hk0⟩ | g
  · exact hap k j v.1 (by rw [← hA]; exact ri_ad_at hk0) (by rw [← hB]; exact ri_ad_at (e := v.2) hv)
  · have := (hPB j v hv).lt
    omega))
theorem xI_cell {w : va_W} {q : Nat} (h : xI κ adX w) (hq : adX[0]? = some q) : ∃ vs, w[0]? = some (q, .inr (11, vs)) := by
  obtain ⟨had, hH⟩ := h
  obtain ⟨q', e, kd, h1, h2, h3⟩ := hH 0 0 rfl
  have hk : ∃ o, rt_kd wX_K 0 0 = some (.inl o) ∧ o.1 = 11 := ⟨_, rfl, rfl⟩
  obtain ⟨o, ho, ho2⟩ := hk
  rw [ho] at h2
  cases h2
  obtain ⟨vs, rfl, -⟩ := h3.1
  have := ri_ad_at h1
  rw [had, hq] at this
  cases this
  rw [ho2] at h1
  exact ⟨vs, h1⟩
theorem wsc0 : ∀ n, n < 4 → rt_all1 (fun b => b) (mt_L (wK0 n) 0) = true
  | 0, _ => w00_sc
  | 1, _ => w01_sc
  | 2, _ => w02_sc
  | 3, _ => w03_sc
  | n + 4, h => by omega
theorem wsc1 : ∀ n, n < 4 → rt_all1 (fun b => b) (mt_L (wK1 n) 1) = true
  | 0, _ => w10_sc
  | 1, _ => w11_sc
  | 2, _ => w12_sc
  | 3, _ => w13_sc
  | n + 4, h => by omega
theorem mI_cell {w : va_W} {q : Nat} (h : mI κ adM w) (hq : adM[0]? = some q) : ∃ vs, w[0]? = some (q, .inr (12, vs)) := by
  obtain ⟨nb, nr, hnb, hnr, h⟩ := h
  have go : ∀ {KK : List (List rt_K)} {b : Nat}, rt_all1 (fun b => b) (mt_L KK b) = true → rt_gH KK 37 κ mK adM w → ri_ad w = adM → ∃ vs, w[0]? = some (q, .inr (12, vs)) := fun hL hH had => by
    obtain ⟨o, ho, ho2⟩ := mO12_ok (m_at1 hL (i := 16) rfl)
    obtain ⟨q', vs, c1, c2, -⟩ := m_cell0 hH had ho
    rw [hq] at c2
    cases c2
    rw [ho2] at c1
    exact ⟨vs, c1⟩
  rcases h with h | h
  · exact go (wsc0 nr hnr) h.2.2.1 h.1
  · exact go (wsc1 nr hnr) h.2.2.1 h.1
theorem mI_ad {w : va_W} (h : mI κ adM w) : ri_ad w = adM := by
  obtain ⟨nb, nr, hnb, hnr, h⟩ := h
  rcases h with h | h
  · exact h.1
  · exact h.1
end LW
