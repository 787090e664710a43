/-! Methods over lists: bodies, calls by contracts -/
def jLen : List Nat := [9, 151]
def jByt : List (List Int32) := [[59, 45, 40, 41, 60, 62, 61, 43, 42], [114, 111, 112, 101, 32, 115, 112, 101, 101, 100, 32, 108, 111, 110, 103, 32, 102, 114, 111, 109, 32, 116, 111, 32, 98, 101, 97, 114, 115, 32, 103, 114, 97, 100, 101, 32, 99, 97, 114, 32, 97, 116, 32, 119, 101, 105, 103, 104, 115, 32, 108, 101, 116, 32, 103, 114, 105, 112, 32, 115, 116, 111, 112, 32, 102, 111, 114, 32, 99, 97, 116, 99, 104, 32, 100, 114, 97, 103, 32, 98, 114, 97, 107, 101, 32, 115, 112, 108, 105, 99, 101, 32, 111, 110, 32, 108, 97, 115, 116, 115, 32, 116, 117, 114, 110, 32, 99, 114, 111, 115, 115, 32, 119, 104, 101, 110, 32, 111, 114, 32, 97, 110, 100, 32, 110, 111, 116, 32, 116, 105, 99, 107, 32, 97, 104, 101, 97, 100, 32, 98, 101, 104, 105, 110, 100, 32, 108, 111, 97, 100, 32]]
def jS0 : String := ";-()<>=+*"
def jS1 : String := "rope speed long from to bears grade car at weighs let grip stop for catch drag brake splice on lasts turn cross when or and not tick ahead behind load "
/-- what the JDK's formatter is: a reference or null -/
def rc_fv (D : va_G) : Value := if D.2 103 0 = 0 then .ref (D.2 102 0) else .null
theorem rc_fv_ok (D : va_G) : rc_fv D = .null ∨ ∃ q : Nat, rc_fv D = .ref q := by
  unfold rc_fv
  split
  · exact Or.inr ⟨_, rfl⟩
  · exact Or.inl rfl
/-- the two String constants, and statics that the JDK's own methods read -/
def rc_Z (D : va_G) (ws : va_W) (U : State) : Prop := vk_S 2 jLen jByt (D.2 100) (D.2 101) (va_A ws U.heap.size) U U.heap ∧ vk_R RX4 67 jS0 (D.2 100 0) U ∧ vk_R RX4 77 jS1 (D.2 100 1) U ∧ va_Z "java/lang/String" "COMPACT_STRINGS" "Z" (.int 1) (va_A ws U.heap.size) U U.heap ∧ va_Z "jdk/internal/util/Preconditions" "SIOOBE_FORMATTER" "Ljava/util/function/BiFunction;" (rc_fv D) (va_A ws U.heap.size) U U.heap
theorem rc_Z_moved {D : va_G} {ws : va_W} {u U : State} (hh : U.heap = u.heap) (hvm : U.vm = u.vm) (h : rc_Z D ws u) : rc_Z D ws U := by
  obtain ⟨h1, h2, h3, h4, h5⟩ := h
  have ha : u.vm.Alike U.vm := by rw [hvm]; exact Vm.Alike.refl _
  refine ⟨?_, h2.same hvm, h3.same hvm, ?_, ?_⟩
  · rw [hh]; exact h1.moved ha
  · rw [hh]; exact h4.moved ha
  · rw [hh]; exact h5.moved ha
/-- at a call -/
theorem rc_Z_call {D : va_G} {ws ws' : va_W} {s U : State} {H : Heap} {locs : List Loc} (h : rc_Z D ws s) (hS : va_S (va_A ws s.heap.size) s.heap H locs) (hF : ∀ x, va_A ws' H.size x → va_A ws s.heap.size x) (hU : U.heap = H) (hW : s.WarmedH U.vm) : rc_Z D ws' U := by
  obtain ⟨h1, h2, h3, h4, h5⟩ := h
  subst hU
  have hk : ∀ a : Nat, a < s.heap.size → ¬ va_A ws s.heap.size a → U.heap[a]? = s.heap[a]? := fun a ha hn => hS.2.1 a ha hn
  exact ⟨((h1.kept hk).narrow hF).moved hW.alike, h2.warm hW, h3.warm hW, ((h4.kept hk).narrow hF).moved hW.alike, ((h5.kept hk).narrow hF).moved hW.alike⟩
def rc_Pc (κ : Nat → ClassId) (D : va_G) (ws : va_W) (sz : Nat) (vs : List Value) : Array Value → State → Prop := va_Pc vs (fun U => U.heap.size = sz ∧ va_P D vwCl ws U.heap ∧ va_K D vwCl (ri_tys κ) U ∧ va_D (fun _ => True) ws ∧ ri_N U ∧ rc_Z D ws U)
/-- what holds in a method's body -/
def rc_Bd (p : Program) (s : State) (m : MethodId) (args : Array Value) (meth : Method) (c : Code) (y : MethodName) (cc : ByteArray) (nL : Nat) (ret : Option FieldType) (κ : Nat → ClassId) (D : va_G) (ws : va_W) : Prop := p.tables.exec = Jvm.exec ∧ c.code = cc ∧ c.maxLocals = nL ∧ s.vm.findClass y.cls = some m.cls ∧ meth.name = y.name ∧ (∀ w ∈ gU, w.before args s = true) ∧ va_K D vwCl (ri_tys κ) s ∧ ri_N s ∧ meth.sig.returnType = ret ∧ meth.locks = false ∧ rc_Z D ws s
/-- what a method leaves -/
def rc_Q (D : va_G) (ws : va_W) (sz : Nat) (Qv : Option Value → va_W → Prop) : Array Value → State → Outcome → State → Prop := fun _ st oc t => (∃ (ws' : va_W) (ov : Option Value), oc = .returned ov ∧ Qv ov ws' ∧ ri_ad ws' = ri_ad ws ∧ va_P D vwCl ws' t.heap ∧ va_D (va_A ws sz) ws') ∧ va_F (va_A ws sz) st t
/-- a contract of a method of the table -/
def rc_Met (l : Launch) (κ : Nat → ClassId) (D : va_G) (d mi : Nat) (P : List Value → va_W → Prop) (Qv : List Value → va_W → Option Value → va_W → Prop) : Prop := ∀ (y : MethodName) (cc : ByteArray) (nL : Nat) (ret : Option FieldType), mT[mi]? = some (y, cc, nL, ret) → ∀ (ws : va_W) (sz : Nat) (vs : List Value), P vs ws → Met l y (.code y cc nL ret :: gU) (ri_rm d 0 0) (rc_Pc κ D ws sz vs) (rc_Q D ws sz (Qv vs ws)) 0 0 (va_A ws sz)
/-- in this body -/
abbrev rc_AB (p : Program) (l : Launch) (e : Env) (s : State) (m : MethodId) (args : Array Value) (below : List Frame) (meth : Method) (c : Code) (nL : Nat) (D : va_G) (ws : va_W) (Q : State → Prop) (d : Nat) (a : rc_C) : Prop := rc_At p l e (ri_rm d 0 0) s m args below meth c nL D (va_A ws s.heap.size) s.heap Q a
section RC54
variable {p : Program} {l : Launch} {e : Env} {s : State} {m : MethodId} {args : Array Value} {below : List Frame} {meth : Method} {c : Code} {y : MethodName} {cc : ByteArray} {nL : Nat} {ret : Option FieldType} {κ : Nat → ClassId} {D : va_G} {ws : va_W} {Q : State → Prop} {d mi : Nat}
theorem rc_call (B : rc_Bd p s m args meth c y cc nL ret κ D ws) {d1 j ci mj np : Nat} {a : rc_C} {P : List Value → va_W → Prop} {Qv : List Value → va_W → Option Value → va_W → Prop} (hd1 : d1 + 1 ≤ d) (hrow : ri_rowOK mT y cc nL ret a.1 (.invokevirtual j, 3, ci + 4, mj, ((np + 1 : Nat) : Int))) {qb kb : Nat} {As rst vb : List Value} (hst : a.2.2.1 = As.reverse ++ .ref qb :: rst) (hAl : As.length = np) (h4 : rst.length ≤ 4) (hob : a.2.2.2[kb]? = some (qb, .inr (ci, vb))) (met : rc_Met l κ D d1 mj P Qv) (hpre : P (.ref qb :: As) a.2.2.2) (kk : ∀ (ov : Option Value) (ws' : va_W), Qv (.ref qb :: As) a.2.2.2 ov ws' → ri_ad ws' = ri_ad a.2.2.2 → rc_AB p l e s m args below meth c nL D ws Q d (a.1 + 3, a.2.1, ov.toList ++ rst, ws')) : rc_AB p l e s m args below meth c nL D ws Q d a := by
  obtain ⟨hx, hb, hml, hown, hnm, hts, hK, hN, -, -, hZ⟩ := B
  obtain ⟨hd, ho⟩ := hrow
  intro H locs ls hP hD hS hL
  have hcat := ri_cats rst
  have hFc : ∀ x, va_A a.2.2.2 H.size x → va_A ws s.heap.size x := fun x hx0 => by
    rcases hx0 with ⟨k, e0, hk⟩ | hx0
    · exact hD.2 k _ hk
    · exact Or.inr (Nat.le_trans hS.1 hx0)
  obtain ⟨e3, yy, cc', nL', ret', ci', T, N, n', y1, y2, y3, y4, y5, y6, y7, y8, y9⟩ := ho
  have y2 : ci + 4 = ci' + 4 := y2
  have y2 : ci' = ci := by omega
  subst y2
  have y8 : ((np + 1 : Nat) : Int) = ((n' + 1 : Nat) : Int) := y8
  have y8 : n' = np := by omega
  subst y8
  obtain ⟨u1, u2, -, u4, -, -⟩ := tab_all _ yy cc' nL' ret' y1
  obtain ⟨lv, l1, l2⟩ := id hL
  have hgW : 2 * (F0 m a.1 ls a.2.2.1).monitorRoom + (rst.map fun v => v.category).sum ≤ 8 := lv_room (by omega)
  refine ri_callR (va_runV (Ts := gU) (C := yy.cls) (b := qb) (As := As) (rest := rst) (n := n') ⟨hx, hb, hml, hown, hts⟩ (met yy cc' nL' ret' y1 a.2.2.2 H.size (.ref qb :: As) hpre) ⟨callB_of n' hts (gU_in u1 gU (fun _ g => g)) rfl rfl rfl (hts _ u2) (hts _ y4) y7 ⟨hd1, by show 8 + (nL' + 11) + 100 * d1 ≤ 100 * d; omega⟩, hts _ y5, hts _ y6⟩ ⟨fun a U g mk q => by
    obtain ⟨q0, q1, qP, qK, qD, qN, qZ⟩ := q
    exact ⟨q0, q1, qP, va_K.moved (u := U) (U := U.calling g mk a) (Vm.Alike.refl U.vm) qK, qD, ri_N_same rfl qN, rc_Z_moved rfl rfl qZ⟩, va_recv hK hP (ci := ci') (q0 := kb) y3 hob, fun U hU hW => ⟨rfl, by rw [hU], by rw [hU]; exact hP, va_K.moved hW.alike hK, hD.weaken (fun _ _ _ _ => trivial), ri_N_warm hW hN, rc_Z_call hZ hS hFc hU hW⟩⟩ rfl hAl l1.1 hst hgW hd ⟨Nat.le_refl _, Nat.le_refl _⟩) (fun v st₀ t0 L h0 hLf hQ => ?_)
  obtain ⟨⟨ws', ov, ev, m3, m5, m6, m7⟩, m9⟩ := hQ
  cases ev
  exact kk v ws' m3 m5 t0.heap (locs ++ L) ls m6 (m7.weaken (fun _ _ _ g => hFc _ g)) (ri_S_after hS m9 h0 hFc hLf) hL
/-- the locals at a method's entry; a long takes two places -/
def rc_en (vs : List Value) : List (Option Value) := vs.flatMap fun v => if v.category = 2 then [some v, none] else [some v]
theorem rc_en_len (vs : List Value) : (lg_sl vs).length = (rc_en vs).length := by
  induction vs with
  | nil => rfl
  | cons w vs ih =>
    unfold lg_sl rc_en at ih ⊢
    rw [List.flatMap_cons, List.flatMap_cons, List.length_append, List.length_append, ih]
    by_cases hw : w.category = 2
    · simp [hw]
    · simp [hw]
theorem rc_en_mem : ∀ (vs : List Value) (k i : Nat) (v : Value), (rc_en vs)[i]? = some (some v) → (k + i, v) ∈ lv_args k vs
  | [], _, i, v, h => by cases h
  | w :: vs, k, i, v, h => by
    have e : lv_args k (w :: vs) = (k, w) :: lv_args (if w.category = 2 then k + 2 else k + 1) vs := rfl
    have e2 : rc_en (w :: vs) = (if w.category = 2 then [some w, none] else [some w]) ++ rc_en vs := rfl
    rw [e]
    rw [e2] at h
    by_cases hw : w.category = 2
    · rw [if_pos hw] at h ⊢
      match i, h with
      | 0, h =>
        have h : some (some w) = some (some v) := h
        cases h
        exact List.mem_cons_self
      | 1, h =>
        have h : some none = some (some v) := h
        cases h
      | i + 2, h =>
        have := rc_en_mem vs (k + 2) i v h
        rw [show k + (i + 2) = k + 2 + i by omega]
        exact List.mem_cons_of_mem _ this
    · rw [if_neg hw] at h ⊢
      match i, h with
      | 0, h =>
        have h : some (some w) = some (some v) := h
        cases h
        exact List.mem_cons_self
      | i + 1, h =>
        have := rc_en_mem vs (k + 1) i v h
        rw [show k + (i + 1) = k + 1 + i by omega]
        exact List.mem_cons_of_mem _ this
/-- a contract out of a body; ghosts may be set at the entry -/
theorem rc_body {P : List Value → va_W → Prop} {Qv : List Value → va_W → Option Value → va_W → Prop} (Av : List Value → va_W → List (Option Value)) (hA : ∀ vs ws, P vs ws → ∀ (i : Nat) (v : Value), i < 20 → (Av vs ws)[i]? = some (some v) → (rc_en vs)[i]? = some (some v)) (hl : ∀ (y : MethodName) (cc : ByteArray) (nL : Nat) (ret : Option FieldType), mT[mi]? = some (y, cc, nL, ret) → ∀ vs ws, P vs ws → (rc_en vs).length ≤ nL) (body : ∀ (y : MethodName) (cc : ByteArray) (nL : Nat) (ret : Option FieldType), mT[mi]? = some (y, cc, nL, ret) → ∀ (ws : va_W) (vs : List Value), P vs ws → ∀ (p : Program) (e : Env) (s : State) (m : MethodId) (below : List Frame) (meth : Method) (c : Code), rc_Bd p s m vs.toArray meth c y cc nL ret κ D ws → rc_AB p l e s m vs.toArray below meth c nL D ws (MQ below (rc_Q D ws s.heap.size (Qv vs ws)) vs.toArray s 0 0 (va_A ws s.heap.size)) d (0, Av vs ws, [], ws)) : rc_Met l κ D d mi P Qv := by
  intro y cc nL ret hm ws sz vs hpre
  obtain ⟨t1, t2, t3, t4, -, -⟩ := tab_all mi y cc nL ret hm
  refine Met.ofW (cc := cc) (maxL := nL) (ret := ret) t3 rfl ?_
  intro p e s m args below meth c s₁ B hml hv0
  obtain ⟨rfl, hsz, hP, hK, hD0, hN, hZ⟩ := hv0
  have hts0 := atoms_spec (ws := .code y cc nL ret :: gU) B.pre
  have hBd : rc_Bd p s m vs.toArray meth c y cc nL ret κ D ws := ⟨B.exec, B.bytes, hml, findClass_of_methodNamed B.named, (name_of_methodNamed B.named B.method).1, fun w hw => hts0 w (List.mem_cons_of_mem _ hw), hK, hN, B.returns, B.notSynchronized, hZ⟩
  subst hsz
  rw [lg_entry_eq]
  refine body y cc nL ret hm ws vs hpre p e s m below meth c hBd s.heap [] _ hP hD0.self va_S.rf ?_
  refine ⟨_, lv_entry vs (by rw [rc_en_len]; exact hl y cc nL ret hm vs ws hpre), fun i v hi hv => ?_⟩
  have := rc_en_mem vs 0 i v (hA vs ws hpre i v hi hv)
  rw [Nat.zero_add] at this
  exact this
/-- an end without an answer -/
theorem rc_retv (B : rc_Bd p s m args meth c y cc nL none κ D ws) {Qv : Option Value → va_W → Prop} {a : rc_C} (hd : decode cc a.1 = .ok (.return_, 1)) (hst : a.2.2.1 = []) (had : ri_ad a.2.2.2 = ri_ad ws) (hQ : Qv none a.2.2.2) : rc_AB p l e s m args below meth c nL D ws (MQ below (rc_Q D ws s.heap.size Qv) args s 0 0 (va_A ws s.heap.size)) d a := by
  obtain ⟨hx, hb, hml, hown, hnm, hts, hK, hN, hr, hlocks, -⟩ := B
  intro H locs ls hP hD hS hL
  rw [hst]
  exact W.vret hx hb hr (fun t ht hW => ⟨⟨a.2.2.2, none, rfl, hQ, had, by rw [ht]; exact hP, hD⟩, hS.F ht⟩) hS.2.2 hd
/-- an end with an int -/
theorem rc_reti (B : rc_Bd p s m args meth c y cc nL (some .int) κ D ws) {Qv : Option Value → va_W → Prop} {a : rc_C} {z : Int32} (hd : decode cc a.1 = .ok (.ireturn, 1)) (hst : a.2.2.1 = [.int z]) (had : ri_ad a.2.2.2 = ri_ad ws) (hQ : Qv (some (.int z)) a.2.2.2) : rc_AB p l e s m args below meth c nL D ws (MQ below (rc_Q D ws s.heap.size Qv) args s 0 0 (va_A ws s.heap.size)) d a := by
  obtain ⟨hx, hb, hml, hown, hnm, hts, hK, hN, hr, hlocks, -⟩ := B
  intro H locs ls hP hD hS hL
  rw [hst]
  exact W.iret hx hb hr (fun t ht hW => ⟨⟨a.2.2.2, some (.int z), rfl, hQ, had, by rw [ht]; exact hP, hD⟩, hS.F ht⟩) hS.2.2 hd
/-- an end with a boolean -/
theorem rc_retz (B : rc_Bd p s m args meth c y cc nL (some .boolean) κ D ws) {Qv : Option Value → va_W → Prop} {a : rc_C} {z : Int32} (hz : z = 0 ∨ z = 1) (hd : decode cc a.1 = .ok (.ireturn, 1)) (hst : a.2.2.1 = [.int z]) (had : ri_ad a.2.2.2 = ri_ad ws) (hQ : Qv (some (.int z)) a.2.2.2) : rc_AB p l e s m args below meth c nL D ws (MQ below (rc_Q D ws s.heap.size Qv) args s 0 0 (va_A ws s.heap.size)) d a := by
  obtain ⟨hx, hb, hml, hown, hnm, hts, hK, hN, hr, hlocks, -⟩ := B
  intro H locs ls hP hD hS hL
  rw [hst]
  exact W.zret (ty := .boolean) hx hb hr (by rcases hz with rfl | rfl <;> decide +kernel) (fun t ht hW => ⟨⟨a.2.2.2, some (.int z), rfl, hQ, had, by rw [ht]; exact hP, hD⟩, hS.F ht⟩) hS.2.2 hd
/-- an end with a long -/
theorem rc_retl (B : rc_Bd p s m args meth c y cc nL (some .long) κ D ws) {Qv : Option Value → va_W → Prop} {a : rc_C} {z : Int64} (hd : decode cc a.1 = .ok (.lreturn, 1)) (hst : a.2.2.1 = [.long z]) (had : ri_ad a.2.2.2 = ri_ad ws) (hQ : Qv (some (.long z)) a.2.2.2) : rc_AB p l e s m args below meth c nL D ws (MQ below (rc_Q D ws s.heap.size Qv) args s 0 0 (va_A ws s.heap.size)) d a := by
  obtain ⟨hx, hb, hml, hown, hnm, hts, hK, hN, hr, hlocks, -⟩ := B
  intro H locs ls hP hD hS hL
  rw [hst]
  exact W.lret hx hb hr (fun t ht hW => ⟨⟨a.2.2.2, some (.long z), rfl, hQ, had, by rw [ht]; exact hP, hD⟩, hS.F ht⟩) hS.2.2 hd
/-- a call of a static method by a contract -/
theorem rc_callS (B : rc_Bd p s m args meth c y cc nL ret κ D ws) {d1 j mj a0 : Nat} {v0 : Int} {a : rc_C} {P : List Value → va_W → Prop} {Qv : List Value → va_W → Option Value → va_W → Prop} (hd1 : d1 + 1 ≤ d) (h2 : ¬ a0 = 2) (hrow : ri_rowOK mT y cc nL ret a.1 (.invokestatic j, 3, a0, mj, v0)) {As rst : List Value} (hst : a.2.2.1 = As.reverse ++ rst) (hAl : (As.length : Int) = v0) (h4 : rst.length ≤ 4) (met : rc_Met l κ D d1 mj P Qv) (hpre : P As a.2.2.2) (kk : ∀ (ov : Option Value) (ws' : va_W), Qv As a.2.2.2 ov ws' → ri_ad ws' = ri_ad a.2.2.2 → rc_AB p l e s m args below meth c nL D ws Q d (a.1 + 3, a.2.1, ov.toList ++ rst, ws')) : rc_AB p l e s m args below meth c nL D ws Q d a := by
  obtain ⟨hx, hb, hml, hown, hnm, hts, hK, hN, -, -, hZ⟩ := B
  obtain ⟨hd, ho⟩ := hrow
  intro H locs ls hP hD hS hL
  have hcat := ri_cats rst
  have hFc : ∀ x, va_A a.2.2.2 H.size x → va_A ws s.heap.size x := fun x hx0 => by
    rcases hx0 with ⟨k, e0, hk⟩ | hx0
    · exact hD.2 k _ hk
    · exact Or.inr (Nat.le_trans hS.1 hx0)
  obtain ⟨e3, ho⟩ := ho
  rcases ho with ⟨e0, -⟩ | ⟨e0, yy, cc', nL', ret', np, y1, y4, y5, y7, y8, y9⟩
  · exact absurd e0 h2
  · have y8 : v0 = (np : Int) := y8
    have hAl : As.length = np := by omega
    obtain ⟨u1, u2, -, u4, -, -⟩ := tab_all _ yy cc' nL' ret' y1
    obtain ⟨lv, l1, l2⟩ := id hL
    have hgW : 2 * (F0 m a.1 ls a.2.2.1).monitorRoom + (rst.map fun v => v.category).sum ≤ 8 := lv_room (by omega)
    refine ri_callR (va_runS (Ts := gU) (As := As) (rest := rst) (n := np) ⟨hx, hb, hml, hown, hts⟩ (met yy cc' nL' ret' y1 a.2.2.2 H.size As hpre) ⟨callB_of np hts (gU_in u1 gU (fun _ g => g)) rfl rfl rfl (hts _ u2) (hts _ y4) y7 ⟨hd1, by show 8 + (nL' + 11) + 100 * d1 ≤ 100 * d; omega⟩, hts _ y5⟩ ⟨fun a U g mk q => by
      obtain ⟨q0, q1, qP, qK, qD, qN, qZ⟩ := q
      exact ⟨q0, q1, qP, va_K.moved (u := U) (U := U.calling g mk a) (Vm.Alike.refl U.vm) qK, qD, ri_N_same rfl qN, rc_Z_moved rfl rfl qZ⟩, fun U hU hW => ⟨rfl, by rw [hU], by rw [hU]; exact hP, va_K.moved hW.alike hK, hD.weaken (fun _ _ _ _ => trivial), ri_N_warm hW hN, rc_Z_call hZ hS hFc hU hW⟩⟩ rfl hAl l1.1 hst hgW hd ⟨Nat.le_refl _, Nat.le_refl _⟩) (fun v st₀ t0 L h0 hLf hQ => ?_)
    obtain ⟨⟨ws', ov, ev, m3, m5, m6, m7⟩, m9⟩ := hQ
    cases ev
    exact kk v ws' m3 m5 t0.heap (locs ++ L) ls m6 (m7.weaken (fun _ _ _ g => hFc _ g)) (ri_S_after hS m9 h0 hFc hLf) hL
end RC54
