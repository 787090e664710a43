def ri_stk (τ : Nat → Int) (ad : List Nat) (cc : ByteArray) (ret : Option FieldType) (pc : Nat) (o : Option ri_V) (st : List Value) : Prop := match o with
  | some a => ∃ z : Int32, st = [.int z] ∧ ri_gV τ ad a (.int z) ∧ decode cc pc = .ok (.ireturn, 1) ∧ (ret = some .int ∨ (ret = some .boolean ∧ (z = 0 ∨ z = 1)))
  | none => st = [] ∧ decode cc pc = .ok (.return_, 1) ∧ ret = none
/-- from every state of the machine that stands at an end of the method -/
def ri_RetAt (p : Program) (l : Launch) (e : Env) (R : Room) (s : State) (m : MethodId) (args : Array Value) (below : List Frame) (meth : Method) (c : Code) (cc : ByteArray) (ret : Option FieldType) (n0 z0 : Nat) (τ : Nat → Int) (κ : Nat → ClassId) (D : va_G) (A : Nat → Prop) (H0 : Heap) (ad0 : List Nat) (Q : State → Prop) (q : Option ri_V × List ri_C × Nat × Nat) : Prop :=
  ∀ (ws : va_W) (H : Heap) (locs : List Loc) (cells slots pc : Nat) (ls : Array Slot) (st : List Value), ri_gH τ κ q.2.1 ws → va_P D vwCl ws H → va_D A ws → va_S A H0 H locs → ad0 <+: ri_ad ws → cells + n0 = q.2.2.1 → slots + z0 = q.2.2.2 → ri_stk τ (ri_ad ws) cc ret pc q.1 st → W p l e R s m args below meth c H locs cells slots Q (F0 m pc ls st)
def ri_tabOK (mT : List ri_MT) (mt : List ri_M) : Prop := ∀ (mi : Nat) (y : MethodName) (cc : ByteArray) (nL : Nat) (ret : Option FieldType), mT[mi]? = some (y, cc, nL, ret) → Cond.code y cc nL ret ∈ gU ∧ Cond.initialized y.cls ∈ gU ∧ plainName y.cls = true ∧ nL ≤ 60 ∧ (∃ q, mt[mi]? = some q ∧ q.2 = nL) ∧ ∀ (pc : Nat) (r : ri_R), ri_fetch mt mi pc = some r → r.1 = .nop ∨ ri_rowOK mT y cc nL ret pc r
def ri_Snd (E : ri_E) (τ : Nat → Int) (mT : List ri_MT) (mt : List ri_M) (stop : Nat × Nat) (n : Nat) : Prop := ∀ (d mi : Nat) (S : ri_S) (outs : List ri_O), ri_run E rD mt stop n d mi S = some outs → ∀ (p : Program) (l : Launch) (e : Env) (R : Room) (s : State) (m : MethodId) (args : Array Value) (below : List Frame) (meth : Method) (c : Code) (cc : ByteArray) (nL : Nat) (y : MethodName) (ret : Option FieldType) (n0 z0 : Nat) (κ : Nat → ClassId) (D : va_G) (A : Nat → Prop) (H0 : Heap) (ad0 : List Nat) (Q : State → Prop), mT[mi]? = some (y, cc, nL, ret) → p.tables.exec = Jvm.exec → c.code = cc → c.maxLocals = nL → s.vm.findClass y.cls = some m.cls → meth.name = y.name → (∀ w ∈ gU, w.before args s = true) → va_K D vwCl (ri_tys κ) s → ri_N s → (∀ q, H0.size ≤ q → A q) → d ≤ R.frames → 100 * d ≤ R.locals → (∀ o ∈ outs, ri_oN o ≤ n0 + R.cells ∧ ri_oZ o ≤ z0 + R.slots) → (∀ q, .inl q ∈ outs → ri_RetAt p l e R s m args below meth c cc ret n0 z0 τ κ D A H0 ad0 Q q) → (∀ S', .inr S' ∈ outs → ri_At p l e R s m args below meth c nL n0 z0 τ κ D A H0 ad0 Q S') → ri_At p l e R s m args below meth c nL n0 z0 τ κ D A H0 ad0 Q S
/-- values off the stack -/
def ri_rel (τ : Nat → Int) (ad : List Nat) (A : List (Option ri_V)) (V : List Value) : Prop := A.length = V.length ∧ (∀ (i : Nat) (x : ri_V), A[i]? = some (some x) → ∃ v, V[i]? = some v ∧ ri_gV τ ad x v) ∧ ∀ v ∈ V, v.category = 1
theorem ri_take_ok {τ : Nat → Int} {ad : List Nat} : ∀ (n : Nat) {st : List ri_V} {acc : List (Option ri_V)} {a : List (Option ri_V) × List ri_V} {vals accv : List Value}, ri_take n st acc = some a → ri_gS τ ad st vals → ri_rel τ ad acc accv → ∃ top rst, vals = top ++ rst ∧ top.length = n ∧ ri_gS τ ad a.2 rst ∧ ri_rel τ ad a.1 (top.reverse ++ accv)
  | 0, st, acc, a, vals, accv, h, hs, hr => by
    cases h
    exact ⟨[], vals, rfl, rfl, hs, hr⟩
  | n + 1, [], acc, a, vals, accv, h, hs, hr => by cases h
  | n + 1, v :: st, acc, a, vals, accv, h, hs, hr => by
    have h : cond (ri_isL v) none (ri_take n st (some v :: acc)) = some a := h
    obtain ⟨c1, h⟩ := ri_condN h
    obtain ⟨w, vals', rfl, gv, hs'⟩ := ri_gS_cons hs
    obtain ⟨r1, r2, r3⟩ := hr
    have hr' : ri_rel τ ad (some v :: acc) (w :: accv) := ⟨by simp [r1], fun i x hx => by
      cases i with
      | zero =>
        simp at hx
        subst hx
        exact ⟨w, rfl, gv⟩
      | succ i => simpa using r2 i x (by simpa using hx), fun u hu => by
      rcases List.mem_cons.mp hu with rfl | hu
      · exact ri_gV_cat gv c1
      · exact r3 u hu⟩
    obtain ⟨top, rst, e1, e2, e3, e4⟩ := ri_take_ok n h hs' hr'
    exact ⟨w :: top, rst, by rw [e1]; rfl, by simp [e2], e3, by simpa using e4⟩
theorem ri_pad_eq (n : Nat) (l : List (Option ri_V)) : ri_pad n l = l ++ List.replicate n none := by
  unfold ri_pad
  show List.append l _ = List.append l _
  congr 1
  induction n with
  | zero => rfl
  | succ n ih => exact congrArg (none :: ·) ih
theorem ri_pad_at {n i : Nat} {l : List (Option ri_V)} {x : ri_V} (h : (ri_pad n l)[i]? = some (some x)) : l[i]? = some (some x) := by
  rw [ri_pad_eq] at h
  rcases Nat.lt_or_ge i l.length with g | g
  · rw [List.getElem?_append_left g] at h
    exact h
  · rw [List.getElem?_append_right g, List.getElem?_replicate] at h
    split at h
    · cases h
    · cases h
/-- what a call leaves -/
def ri_Qc (τ : Nat → Int) (κ : Nat → ClassId) (D : va_G) (ws : va_W) (sz : Nat) (outs : List ri_O) : Array Value → State → Outcome → State → Prop := fun _ st oc t => (∃ (q : Option ri_V × List ri_C × Nat × Nat) (rv : List Value) (ws' : va_W) (ov : Option Value), .inl q ∈ outs ∧ oc = .returned ov ∧ ov.toList = rv ∧ ri_gH τ κ q.2.1 ws' ∧ ri_ad ws <+: ri_ad ws' ∧ va_P D vwCl ws' t.heap ∧ va_D (va_A ws sz) ws' ∧ (∀ st0 st1, ri_gS τ (ri_ad ws') st0 st1 → ri_gS τ (ri_ad ws') (ri_psh q.1 st0) (rv ++ st1))) ∧ va_F (va_A ws sz) st t
def ri_Pc (κ : Nat → ClassId) (D : va_G) (ws : va_W) (sz : Nat) (vs : List Value) : Array Value → State → Prop := va_Pc vs (fun U => U.heap.size = sz ∧ va_P D vwCl ws U.heap ∧ va_K D vwCl (ri_tys κ) U ∧ va_D (fun _ => True) ws ∧ ri_N U)
abbrev ri_rm (d mc ms : Nat) : Room := { frames := d, cells := mc, slots := ms, locals := 100 * d }
theorem ri_met {E : ri_E} {τ : Nat → Int} {mT : List ri_MT} {mt : List ri_M} {stop : Nat × Nat} {n : Nat} (htab : ri_tabOK mT mt) (IH : ri_Snd E τ mT mt stop n) {d mi N Z N1 Z1 : Nat} {A0 : List (Option ri_V)} {h0 : List ri_C} {outs : List ri_O} (h : ri_run E rD mt stop n d mi (0, A0, [], h0, N, Z) = some outs) {y : MethodName} {cc : ByteArray} {nL : Nat} {ret : Option FieldType} (hm : mT[mi]? = some (y, cc, nL, ret)) (hall : ∀ o ∈ outs, ∃ q, o = .inl q ∧ q.2.2.1 = N1 ∧ q.2.2.2 = Z1) (hN1 : N ≤ N1) (hZ1 : Z ≤ Z1) (l : Launch) {κ : Nat → ClassId} {D : va_G} {ws : va_W} {vs : List Value} (sz : Nat) (hH : ri_gH τ κ h0 ws) (hc : ∀ v ∈ vs, v.category = 1) (hl : vs.length ≤ nL) (hv : ∀ (i : Nat) (x : ri_V), A0[i]? = some (some x) → ∃ v, vs[i]? = some v ∧ ri_gV τ (ri_ad ws) x v) : Met l y (.code y cc nL ret :: gU) (ri_rm d (N1 - N) (Z1 - Z)) (ri_Pc κ D ws sz vs) (ri_Qc τ κ D ws sz outs) (N1 - N) (Z1 - Z) (va_A ws sz) := by
  obtain ⟨t1, t2, t3, t4, -, -⟩ := htab mi y cc nL ret hm
  refine Met.ofW (cc := cc) (maxL := nL) (ret := ret) t3 rfl ?_
  intro p e s m args below meth c s₁ B hml hv0
  obtain ⟨rfl, hsz, hP, hK, hD0, hN⟩ := hv0
  have hx := B.exec
  have hb := B.bytes
  have hr := B.returns
  have hts0 := atoms_spec (ws := .code y cc nL ret :: gU) B.pre
  have hts : ∀ w ∈ gU, w.before vs.toArray s = true := fun w hw => hts0 w (List.mem_cons_of_mem _ hw)
  have hown : s.vm.findClass y.cls = some m.cls := findClass_of_methodNamed B.named
  have hlocks := B.notSynchronized
  have hnm : meth.name = y.name := (name_of_methodNamed B.named B.method).1
  subst hsz
  rw [lg_entry_eq]
  refine IH d mi _ outs h p l e (ri_rm d (N1 - N) (Z1 - Z)) s m vs.toArray below meth c cc nL y ret N Z κ D (va_A ws s.heap.size) s.heap (ri_ad ws) _ hm hx hb hml hown hnm hts hK hN (fun q hq => Or.inr hq) (Nat.le_refl _) (Nat.le_refl _) (fun o ho => ?_) (fun q hq => ?_) (fun S' hS' => ?_) ws s.heap [] _ [] 0 0 hH hP (hD0.self) va_S.rf (ri_gL_entry hc hl hv) trivial (List.prefix_refl _) (Nat.zero_add _) (Nat.zero_add _)
  · obtain ⟨q, rfl, e1, e2⟩ := hall o ho
    show q.2.2.1 ≤ N + (N1 - N) ∧ q.2.2.2 ≤ Z + (Z1 - Z)
    omega
  · obtain ⟨q', e0, e1, e2⟩ := hall _ hq
    cases e0
    intro ws' H locs cells slots pc ls st gH gP gD gS gad gc gz gst
    have ec : cells = N1 - N := by omega
    have ez : slots = Z1 - Z := by omega
    subst ec
    subst ez
    obtain ⟨o, h1, N', Z'⟩ := q
    cases o with
    | none =>
      obtain ⟨rfl, hd, hret⟩ := gst
      rw [hret] at hr
      refine W.vret hx hb hr (fun t ht hW => ⟨⟨_, [], ws', none, hq, rfl, rfl, gH, gad, by rw [ht]; exact gP, gD, fun _ _ g => g⟩, gS.F ht⟩) gS.2.2 hd
    | some a =>
      obtain ⟨z, rfl, gz', hd, hret⟩ := gst
      have post : ∀ t : State, t.heap = H → s.WarmedH t.vm → ri_Qc τ κ D ws s.heap.size outs vs.toArray s (.returned (some (.int z))) t := fun t ht hW => ⟨⟨_, [.int z], ws', some (.int z), hq, rfl, rfl, gH, gad, by rw [ht]; exact gP, gD, fun _ _ g => ⟨gz', g⟩⟩, gS.F ht⟩
      rcases hret with hret | ⟨hret, hz⟩
      · rw [hret] at hr
        exact W.iret hx hb hr post gS.2.2 hd
      · rw [hret] at hr
        exact W.zret (ty := .boolean) hx hb hr (by rcases hz with rfl | rfl <;> decide +kernel) post gS.2.2 hd
  · obtain ⟨q, e0, -⟩ := hall _ hS'
    cases e0
