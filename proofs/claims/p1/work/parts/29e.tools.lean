/-! Methods whose loops or calls are put together by hand -/
/-- pairs of intervals that may stand one for the other -/
noncomputable def ri_fl (L : List (ri_I × ri_I)) (x y : ri_I) : Bool := cond (ri_f0 x y) true (List.rec (motive := fun _ => Bool) false (fun q _ ih => cond (ri_ieq x q.1) (cond (ri_ieq q.2 y) true ih) ih) L)
theorem ri_fl_ok {L : List (ri_I × ri_I)} {τ τ' : Nat → Int} (h : ∀ q ∈ L, ∀ v, ri_gI τ q.1 v → ri_gI τ' q.2 v) : ∀ x y, ri_fl L x y = true → ∀ v, ri_gI τ x v → ri_gI τ' y v := by
  intro x y hxy v hv
  unfold ri_fl at hxy
  cases c0 : ri_f0 x y with
  | true => exact ri_f0_ok x y c0 v hv
  | false =>
    rw [c0, cond_false] at hxy
    induction L with
    | nil => cases hxy
    | cons q t ih =>
      have hxy : cond (ri_ieq x q.1) (cond (ri_ieq q.2 y) true (List.rec (motive := fun _ => Bool) false (fun q _ ih => cond (ri_ieq x q.1) (cond (ri_ieq q.2 y) true ih) ih) t)) (List.rec (motive := fun _ => Bool) false (fun q _ ih => cond (ri_ieq x q.1) (cond (ri_ieq q.2 y) true ih) ih) t) = true := hxy
      have tl := ih (fun q hq => h q (List.mem_cons_of_mem _ hq))
      cases c1 : ri_ieq x q.1 with
      | false => rw [c1] at hxy; exact tl hxy
      | true =>
        cases c2 : ri_ieq q.2 y with
        | false => rw [c1, c2] at hxy; exact tl hxy
        | true => exact ri_ieq_ok c2 (h q List.mem_cons_self v (ri_ieq_ok c1 hv))
/-- what a method leaves: an int or no answer, the cells behind it -/
def ri_Qo (τ' : Nat → Int) (κ : Nat → ClassId) (D : va_G) (ws : va_W) (sz : Nat) (o : Option ri_I) (h : List ri_C) : Array Value → State → Outcome → State → Prop := fun _ st oc t => (∃ (ws' : va_W) (ov : Option Value), oc = .returned ov ∧ (match o with
  | none => ov = none
  | some x => ∃ w : Int32, ov = some (.int w) ∧ ri_gI τ' x w) ∧ ri_gH τ' κ h ws' ∧ ri_ad ws <+: ri_ad ws' ∧ va_P D vwCl ws' t.heap ∧ va_D (va_A ws sz) ws') ∧ va_F (va_A ws sz) st t
def ri_ps (o : Option ri_I) (st : List ri_V) : List ri_V := match o with
  | none => st
  | some x => .inl x :: st
/-- what holds in a method's body -/
def ri_Bd (p : Program) (s : State) (m : MethodId) (args : Array Value) (meth : Method) (c : Code) (y : MethodName) (cc : ByteArray) (nL : Nat) (ret : Option FieldType) (κ : Nat → ClassId) (D : va_G) : Prop := p.tables.exec = Jvm.exec ∧ c.code = cc ∧ c.maxLocals = nL ∧ s.vm.findClass y.cls = some m.cls ∧ meth.name = y.name ∧ (∀ w ∈ gU, w.before args s = true) ∧ va_K D vwCl (ri_tys κ) s ∧ ri_N s ∧ meth.sig.returnType = ret ∧ meth.locks = false
section RI33
variable {p : Program} {l : Launch} {e : Env} {s : State} {m : MethodId} {args : Array Value} {below : List Frame} {meth : Method} {c : Code} {y : MethodName} {cc : ByteArray} {nL : Nat} {ret : Option FieldType} {κ : Nat → ClassId} {D : va_G} {ws : va_W} {Q : State → Prop} {τ τ' : Nat → Int} {d mi : Nat}
/-- the state of the interpreter, in this body -/
abbrev ri_AB (p : Program) (l : Launch) (e : Env) (s : State) (m : MethodId) (args : Array Value) (below : List Frame) (meth : Method) (c : Code) (nL : Nat) (κ : Nat → ClassId) (D : va_G) (ws : va_W) (Q : State → Prop) (d : Nat) (τ : Nat → Int) (S : ri_S) : Prop := ri_At p l e (ri_rm d 0 0) s m args below meth c nL 0 0 τ κ D (va_A ws s.heap.size) s.heap (ri_ad ws) Q S
theorem ri_seg (hm : mT[mi]? = some (y, cc, nL, ret)) (B : ri_Bd p s m args meth c y cc nL ret κ D) {E : ri_E} (hE : ri_okE E τ) {stop : Nat × Nat} {n : Nat} {S : ri_S} {outs : List ri_O} (h : ri_run E rD mt stop n d mi S = some outs) (hz : ∀ o ∈ outs, ri_oN o = 0 ∧ ri_oZ o = 0) (hr : ∀ q, .inl q ∈ outs → ri_RetAt p l e (ri_rm d 0 0) s m args below meth c cc ret 0 0 τ κ D (va_A ws s.heap.size) s.heap (ri_ad ws) Q q) (hs : ∀ S', .inr S' ∈ outs → ri_AB p l e s m args below meth c nL κ D ws Q d τ S') : ri_AB p l e s m args below meth c nL κ D ws Q d τ S := by
  obtain ⟨hx, hb, hml, hown, hnm, hts, hK, hN, -, -⟩ := B
  exact ri_sound co_all ao_all tab_all hE n d mi S outs h p l e (ri_rm d 0 0) s m args below meth c cc nL y ret 0 0 κ D _ s.heap (ri_ad ws) Q hm hx hb hml hown hnm hts hK hN (fun q hq => Or.inr hq) (Nat.le_refl _) (Nat.le_refl _) (fun o ho => by
    obtain ⟨h1, h2⟩ := hz o ho
    rw [h1, h2]
    exact ⟨Nat.zero_le _, Nat.zero_le _⟩) hr hs
/-- a contract out of the body -/
theorem ri_body_met (hm : mT[mi]? = some (y, cc, nL, ret)) (l : Launch) {vs : List Value} (sz : Nat) {A0 : List (Option ri_V)} {h0 : List ri_C} {Qc : Nat → Array Value → State → Outcome → State → Prop} (hH : ri_gH τ κ h0 ws) (hc : ∀ v ∈ vs, v.category = 1) (hl : vs.length ≤ nL) (hv : ∀ (i : Nat) (x : ri_V), A0[i]? = some (some x) → ∃ v, vs[i]? = some v ∧ ri_gV τ (ri_ad ws) x v) (body : ∀ (p : Program) (e : Env) (s : State) (m : MethodId) (below : List Frame) (meth : Method) (c : Code), ri_Bd p s m vs.toArray meth c y cc nL ret κ D → ri_AB p l e s m vs.toArray below meth c nL κ D ws (MQ below (Qc s.heap.size) vs.toArray s 0 0 (va_A ws s.heap.size)) d τ (0, A0, [], h0, 0, 0)) : Met l y (.code y cc nL ret :: gU) (ri_rm d 0 0) (ri_Pc κ D ws sz vs) (Qc sz) 0 0 (va_A ws sz) := by
  obtain ⟨t1, t2, t3, t4, -, -⟩ := tab_all mi y cc nL ret hm
  refine Met.ofW (cc := cc) (maxL := nL) (ret := ret) t3 rfl ?_
  intro p e s m args below meth c s₁ B hml hv0
  obtain ⟨rfl, hsz, hP, hK, hD0, hN⟩ := hv0
  have hts0 := atoms_spec (ws := .code y cc nL ret :: gU) B.pre
  have hBd : ri_Bd p s m vs.toArray meth c y cc nL ret κ D := ⟨B.exec, B.bytes, hml, findClass_of_methodNamed B.named, (name_of_methodNamed B.named B.method).1, fun w hw => hts0 w (List.mem_cons_of_mem _ hw), hK, hN, B.returns, B.notSynchronized⟩
  subst hsz
  rw [lg_entry_eq]
  exact body p e s m below meth c hBd ws s.heap [] _ [] 0 0 hH hP hD0.self va_S.rf (ri_gL_entry hc hl hv) trivial (List.prefix_refl _) rfl rfl
/-- an end without an answer -/
theorem ri_retv_at (B : ri_Bd p s m args meth c y cc nL none κ D) {f : ri_I → ri_I → Bool} (hf : ∀ x y, f x y = true → ∀ v, ri_gI τ x v → ri_gI τ' y v) {hq h : List ri_C} (hl : ri_lall (ri_fC f) hq h = true) : ri_RetAt p l e (ri_rm d 0 0) s m args below meth c cc none 0 0 τ κ D (va_A ws s.heap.size) s.heap (ri_ad ws) (MQ below (ri_Qo τ' κ D ws s.heap.size none h) args s 0 0 (va_A ws s.heap.size)) (none, hq, 0, 0) := by
  obtain ⟨hx, hb, hml, hown, hnm, hts, hK, hN, hr, hlocks⟩ := B
  intro ws' H locs cells slots pc ls st gH gP gD gS gad gc gz gst
  have ec : cells = 0 := by
    have gc : cells + 0 = 0 := gc
    omega
  have ez : slots = 0 := by
    have gz : slots + 0 = 0 := gz
    omega
  subst ec
  subst ez
  obtain ⟨rfl, hd, -⟩ := gst
  exact W.vret hx hb hr (fun t ht hW => ⟨⟨ws', none, rfl, rfl, ri_fH_ok hf hl gH, gad, by rw [ht]; exact gP, gD⟩, gS.F ht⟩) gS.2.2 hd
/-- an end with an answer -/
theorem ri_reti_at (B : ri_Bd p s m args meth c y cc nL (some .int) κ D) {z : Int32} {x : ri_I} {hq : List ri_C} (hz : ∀ w, ri_gI τ x w → w = z) : ri_RetAt p l e (ri_rm d 0 0) s m args below meth c cc (some .int) 0 0 τ κ D (va_A ws s.heap.size) s.heap (ri_ad ws) (MQ below (ri_Qz ws s.heap.size z) args s 0 0 (va_A ws s.heap.size)) (some (.inl x), hq, 0, 0) := by
  obtain ⟨hx, hb, hml, hown, hnm, hts, hK, hN, hr, hlocks⟩ := B
  intro ws' H locs cells slots pc ls st gH gP gD gS gad gc gz gst
  have ec : cells = 0 := by
    have gc : cells + 0 = 0 := gc
    omega
  have ez : slots = 0 := by
    have gz : slots + 0 = 0 := gz
    omega
  subst ec
  subst ez
  obtain ⟨w, rfl, ⟨w', ew, gw⟩, hd, -⟩ := gst
  cases ew
  have e0 := hz w gw
  subst e0
  exact W.iret hx hb hr (fun t ht hW => ⟨rfl, gS.F ht⟩) gS.2.2 hd
/-- an end with an answer, and the cells -/
theorem ri_reto_at (B : ri_Bd p s m args meth c y cc nL (some .int) κ D) {f : ri_I → ri_I → Bool} (hf : ∀ x y, f x y = true → ∀ v, ri_gI τ x v → ri_gI τ' y v) {x x' : ri_I} (hxx : f x x' = true) {hq h : List ri_C} (hl : ri_lall (ri_fC f) hq h = true) : ri_RetAt p l e (ri_rm d 0 0) s m args below meth c cc (some .int) 0 0 τ κ D (va_A ws s.heap.size) s.heap (ri_ad ws) (MQ below (ri_Qo τ' κ D ws s.heap.size (some x') h) args s 0 0 (va_A ws s.heap.size)) (some (.inl x), hq, 0, 0) := by
  obtain ⟨hx, hb, hml, hown, hnm, hts, hK, hN, hr, hlocks⟩ := B
  intro ws' H locs cells slots pc ls st gH gP gD gS gad gc gz gst
  have ec : cells = 0 := by
    have gc : cells + 0 = 0 := gc
    omega
  have ez : slots = 0 := by
    have gz : slots + 0 = 0 := gz
    omega
  subst ec
  subst ez
  obtain ⟨w, rfl, ⟨w', ew, gw⟩, hd, -⟩ := gst
  cases ew
  exact W.iret hx hb hr (fun t ht hW => ⟨⟨ws', _, rfl, ⟨w, rfl, hf _ _ hxx _ gw⟩, ri_fH_ok hf hl gH, gad, by rw [ht]; exact gP, gD⟩, gS.F ht⟩) gS.2.2 hd
/-- a call by a contract: the values off the stack, then what the contract leaves -/
theorem ri_At_call (hm : mT[mi]? = some (y, cc, nL, ret)) (B : ri_Bd p s m args meth c y cc nL ret κ D) {d1 j ci mj np : Nat} {S : ri_S} {a : List (Option ri_V) × List ri_V} {h' : List ri_C} {st' : List ri_V} {lo' : List (Option ri_V)} {o : Option ri_I} {f : ri_I → ri_I → Bool} (hd1 : d1 + 1 ≤ d) (hrow : ri_rowOK mT y cc nL ret S.1 (.invokevirtual j, 3, ci + 4, mj, ((np + 1 : Nat) : Int))) (htk : ri_take (np + 1) S.2.2.1 [] = some a) (h4 : a.2.length ≤ 4) (hrec : ri_recv (ci + 4) S.2.2.2.1 a.1 = true) (hNZ : S.2.2.2.2.1 = 0 ∧ S.2.2.2.2.2 = 0)
    (hf : ∀ x y, f x y = true → ∀ v, ri_gI τ x v → ri_gI τ' y v) (hst : ri_lall (ri_fV f) a.2 st' = true) (hlo : ri_lall (ri_fO f) S.2.1 lo' = true)
    (met : ∀ (yy : MethodName) (cc' : ByteArray) (nL' : Nat) (ret' : Option FieldType) (ws1 : va_W) (sz : Nat) (top : List Value), mT[mj]? = some (yy, cc', nL', ret') → ri_gH τ κ S.2.2.2.1 ws1 → ri_rel τ (ri_ad ws1) a.1 top → Met l yy (.code yy cc' nL' ret' :: gU) (ri_rm d1 0 0) (ri_Pc κ D ws1 sz top) (ri_Qo τ' κ D ws1 sz o h') 0 0 (va_A ws1 sz))
    (k : ri_AB p l e s m args below meth c nL κ D ws Q d τ' (S.1 + 3, lo', ri_ps o st', h', 0, 0)) : ri_AB p l e s m args below meth c nL κ D ws Q d τ S := by
  obtain ⟨hx, hb, hml, hown, hnm, hts, hK, hN, -, -⟩ := B
  obtain ⟨hd, ho⟩ := hrow
  intro ws1 H locs ls st cells slots hH hP hD hS hL hst0 had hc hz
  obtain ⟨top, rst, rfl, htop, hrst, hrel⟩ := ri_take_ok (accv := []) _ htk hst0 ⟨rfl, fun i x hx => by simp at hx, fun v hv => by cases hv⟩
  rw [List.append_nil] at hrel
  have hrl := ri_gS_len hrst
  have hcat := ri_cats rst
  have hFc : ∀ x, va_A ws1 H.size x → va_A ws s.heap.size x := fun x hx0 => by
    rcases hx0 with ⟨k, e0, hk⟩ | hx0
    · exact hD.2 k _ hk
    · exact Or.inr (Nat.le_trans hS.1 hx0)
  obtain ⟨e3, yy, cc', nL', ret', ci', T, N, n', y1, y2, y3, y4, y5, y6, y7, y8, y9⟩ := ho
  have y2 : ci + 4 = ci' + 4 := y2
  have y2 : ci' = ci := by omega
  subst y2
  have y8 : ((np + 1 : Nat) : Int) = ((n' + 1 : Nat) : Int) := y8
  have y8 : n' = np := by omega
  subst y8
  obtain ⟨u1, u2, -, u4, -, -⟩ := tab_all _ yy cc' nL' ret' y1
  obtain ⟨bb, a', ob, ea, hob, eob⟩ := ri_recv4 hrec
  obtain ⟨qb, As, eV, gqb⟩ := ri_head hrel ea
  obtain ⟨qb', e0, eqb, heb, vsb, rfl, -⟩ := ri_cell hH gqb hob
  cases eqb
  have etop : top = As.reverse ++ [.ref qb] := by
    have := congrArg List.reverse eV
    simpa using this
  have hAl : As.length = n' := by
    have : top.length = n' + 1 := htop
    rw [etop] at this
    simpa using this
  obtain ⟨lv, l1, l2⟩ := id hL
  have hgW : 2 * (F0 m S.1 ls (top ++ rst)).monitorRoom + (rst.map fun v => v.category).sum ≤ 8 := lv_room (by omega)
  have ec : cells = 0 := by omega
  have ez : slots = 0 := by omega
  subst ec
  subst ez
  rw [eV] at hrel
  refine ri_callR (va_runV (Ts := gU) (C := yy.cls) (b := qb) (As := As) (rest := rst) (n := n') ⟨hx, hb, hml, hown, hts⟩ (met yy cc' nL' ret' ws1 H.size (.ref qb :: As) y1 hH hrel) ⟨callB_of n' hts (gU_in u1 gU (fun _ g => g)) rfl rfl rfl (hts _ u2) (hts _ y4) y7 ⟨hd1, by show 8 + (nL' + 11) + 100 * d1 ≤ 100 * d; omega⟩, hts _ y5, hts _ y6⟩ ⟨fun a U g mk q => by
    obtain ⟨q0, q1, qP, qK, qD, qN⟩ := q
    exact ⟨q0, q1, qP, va_K.moved (u := U) (U := U.calling g mk a) (Vm.Alike.refl U.vm) qK, qD, ri_N_same rfl qN⟩, va_recv hK hP (ci := ci') (q0 := bb) y3 (by rw [heb, eob]), fun U hU hW => ⟨rfl, by rw [hU], by rw [hU]; exact hP, va_K.moved hW.alike hK, hD.weaken (fun _ _ _ _ => trivial), ri_N_warm hW hN⟩⟩ rfl hAl l1.1 (by show top ++ rst = As.reverse ++ .ref qb :: rst; rw [etop]; simp) hgW hd ⟨Nat.le_refl _, Nat.le_refl _⟩) (fun v st₀ t0 L h0 hLf hQ => ?_)
  obtain ⟨⟨ws', ov, ev, m3, m4, m5, m6, m7⟩, m9⟩ := hQ
  cases ev
  obtain ⟨g1, g2⟩ := ri_lall_ok hlo
  have hgs := ri_gS_lift hf hst (ri_gS_mono m5 hrst)
  have hgs' : ri_gS τ' (ri_ad ws') (ri_ps o st') (v.toList ++ rst) := by
    cases o with
    | none =>
      have m3 : v = none := m3
      subst m3
      exact hgs
    | some x =>
      obtain ⟨w, rfl, gw⟩ := m3
      exact ⟨⟨w, rfl, gw⟩, hgs⟩
  refine k ws' t0.heap (locs ++ L) ls (v.toList ++ rst) 0 0 m4 m6 (m7.weaken (fun _ _ _ g => hFc _ g)) (ri_S_after hS m9 h0 hFc hLf) ⟨lv, l1, fun i y hy => ?_⟩ hgs' (List.IsPrefix.trans had m5) rfl rfl
  obtain ⟨x, k1, k2⟩ := g2 i _ hy
  rcases x with _ | x
  · cases k2
  · obtain ⟨w, n1, n2, n3⟩ := l2 i x k1
    exact ⟨w, n1, ri_fV_ok hf k2 (ri_gV_mono n2 m5), n3⟩
end RI33
