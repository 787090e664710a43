/-! A loop by a tag: the count of its turns -/
def ri_fO (f : ri_I → ri_I → Bool) (a b : Option ri_V) : Bool := match b with
  | none => true
  | some y => (match a with
    | some x => ri_fV f x y
    | none => false)
noncomputable def ri_fS (f : ri_I → ri_I → Bool) (a b : ri_S) : Bool := cond (Nat.beq a.1 b.1) (cond (ri_lall (ri_fO f) a.2.1 b.2.1) (cond (ri_lall (ri_fV f) a.2.2.1 b.2.2.1) (cond (ri_lall (ri_fC f) a.2.2.2.1 b.2.2.2.1) (cond (Nat.beq a.2.2.2.2.1 b.2.2.2.2.1) (Nat.beq a.2.2.2.2.2 b.2.2.2.2.2) false) false) false) false) false
theorem ri_fS_ok {f : ri_I → ri_I → Bool} {a b : ri_S} (h : ri_fS f a b = true) : a.1 = b.1 ∧ ri_lall (ri_fO f) a.2.1 b.2.1 = true ∧ ri_lall (ri_fV f) a.2.2.1 b.2.2.1 = true ∧ ri_lall (ri_fC f) a.2.2.2.1 b.2.2.2.1 = true ∧ a.2.2.2.2.1 = b.2.2.2.2.1 ∧ a.2.2.2.2.2 = b.2.2.2.2.2 := by
  unfold ri_fS at h
  cases c1 : Nat.beq a.1 b.1 with
  | false => rw [c1] at h; cases h
  | true =>
    cases c2 : ri_lall (ri_fO f) a.2.1 b.2.1 with
    | false => rw [c1, c2] at h; cases h
    | true =>
      cases c3 : ri_lall (ri_fV f) a.2.2.1 b.2.2.1 with
      | false => rw [c1, c2, c3] at h; cases h
      | true =>
        cases c4 : ri_lall (ri_fC f) a.2.2.2.1 b.2.2.2.1 with
        | false => rw [c1, c2, c3, c4] at h; cases h
        | true =>
          cases c5 : Nat.beq a.2.2.2.2.1 b.2.2.2.2.1 with
          | false => rw [c1, c2, c3, c4, c5] at h; cases h
          | true =>
            rw [c1, c2, c3, c4, c5] at h
            exact ⟨Nat.eq_of_beq_eq_true c1, rfl, rfl, rfl, Nat.eq_of_beq_eq_true c5, Nat.eq_of_beq_eq_true h⟩
theorem ri_gS_lift {f : ri_I → ri_I → Bool} {τ τ' : Nat → Int} (hf : ∀ x y, f x y = true → ∀ v, ri_gI τ x v → ri_gI τ' y v) {ad : List Nat} : ∀ {l m : List ri_V} {st : List Value}, ri_lall (ri_fV f) l m = true → ri_gS τ ad l st → ri_gS τ' ad m st
  | [], [], [], _, _ => trivial
  | [], [], _ :: _, _, h => h.elim
  | [], _ :: _, _, h, _ => by cases h
  | _ :: _, [], _, h, _ => by cases h
  | _ :: _, _ :: _, [], _, h => h.elim
  | a :: l, b :: m, v :: st, h, hs => by
    have h : cond (ri_fV f a b) (ri_lall (ri_fV f) l m) false = true := h
    cases hc : ri_fV f a b with
    | false => rw [hc] at h; cases h
    | true =>
      rw [hc] at h
      exact ⟨ri_fV_ok hf hc hs.1, ri_gS_lift hf h hs.2⟩
section RI29
variable {p : Program} {l : Launch} {e : Env} {R : Room} {s : State} {m : MethodId} {args : Array Value} {below : List Frame} {meth : Method} {c : Code} {nL n0 z0 : Nat} {τ τ' : Nat → Int} {κ : Nat → ClassId} {D : va_G} {A : Nat → Prop} {H0 : Heap} {ad0 : List Nat} {Q : State → Prop}
theorem ri_At_lift {f : ri_I → ri_I → Bool} (hf : ∀ x y, f x y = true → ∀ v, ri_gI τ x v → ri_gI τ' y v) {a b : ri_S} (h : ri_fS f a b = true) (hb : ri_At p l e R s m args below meth c nL n0 z0 τ' κ D A H0 ad0 Q b) : ri_At p l e R s m args below meth c nL n0 z0 τ κ D A H0 ad0 Q a := by
  obtain ⟨h1, h2, h3, h4, h5, h6⟩ := ri_fS_ok h
  intro ws H locs ls st cells slots hH hP hD hS hL hst had hc hz
  rw [h1]
  refine hb ws H locs ls st cells slots (ri_fH_ok hf h4 hH) hP hD hS ?_ (ri_gS_lift hf h3 hst) had (by rw [← h5]; exact hc) (by rw [← h6]; exact hz)
  obtain ⟨lv, l1, l2⟩ := hL
  obtain ⟨g1, g2⟩ := ri_lall_ok h2
  refine ⟨lv, l1, fun i y hy => ?_⟩
  obtain ⟨x, k1, k2⟩ := g2 i _ hy
  rcases x with _ | x
  · cases k2
  · obtain ⟨v, m1, m2, m3⟩ := l2 i x k1
    exact ⟨v, m1, ri_fV_ok hf k2 m2, m3⟩
end RI29
/-- the first turn: the tag's base is 0 -/
def ri_fi (x y : ri_I) : Bool := cond (Nat.beq x.1 0) (cond (Nat.ble y.1 1) (ri_ieq (0, x.2) (0, y.2)) false) false
theorem ri_fi_ok {τ : Nat → Int} : ∀ x y, ri_fi x y = true → ∀ v, ri_gI τ x v → ri_gI (fun _ => 0) y v := by
  intro x y h v hv
  unfold ri_fi at h
  obtain ⟨kx, xl, xh⟩ := x
  obtain ⟨ky, yl, yh⟩ := y
  cases c1 : Nat.beq kx 0 with
  | false => rw [c1] at h; cases h
  | true =>
    cases c2 : Nat.ble ky 1 with
    | false => rw [c1, c2] at h; cases h
    | true =>
      rw [c1, c2] at h
      have e := Nat.eq_of_beq_eq_true c1
      subst e
      have h : ri_ieq (0, xl, xh) (0, yl, yh) = true := h
      have g : ri_gI (fun _ => 0) (0, yl, yh) v := ri_ieq_ok (τ := fun _ => 0) (x := (0, xl, xh)) h (ri_gI_0.mpr (ri_gI_0.mp hv))
      have g := ri_gI_0.mp g
      have hk := Nat.le_of_ble_eq_true c2
      rcases (show ky = 0 ∨ ky = 1 by omega) with rfl | rfl
      · exact ri_gI_0.mpr g
      · show 0 + yl ≤ _ ∧ _ ≤ 0 + yh
        omega
/-- one turn more -/
def ri_fs (x y : ri_I) : Bool := cond (Nat.beq x.1 0) (ri_ieq x y) (cond (Nat.beq x.1 1) (ri_ieq x (1, Int.add y.2.1 1, Int.add y.2.2 1)) false)
theorem ri_fs_ok {t : Int} : ∀ x y, ri_fs x y = true → (Nat.beq x.1 y.1 = true) → ∀ v, ri_gI (fun _ => t) x v → ri_gI (fun _ => t + 1) y v := by
  intro x y h hxy v hv
  unfold ri_fs at h
  obtain ⟨kx, xl, xh⟩ := x
  obtain ⟨ky, yl, yh⟩ := y
  have exy : kx = ky := Nat.eq_of_beq_eq_true hxy
  subst exy
  cases c1 : Nat.beq kx 0 with
  | true =>
    rw [c1] at h
    have e := Nat.eq_of_beq_eq_true c1
    subst e
    have h : ri_ieq (0, xl, xh) (0, yl, yh) = true := h
    have g := ri_gI_0.mp (ri_ieq_ok h hv)
    exact ri_gI_0.mpr g
  | false =>
    rw [c1] at h
    cases c2 : Nat.beq kx 1 with
    | false => rw [c2] at h; cases h
    | true =>
      rw [c2] at h
      have e := Nat.eq_of_beq_eq_true c2
      subst e
      have h : ri_ieq (1, xl, xh) (1, Int.add yl 1, Int.add yh 1) = true := h
      have g := ri_ieq_ok (τ := fun _ => t) (y := (1, Int.add yl 1, Int.add yh 1)) h hv
      have g : t + (yl + 1) ≤ v.toInt ∧ v.toInt ≤ t + (yh + 1) := g
      show t + 1 + yl ≤ _ ∧ _ ≤ t + 1 + yh
      omega
def ri_ft (x y : ri_I) : Bool := cond (Nat.beq x.1 y.1) (ri_fs x y) false
theorem ri_ft_ok {t : Int} : ∀ x y, ri_ft x y = true → ∀ v, ri_gI (fun _ => t) x v → ri_gI (fun _ => t + 1) y v := by
  intro x y h v hv
  unfold ri_ft at h
  cases c1 : Nat.beq x.1 y.1 with
  | false => rw [c1] at h; cases h
  | true =>
    rw [c1] at h
    exact ri_fs_ok x y h c1 v hv
/-- the ends: the answer x; or a state that goes on to s -/
noncomputable def ri_chkL (x : ri_I) (f : ri_I → ri_I → Bool) (s : ri_S) (g : ri_S → Option (List ri_O)) (o : Option (List ri_O)) : Bool := match o with
  | none => false
  | some outs => List.rec (motive := fun _ => Bool) true (fun a _ ih => match a with
    | .inr S => (match g S with
      | some (.inr S' :: []) => cond (ri_fS f S' s) (cond (Nat.beq S.2.2.2.2.1 0) (cond (Nat.beq S.2.2.2.2.2 0) ih false) false) false
      | _ => false)
    | .inl q => (match q.1 with
      | some (.inl y) => cond (ri_ieq y x) (cond (Nat.beq q.2.2.1 0) (cond (Nat.beq q.2.2.2 0) ih false) false) false
      | _ => false)) outs
theorem ri_chkL_ok {x : ri_I} {f : ri_I → ri_I → Bool} {s : ri_S} {g : ri_S → Option (List ri_O)} {o : Option (List ri_O)} (h : ri_chkL x f s g o = true) : ∃ outs, o = some outs ∧ ∀ a ∈ outs, (∃ q y, a = .inl q ∧ q.1 = some (.inl y) ∧ ri_ieq y x = true ∧ q.2.2.1 = 0 ∧ q.2.2.2 = 0) ∨ ∃ S S', a = .inr S ∧ g S = some [.inr S'] ∧ ri_fS f S' s = true ∧ S.2.2.2.2.1 = 0 ∧ S.2.2.2.2.2 = 0 := by
  cases o with
  | none => cases h
  | some outs =>
    refine ⟨outs, rfl, ?_⟩
    induction outs with
    | nil => intro a ha; cases ha
    | cons a t ih =>
      rcases a with q | S
      · obtain ⟨q1, q2⟩ := q
        rcases q1 with _ | y | y
        · cases h
        · have h : cond (ri_ieq y x) (cond (Nat.beq q2.2.1 0) (cond (Nat.beq q2.2.2 0) (ri_chkL x f s g (some t)) false) false) false = true := h
          cases c1 : ri_ieq y x with
          | false => rw [c1] at h; cases h
          | true =>
            cases c2 : Nat.beq q2.2.1 0 with
            | false => rw [c1, c2] at h; cases h
            | true =>
              cases c3 : Nat.beq q2.2.2 0 with
              | false => rw [c1, c2, c3] at h; cases h
              | true =>
                rw [c1, c2, c3] at h
                intro a ha
                rcases List.mem_cons.mp ha with rfl | ha
                · exact Or.inl ⟨_, y, rfl, rfl, c1, Nat.eq_of_beq_eq_true c2, Nat.eq_of_beq_eq_true c3⟩
                · exact ih h a ha
        · cases h
      · have h : (match (generalizing := false) g S with
          | some (.inr S' :: []) => cond (ri_fS f S' s) (cond (Nat.beq S.2.2.2.2.1 0) (cond (Nat.beq S.2.2.2.2.2 0) (ri_chkL x f s g (some t)) false) false) false
          | _ => false) = true := h
        rcases hg : g S with _ | _ | ⟨q | S', _ | ⟨_, _⟩⟩
        · rw [hg] at h; cases h
        · rw [hg] at h; cases h
        · rw [hg] at h; cases h
        · rw [hg] at h; cases h
        · rw [hg] at h
          have h : cond (ri_fS f S' s) (cond (Nat.beq S.2.2.2.2.1 0) (cond (Nat.beq S.2.2.2.2.2 0) (ri_chkL x f s g (some t)) false) false) false = true := h
          cases c1 : ri_fS f S' s with
          | false => rw [c1] at h; cases h
          | true =>
            cases c2 : Nat.beq S.2.2.2.2.1 0 with
            | false => rw [c1, c2] at h; cases h
            | true =>
              cases c3 : Nat.beq S.2.2.2.2.2 0 with
              | false => rw [c1, c2, c3] at h; cases h
              | true =>
                rw [c1, c2, c3] at h
                intro a ha
                rcases List.mem_cons.mp ha with rfl | ha
                · exact Or.inr ⟨S, S', rfl, hg, c1, Nat.eq_of_beq_eq_true c2, Nat.eq_of_beq_eq_true c3⟩
                · exact ih h a ha
        · rw [hg] at h; cases h
/-- a method whose loop comes back to s with the tag one greater, at most K times -/
theorem ri_con_loop {mi : Nat} {h0 : List ri_C} {as : List Int32} {z : Int32} {xs : List ri_I} {x : ri_I} {n k stp stq : Nat} {K : Nat} {sl : ri_S} (hsl : sl.2.2.2.2.1 = 0 ∧ sl.2.2.2.2.2 = 0) (hxs : ri_as (fun _ => 0) xs as) (hz : ∀ (τ : Nat → Int) (w : Int32), ri_gI τ x w → w = z)
    (hA0 : ri_chkL x ri_fi sl (ri_run ([], []) rD mt (mi, stq) 9 20 mi) (ri_run ([], []) rD mt (mi, stp) n 20 mi (0, ri_ent xs k, [], h0, 0, 0)) = true)
    (hA1 : ri_chkL x ri_ft sl (ri_run ([(0, (K : Int) - 1)], []) rD mt (mi, stq) 9 20 mi) (ri_run ([(0, (K : Int) - 1)], []) rD mt (mi, stp) n 20 mi sl) = true)
    (hA2 : ri_chkR x (ri_run ([((K : Int), (K : Int))], []) rD mt (999, 0) n 20 mi sl) = true)
    (hl : ∀ q, mT[mi]? = some q → as.length + 1 ≤ q.2.2.1) : ri_con mi h0 as z := by
  intro l κ D ws sz q0 y cc nL ret hm hH hq0
  obtain ⟨t1, t2, t3, t4, -, -⟩ := tab_all mi y cc nL ret hm
  refine Met.ofW (cc := cc) (maxL := nL) (ret := ret) t3 rfl ?_
  intro p e s m args below meth c s₁ B hml hv0
  obtain ⟨rfl, hsz, hP, hK, hD0, hN⟩ := hv0
  have hx := B.exec
  have hb := B.bytes
  have hr := B.returns
  have hts0 := atoms_spec (ws := .code y cc nL ret :: gU) B.pre
  have hts : ∀ w ∈ gU, w.before (Value.ref q0 :: as.map .int).toArray s = true := fun w hw => hts0 w (List.mem_cons_of_mem _ hw)
  have hown : s.vm.findClass y.cls = some m.cls := findClass_of_methodNamed B.named
  have hlocks := B.notSynchronized
  have hnm : meth.name = y.name := (name_of_methodNamed B.named B.method).1
  subst hsz
  rw [lg_entry_eq]
  -- every end answers z
  have hret : ∀ (τ : Nat → Int) (q : Option ri_V × List ri_C × Nat × Nat) (u : ri_I), q.1 = some (.inl u) → ri_ieq u x = true → q.2.2.1 = 0 → q.2.2.2 = 0 → ri_RetAt p l e (ri_rm 20 0 0) s m (Value.ref q0 :: as.map .int).toArray below meth c cc ret 0 0 τ κ D (va_A ws s.heap.size) s.heap (ri_ad ws) (MQ below (ri_Qz ws s.heap.size z) (Value.ref q0 :: as.map .int).toArray s 0 0 (va_A ws s.heap.size)) q := fun τ q u e1 e2 e3 e4 => by
    intro ws' H locs cells slots pc ls st gH gP gD gS gad gc gz gst
    have ec : cells = 0 := by omega
    have ez : slots = 0 := by omega
    subst ec
    subst ez
    obtain ⟨o, h1, N', Z'⟩ := q
    have e1 : o = some (.inl u) := e1
    subst e1
    obtain ⟨w, rfl, ⟨w', ew, gw⟩, hd, hret⟩ := gst
    cases ew
    have ez := hz τ w (ri_ieq_ok e2 gw)
    subst ez
    have post : ∀ t : State, t.heap = H → s.WarmedH t.vm → ri_Qz ws s.heap.size w (Value.ref q0 :: as.map .int).toArray s (.returned (some (.int w))) t := fun t ht hW => ⟨rfl, gS.F ht⟩
    rcases hret with hret | ⟨hret, hz'⟩
    · rw [hret] at hr
      exact W.iret hx hb hr post gS.2.2 hd
    · rw [hret] at hr
      exact W.zret (ty := .boolean) hx hb hr (by rcases hz' with rfl | rfl <;> decide +kernel) post gS.2.2 hd
  -- from a list of ends
  have fromL : ∀ (E : ri_E) (τ τ' : Nat → Int) (f : ri_I → ri_I → Bool) (S : ri_S), ri_okE E τ → (∀ x y, f x y = true → ∀ v, ri_gI τ x v → ri_gI τ' y v) → ri_chkL x f sl (ri_run E rD mt (mi, stq) 9 20 mi) (ri_run E rD mt (mi, stp) n 20 mi S) = true → ri_At p l e (ri_rm 20 0 0) s m (Value.ref q0 :: as.map .int).toArray below meth c nL 0 0 τ' κ D (va_A ws s.heap.size) s.heap (ri_ad ws) (MQ below (ri_Qz ws s.heap.size z) (Value.ref q0 :: as.map .int).toArray s 0 0 (va_A ws s.heap.size)) sl → ri_At p l e (ri_rm 20 0 0) s m (Value.ref q0 :: as.map .int).toArray below meth c nL 0 0 τ κ D (va_A ws s.heap.size) s.heap (ri_ad ws) (MQ below (ri_Qz ws s.heap.size z) (Value.ref q0 :: as.map .int).toArray s 0 0 (va_A ws s.heap.size)) S := fun E τ τ' f S hE hf hchk hat => by
    obtain ⟨outs, ho, hall⟩ := ri_chkL_ok hchk
    refine ri_sound (E := E) (τ := τ) (stop := (mi, stp)) co_all ao_all tab_all hE n 20 mi S outs ho p l e (ri_rm 20 0 0) s m _ below meth c cc nL y ret 0 0 κ D _ s.heap (ri_ad ws) _ hm hx hb hml hown hnm hts hK hN (fun q hq => Or.inr hq) (Nat.le_refl _) (Nat.le_refl _) (fun o ho => ?_) (fun q hq => ?_) (fun S' hS' => ?_)
    · rcases hall o ho with ⟨q, u, rfl, -, -, e3, e4⟩ | ⟨S1, S2, rfl, -, -, e3, e4⟩
      · show q.2.2.1 ≤ 0 + 0 ∧ q.2.2.2 ≤ 0 + 0
        omega
      · show S1.2.2.2.2.1 ≤ 0 + 0 ∧ S1.2.2.2.2.2 ≤ 0 + 0
        omega
    · rcases hall _ hq with ⟨q', u, e0, e1, e2, e3, e4⟩ | ⟨S1, S2, e0, -⟩
      · cases e0
        exact hret τ q u e1 e2 e3 e4
      · cases e0
    · rcases hall _ hS' with ⟨q', u, e0, -⟩ | ⟨S1, S2, e0, e1, e2, e3, e4⟩
      · cases e0
      · cases e0
        obtain ⟨-, -, -, -, f5, f6⟩ := ri_fS_ok e2
        have mono := (ri_run_mo 9 e1).2 (.inr S2) List.mem_cons_self
        have gS2 : S2.2.2.2.2.1 = sl.2.2.2.2.1 ∧ S2.2.2.2.2.2 = sl.2.2.2.2.2 := ⟨f5, f6⟩
        refine ri_sound (E := E) (τ := τ) (stop := (mi, stq)) co_all ao_all tab_all hE 9 20 mi S' [.inr S2] e1 p l e (ri_rm 20 0 0) s m _ below meth c cc nL y ret 0 0 κ D _ s.heap (ri_ad ws) _ hm hx hb hml hown hnm hts hK hN (fun q hq => Or.inr hq) (Nat.le_refl _) (Nat.le_refl _) (fun o ho => ?_) (fun q hq => ?_) (fun S3 hS3 => ?_)
        · rw [List.mem_singleton.mp ho]
          show S2.2.2.2.2.1 ≤ 0 + 0 ∧ S2.2.2.2.2.2 ≤ 0 + 0
          omega
        · have := List.mem_singleton.mp hq
          cases this
        · have := List.mem_singleton.mp hS3
          cases this
          exact ri_At_lift hf e2 hat
  -- the loop
  have loop : ∀ (j : Nat) (t : Int), 0 ≤ t → t + (j : Int) = (K : Int) → ri_At p l e (ri_rm 20 0 0) s m (Value.ref q0 :: as.map .int).toArray below meth c nL 0 0 (fun _ => t) κ D (va_A ws s.heap.size) s.heap (ri_ad ws) (MQ below (ri_Qz ws s.heap.size z) (Value.ref q0 :: as.map .int).toArray s 0 0 (va_A ws s.heap.size)) sl := by
    intro j
    induction j with
    | zero =>
      intro t h0 hj
      obtain ⟨outs, ho, hall⟩ := ri_chkR_ok hA2
      refine ri_sound (E := ([((K : Int), (K : Int))], [])) (τ := fun _ => t) (stop := (999, 0)) co_all ao_all tab_all ⟨fun k b hk => ?_, fun q hq => by cases hq⟩ n 20 mi sl outs ho p l e (ri_rm 20 0 0) s m _ below meth c cc nL y ret 0 0 κ D _ s.heap (ri_ad ws) _ hm hx hb hml hown hnm hts hK hN (fun q hq => Or.inr hq) (Nat.le_refl _) (Nat.le_refl _) (fun o ho => ?_) (fun q hq => ?_) (fun S' hS' => ?_)
      · cases k with
        | zero =>
          cases hk
          show (K : Int) ≤ t ∧ t ≤ (K : Int)
          omega
        | succ k => simp at hk
      · obtain ⟨q, u, rfl, -, -, e3, e4⟩ := hall o ho
        show q.2.2.1 ≤ 0 + 0 ∧ q.2.2.2 ≤ 0 + 0
        omega
      · obtain ⟨q', u, e0, e1, e2, e3, e4⟩ := hall _ hq
        cases e0
        exact hret _ q u e1 e2 e3 e4
      · obtain ⟨q', u, e0, -⟩ := hall _ hS'
        cases e0
    | succ j ih =>
      intro t h0 hj
      refine fromL ([(0, (K : Int) - 1)], []) (fun _ => t) (fun _ => t + 1) ri_ft sl ⟨fun k b hk => ?_, fun q hq => by cases hq⟩ ri_ft_ok hA1 (ih (t + 1) (by omega) (by omega))
      cases k with
      | zero =>
        cases hk
        show 0 ≤ t ∧ t ≤ (K : Int) - 1
        omega
      | succ k => simp at hk
  obtain ⟨a1, a2⟩ := ri_as_at hxs
  refine fromL ([], []) (fun _ => 0) (fun _ => 0) ri_fi _ (ri_okE0 _) ri_fi_ok hA0 (loop K 0 (by omega) (by omega)) ws s.heap [] _ [] 0 0 (hH _) hP hD0.self va_S.rf (ri_gL_entry (vs := Value.ref q0 :: as.map .int) (fun v hv => ?_) (by simpa using hl _ hm) (fun i x hx => ?_)) trivial (List.prefix_refl _) rfl rfl
  · rcases List.mem_cons.mp hv with rfl | hv
    · rfl
    · obtain ⟨w, -, rfl⟩ := List.mem_map.mp hv
      rfl
  · have hx := ri_pad_at hx
    cases i with
    | zero =>
      cases hx
      exact ⟨.ref q0, rfl, q0, hq0, rfl⟩
    | succ i =>
      have hx : (xs.map (fun x => some (Sum.inl x : ri_V)))[i]? = some (some x) := by simpa using hx
      rw [List.getElem?_map] at hx
      cases hxi : xs[i]? with
      | none => rw [hxi] at hx; cases hx
      | some x' =>
        rw [hxi] at hx
        cases hx
        obtain ⟨w, e1, e2⟩ := a2 i x' hxi
        exact ⟨.int w, by simp [e1], w, rfl, e2⟩
