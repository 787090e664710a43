/-! Steps on the heap -/
theorem ri_nc (u : Int32) : u.toNatClampNeg = u.toInt.toNat := rfl
theorem ri_nn {u : Int32} (h : 0 ≤ u.toInt) : ¬ u < 0 := fun q => by
  have := Int32.lt_iff_toInt_lt.mp q
  have e : (0 : Int32).toInt = 0 := rfl
  omega
theorem ri_ieq_ok {τ : Nat → Int} {x y : ri_I} (h : ri_ieq x y = true) {v : Int32} (hv : ri_gI τ x v) : ri_gI τ y v := by
  obtain ⟨a, b, c⟩ := x
  obtain ⟨a', b', c'⟩ := y
  unfold ri_ieq at h
  cases h1 : Nat.beq a a' with
  | false => simp [h1] at h
  | true =>
    cases h2 : ri_le b b' with
    | false => simp [h1, h2] at h
    | true =>
      cases h3 : ri_le b' b with
      | false => simp [h1, h2, h3] at h
      | true =>
        cases h4 : ri_le c c' with
        | false => simp [h1, h2, h3, h4] at h
        | true =>
          simp [h1, h2, h3, h4] at h
          have e1 : a = a' := Nat.eq_of_beq_eq_true h1
          subst e1
          have := ri_le_iff.mp h2
          have := ri_le_iff.mp h3
          have := ri_le_iff.mp h4
          have := ri_le_iff.mp h
          have hv : ri_bs τ a + b ≤ v.toInt ∧ v.toInt ≤ ri_bs τ a + c := hv
          show ri_bs τ a + b' ≤ v.toInt ∧ v.toInt ≤ ri_bs τ a + c'
          omega
theorem ri_same_ok {z : ri_I} : ∀ (l : List ri_V) (i n : Nat), ri_same z l i n = true → ∀ k, i ≤ k → k < i + n → ∃ x, l[k]? = some (.inl x) ∧ ri_ieq x z = true
  | [], i, n, h, k, h1, h2 => by
    have h : Nat.beq n 0 = true := h
    have := Nat.eq_of_beq_eq_true h
    omega
  | a :: t, 0, 0, h, k, h1, h2 => by omega
  | a :: t, 0, n + 1, h, k, h1, h2 => by
    rcases a with x | x
    · have h : cond (ri_ieq x z) (ri_same z t 0 n) false = true := h
      cases hc : ri_ieq x z with
      | false => rw [hc] at h; cases h
      | true =>
        rw [hc] at h
        cases k with
        | zero => exact ⟨x, rfl, hc⟩
        | succ k =>
          obtain ⟨y, g1, g2⟩ := ri_same_ok t 0 n h k (by omega) (by omega)
          exact ⟨y, by simpa using g1, g2⟩
    · cases h
  | a :: t, i + 1, n, h, k, h1, h2 => by
    have h : ri_same z t i n = true := h
    cases k with
    | zero => omega
    | succ k =>
      obtain ⟨y, g1, g2⟩ := ri_same_ok t i n h k (by omega) (by omega)
      exact ⟨y, by simpa using g1, g2⟩
theorem ri_elem_ok {E : ri_E} {τ : Nat → Int} (hE : ri_okE E τ) {x : ri_I} {es : List ri_V} {v : ri_V} (h : ri_elem E x es = some v) {u : Int32} (hu : ri_gI τ x u) : vp_in u es.length ∧ ∃ w, es[u.toNatClampNeg]? = some w ∧ ∀ (ad : List Nat) (val : Value), ri_gV τ ad w val → ri_gV τ ad v val := by
  unfold ri_elem at h
  cases ha : ri_abs E x with
  | none => rw [ha] at h; cases h
  | some a =>
    rw [ha] at h
    have h1 := ri_abs_ok hE ha hu
    obtain ⟨a1, a2⟩ := a
    cases a1 with
    | negSucc _ => cases h
    | ofNat i =>
      cases a2 with
      | negSucc _ => cases h
      | ofNat j =>
        have h1 : (i : Int) ≤ u.toInt ∧ u.toInt ≤ (j : Int) := h1
        have h : (match ri_nth es i with
          | none => none
          | some v => ri_el2 es i j v) = some v := h
        rw [ri_nth_eq] at h
        cases hw : es[i]? with
        | none => rw [hw] at h; cases h
        | some w =>
          rw [hw] at h
          have h : ri_el2 es i j w = some v := h
          unfold ri_el2 at h
          cases hij : Nat.beq i j with
          | true =>
            rw [hij] at h
            cases h
            have e := Nat.eq_of_beq_eq_true hij
            have eu : u.toNatClampNeg = i := by rw [ri_nc]; omega
            have hl := (List.getElem?_eq_some_iff.mp hw).1
            exact ⟨fun q => q.elim (ri_nn (by omega)) (fun q => by omega), _, by rw [eu]; exact hw, fun _ _ g => g⟩
          | false =>
            rw [hij, cond_false] at h
            rcases w with z | z
            · have h : cond (Nat.ble i j) (cond (ri_same z es i (Nat.sub (Nat.succ j) i)) (some (.inl z)) none) none = some v := h
              obtain ⟨c1, h⟩ := ri_cond h rfl
              obtain ⟨c2, h⟩ := ri_cond h rfl
              cases h
              have c1 := Nat.le_of_ble_eq_true c1
              have eu := ri_nc u
              obtain ⟨y, g1, g2⟩ := ri_same_ok es i _ c2 u.toNatClampNeg (by omega) (by show _ < i + (j + 1 - i); omega)
              have hl := (List.getElem?_eq_some_iff.mp g1).1
              refine ⟨fun q => q.elim (ri_nn (by omega)) (fun q => by omega), _, g1, fun ad val g => ?_⟩
              obtain ⟨v, e, gv⟩ := g
              exact ⟨v, e, ri_ieq_ok g2 gv⟩
            · cases h
theorem ri_idx_ok {E : ri_E} {τ : Nat → Int} (hE : ri_okE E τ) {x : ri_I} {n i : Nat} (h : ri_idx E x n = some i) {u : Int32} (hu : ri_gI τ x u) : u.toInt = (i : Int) ∧ u.toNatClampNeg = i ∧ i < n ∧ ¬ u < 0 := by
  unfold ri_idx at h
  cases ha : ri_abs E x with
  | none => rw [ha] at h; cases h
  | some a =>
    rw [ha] at h
    have h1 := ri_abs_ok hE ha hu
    obtain ⟨a1, a2⟩ := a
    cases a1 with
    | negSucc _ => cases h
    | ofNat a1 =>
      cases a2 with
      | negSucc _ => cases h
      | ofNat a2 =>
        have h1 : (a1 : Int) ≤ u.toInt ∧ u.toInt ≤ (a2 : Int) := h1
        have h : cond (Nat.beq a1 a2) (cond (Nat.blt a1 n) (some a1) none) none = some i := h
        obtain ⟨c1, h⟩ := ri_cond h rfl
        obtain ⟨c2, h⟩ := ri_cond h rfl
        cases h
        have e := Nat.eq_of_beq_eq_true c1
        have c2 := Nat.le_of_ble_eq_true c2
        have eu := ri_nc u
        exact ⟨by omega, by omega, c2, ri_nn (by omega)⟩
/-- a value that fits a field or an array of its kind is kept as it is -/
theorem ri_fit1 {E : ri_E} {τ : Nat → Int} (hE : ri_okE E τ) {x : ri_I} (h : ri_fit E 1 (.inl x) = true) {u : Int32} (hu : ri_gI τ x u) : u = 0 ∨ u = 1 := by
  have h : (match ri_abs E x with
      | some a => cond (ri_le 0 a.1) (ri_le a.2 1) false
      | none => false) = true := h
  cases ha : ri_abs E x with
  | none => rw [ha] at h; cases h
  | some a =>
    rw [ha] at h
    have h1 := ri_abs_ok hE ha hu
    cases c1 : ri_le 0 a.1 with
    | false => rw [show (match some a with
      | some a => cond (ri_le 0 a.1) (ri_le a.2 1) false
      | none => false) = cond (ri_le 0 a.1) (ri_le a.2 1) false from rfl, c1] at h; cases h
    | true =>
      rw [show (match some a with
      | some a => cond (ri_le 0 a.1) (ri_le a.2 1) false
      | none => false) = cond (ri_le 0 a.1) (ri_le a.2 1) false from rfl, c1] at h
      have c1 := ri_le_iff.mp c1
      have c2 : a.2 ≤ 1 := ri_le_iff.mp h
      rcases (show u.toInt = 0 ∨ u.toInt = 1 by omega) with q | q
      · exact Or.inl (ri_is q rfl)
      · exact Or.inr (ri_is q rfl)
theorem ri_fit3 {E : ri_E} {τ : Nat → Int} (hE : ri_okE E τ) {x : ri_I} (h : ri_fit E 3 (.inl x) = true) {u : Int32} (hu : ri_gI τ x u) : u.toInt8.toInt32 = u := by
  have h : (match ri_abs E x with
      | some a => cond (ri_le (-128) a.1) (ri_le a.2 127) false
      | none => false) = true := h
  cases ha : ri_abs E x with
  | none => rw [ha] at h; cases h
  | some a =>
    rw [ha] at h
    have h1 := ri_abs_ok hE ha hu
    have h : cond (ri_le (-128) a.1) (ri_le a.2 127) false = true := h
    cases c1 : ri_le (-128) a.1 with
    | false => rw [c1] at h; cases h
    | true =>
      rw [c1] at h
      have c1 := ri_le_iff.mp c1
      have c2 : a.2 ≤ 127 := ri_le_iff.mp h
      apply Int32.toInt_inj.mp
      rw [Int8.toInt_toInt32, Int32.toInt_toInt8, Int.bmod_def]
      omega
theorem ri_fit_ok {E : ri_E} {τ : Nat → Int} (hE : ri_okE E τ) {v : Int} {a : ri_V} (h : ri_fit E (Int.toNat v) a = true) {ad : List Nat} {val : Value} (hv : ri_gV τ ad a val) {ty : FieldType} (ht : ri_fty v ty) : narrow ty val = val ∧ fits ty val = true := by
  rcases ht with ⟨rfl, rfl⟩ | ⟨rfl, rfl⟩ | ⟨rfl, ht⟩ | ⟨rfl, rfl⟩
  · rcases a with x | x
    · obtain ⟨u, rfl, -⟩ := hv
      exact ⟨rfl, rfl⟩
    · cases h
  · rcases a with x | x
    · obtain ⟨u, rfl, gu⟩ := hv
      rcases ri_fit1 hE h gu with rfl | rfl
      · exact ⟨by decide +kernel, by decide +kernel⟩
      · exact ⟨by decide +kernel, by decide +kernel⟩
    · cases h
  · rcases a with x | x | x
    · cases h
    · rcases ht with ⟨C, rfl⟩ | ⟨t, rfl⟩
      · cases x with
        | none => cases hv; exact ⟨rfl, rfl⟩
        | some k =>
          obtain ⟨q, -, rfl⟩ := hv
          exact ⟨rfl, rfl⟩
      · cases x with
        | none => cases hv; exact ⟨rfl, rfl⟩
        | some k =>
          obtain ⟨q, -, rfl⟩ := hv
          exact ⟨rfl, rfl⟩
    · cases h
  · cases h
/-- the cell at a place, and its address -/
theorem ri_cell {τ : Nat → Int} {κ : Nat → ClassId} {h : List ri_C} {ws : va_W} (hH : ri_gH τ κ h ws) {a : Nat} {v : Value} (hv : ri_gV τ (ri_ad ws) (.inr (.inl (some a))) v) {c : ri_C} (hc : h[a]? = some c) : ∃ (q : Nat) (e : va_E), v = .ref q ∧ ws[a]? = some (q, e) ∧ ri_gC τ (ri_ad ws) κ c e := by
  obtain ⟨q, hq, rfl⟩ := hv
  obtain ⟨q', e, h1, h2⟩ := hH.2 a c hc
  have : q' = q := Option.some.inj ((ri_ad_at h1).symm.trans hq)
  subst this
  exact ⟨q', e, rfl, h1, h2⟩
section RI9
variable {p : Program} {l : Launch} {e : Env} {R : Room} {s : State} {m : MethodId} {args : Array Value} {below : List Frame} {meth : Method} {c : Code} {cc : ByteArray} {nL n0 z0 : Nat} {τ : Nat → Int} {κ : Nat → ClassId} {D : va_G} {A : Nat → Prop} {H0 : Heap} {ad0 : List Nat} {Q : State → Prop} {own : String} {E : ri_E} {r : ri_R} {S : ri_S} {L : List ri_S}
theorem rs_getf (hx : p.tables.exec = Jvm.exec) (hb : c.code = cc) (hown : s.vm.findClass own = some m.cls) (hts : ∀ w ∈ gU, w.before args s = true) (hK : va_K D vwCl (ri_tys κ) s) {idx N : Nat} {C : String} {T : u_T} (hl : r.2.1 = 3) (hc0 : vwCl[r.2.2.1]? = some (C, T, N)) (hin : ∀ w ∈ u_ws C T N, w ∈ gU) (hk : r.2.2.2.1 < N) (hlink : Cond.fieldLink own idx (T r.2.2.2.1).1 (T r.2.2.2.1).2.1 (T r.2.2.2.1).2.2.1 ∈ gU) (hd : decode cc S.1 = .ok (.getfield idx, 3)) (h : ri_getf r S = some L) (k : ∀ S' ∈ L, ri_At p l e R s m args below meth c nL n0 z0 τ κ D A H0 ad0 Q S') : ri_At p l e R s m args below meth c nL n0 z0 τ κ D A H0 ad0 Q S := by
  unfold ri_getf at h
  obtain ⟨pc, lo, st0, hp, N', Z'⟩ := S
  rcases st0 with _ | ⟨x | (_ | a) | x, st0⟩
  · cases h
  · cases h
  · cases h
  · have h : (match ri_nth hp a with
      | some (.inl o) => cond (Nat.beq o.1 r.2.2.1) (match ri_nth o.2 r.2.2.2.1 with
        | some v => some [((Nat.add pc r.2.1, lo, v :: st0, hp, N', Z') : ri_S)]
        | none => none) none
      | _ => none) = some L := h
    rw [ri_nth_eq] at h
    cases ho : hp[a]? with
    | none => rw [ho] at h; cases h
    | some o =>
      rw [ho] at h
      rcases o with o | o
      · have h : cond (Nat.beq o.1 r.2.2.1) (match ri_nth o.2 r.2.2.2.1 with
          | some v => some [((Nat.add pc r.2.1, lo, v :: st0, hp, N', Z') : ri_S)]
          | none => none) none = some L := h
        obtain ⟨c1, h⟩ := ri_cond h rfl
        have c1 := Nat.eq_of_beq_eq_true c1
        rw [ri_nth_eq] at h
        cases hv : o.2[r.2.2.2.1]? with
        | none => rw [hv] at h; cases h
        | some v =>
          rw [hv] at h
          cases h
          intro ws H locs ls st cells slots hH hP hD hS hL hst had hc hz
          have hqs := hst
          clear hst
          obtain ⟨w, st, rfl, gw, hst⟩ := ri_gS_cons hqs
          obtain ⟨q, e0, rfl, he, vs, rfl, hF⟩ := ri_cell hH gw ho
          obtain ⟨val, h1, h2⟩ := hF.2 _ _ hv
          rw [c1] at he
          refine va_get (Ts := gU) hx hb hts hin hown hK hP a he hc0 _ hk (hts _ hlink) (fun _ g => g) h1 hd ?_
          have := k _ (List.mem_singleton.mpr rfl) ws H locs ls (val :: st) cells slots hH hP hD hS hL ⟨h2, hst⟩ had hc hz
          rw [hl] at this
          exact this
      · cases h
  · cases h
theorem rs_putf (hx : p.tables.exec = Jvm.exec) (hb : c.code = cc) (hown : s.vm.findClass own = some m.cls) (hts : ∀ w ∈ gU, w.before args s = true) (hK : va_K D vwCl (ri_tys κ) s) (hE : ri_okE E τ) {idx N : Nat} {C : String} {T : u_T} {ty0 : Nat → FieldType} {ty : FieldType} (hl : r.2.1 = 3) (hc0 : vwCl[r.2.2.1]? = some (C, T, N)) (hin : ∀ w ∈ u_ws C T N, w ∈ gU) (hty : ∀ k, k < N → parseFieldDescriptor (T k).2.2.1 = some (ty0 k)) (hnm : ∀ a, a < N → ∀ b, b < N → a ≠ b → (T a).2.1 ≠ (T b).2.1) (hk : r.2.2.2.1 < N) (hd0 : parseFieldDescriptor (T r.2.2.2.1).2.2.1 = some ty) (hft : ri_fty r.2.2.2.2 ty) (hfin : (T r.2.2.2.1).2.2.2 = false ∨ ((T r.2.2.2.1).2.2.2 = true ∧ meth.name = "<init>" ∧ (T r.2.2.2.1).1 = own)) (hlink : Cond.fieldLink own idx (T r.2.2.2.1).1 (T r.2.2.2.1).2.1 (T r.2.2.2.1).2.2.1 ∈ gU) (hd : decode cc S.1 = .ok (.putfield idx, 3)) (h : ri_putf E r S = some L) (k : ∀ S' ∈ L, ri_At p l e R s m args below meth c nL n0 z0 τ κ D A H0 ad0 Q S') : ri_At p l e R s m args below meth c nL n0 z0 τ κ D A H0 ad0 Q S := by
  unfold ri_putf at h
  obtain ⟨pc, lo, st0, hp, N', Z'⟩ := S
  rcases st0 with _ | ⟨v, _ | ⟨x | (_ | a) | x, st0⟩⟩
  · cases h
  · cases h
  · cases h
  · cases h
  · have h : (match ri_nth hp a with
      | some (.inl o) => cond (Nat.beq o.1 r.2.2.1) (cond (Nat.blt r.2.2.2.1 (ri_len o.2)) (cond (ri_fit E (Int.toNat r.2.2.2.2) v) (some [((Nat.add pc r.2.1, lo, st0, ri_set (.inl (o.1, ri_set v o.2 r.2.2.2.1)) hp a, N', Z') : ri_S)]) none) none) none
      | _ => none) = some L := h
    rw [ri_nth_eq] at h
    cases ho : hp[a]? with
    | none => rw [ho] at h; cases h
    | some o =>
      rw [ho] at h
      rcases o with o | o
      · have h : cond (Nat.beq o.1 r.2.2.1) (cond (Nat.blt r.2.2.2.1 (ri_len o.2)) (cond (ri_fit E (Int.toNat r.2.2.2.2) v) (some [((Nat.add pc r.2.1, lo, st0, ri_set (.inl (o.1, ri_set v o.2 r.2.2.2.1)) hp a, N', Z') : ri_S)]) none) none) none = some L := h
        obtain ⟨c1, h⟩ := ri_cond h rfl
        obtain ⟨c2, h⟩ := ri_cond h rfl
        obtain ⟨c3, h⟩ := ri_cond h rfl
        cases h
        have c1 := Nat.eq_of_beq_eq_true c1
        rw [ri_len_eq] at c2
        have c2 : r.2.2.2.1 < o.2.length := Nat.le_of_ble_eq_true c2
        intro ws H locs ls st cells slots hH hP hD hS hL hst had hc hz
        have hqs := hst
        clear hst
        obtain ⟨val, st, rfl, gv, hst⟩ := ri_gS_cons hqs
        have hqs := hst
        clear hst
        obtain ⟨w, st, rfl, gw, hst⟩ := ri_gS_cons hqs
        obtain ⟨q, e0, rfl, he, vs, rfl, hF⟩ := ri_cell hH gw ho
        obtain ⟨hn, hf⟩ := ri_fit_ok hE c3 gv hft
        have he2 := he
        rw [c1] at he
        have fin : ∀ (H1 : Heap) (locs1 : List Loc), va_P D vwCl (ws.set a (q, .inr (r.2.2.1, vs.set r.2.2.2.1 val))) H1 → va_D A (ws.set a (q, .inr (r.2.2.1, vs.set r.2.2.2.1 val))) → va_S A H0 H1 locs1 → W p l e R s m args below meth c H1 locs1 cells slots Q (F0 m (pc + 3) ls st) := fun H1 locs1 hP1 hD1 hS1 => by
          have ead := ri_ad_set (e' := .inr (r.2.2.1, vs.set r.2.2.2.1 val)) he
          have := k _ (List.mem_singleton.mpr rfl) (ws.set a (q, .inr (r.2.2.1, vs.set r.2.2.2.1 val))) H1 locs1 ls st cells slots (by
            show ri_gH τ κ (ri_set _ hp a) _
            rw [ri_set_eq]
            exact ri_gH_set hH he (c' := .inl (o.1, ri_set v o.2 r.2.2.2.1)) ⟨_, by rw [c1], by
              show ri_gF τ (ri_ad ws) (ri_set v o.2 r.2.2.2.1) _
              rw [ri_set_eq]
              exact ri_gF_set hF _ gv⟩) hP1 hD1 hS1 (by rw [ead]; exact hL) (by rw [ead]; exact hst) (by rw [ead]; exact had) hc hz
          rw [hl] at this
          exact this
        rcases hfin with hfin | ⟨hfin, hini, hdecl⟩
        · exact va_put (Ts := gU) hx hb hts hin ty0 hty hnm hown hK hP hD hS a he hc0 _ hk (hts _ hlink) (fun _ g => g) hfin hd0 hn hf (by rw [hF.1]; exact c2) hd fin
        · exact va_putF (Ts := gU) hx hb hts hin ty0 hty hnm hown hK hP hD hS a he hc0 _ hk (hts _ hlink) (fun _ g => g) hfin hini hdecl hd0 hn hf (by rw [hF.1]; exact c2) hd fin
      · cases h
  · cases h
theorem rs_alen (hx : p.tables.exec = Jvm.exec) (hb : c.code = cc) (hK : va_K D vwCl (ri_tys κ) s) (hl : r.2.1 = 1) (hd : decode cc S.1 = .ok (.arraylength, 1)) (h : ri_alen r S = some L) (k : ∀ S' ∈ L, ri_At p l e R s m args below meth c nL n0 z0 τ κ D A H0 ad0 Q S') : ri_At p l e R s m args below meth c nL n0 z0 τ κ D A H0 ad0 Q S := by
  unfold ri_alen at h
  obtain ⟨pc, lo, st0, hp, N', Z'⟩ := S
  rcases st0 with _ | ⟨x | (_ | a) | x, st0⟩
  · cases h
  · cases h
  · cases h
  · have h : (match ri_nth hp a with
      | some (.inr o) => cond (Nat.blt (ri_len o.2) 2147483648) (some [((Nat.add pc r.2.1, lo, .inl (0, .ofNat (ri_len o.2), .ofNat (ri_len o.2)) :: st0, hp, N', Z') : ri_S)]) none
      | _ => none) = some L := h
    rw [ri_nth_eq] at h
    cases ho : hp[a]? with
    | none => rw [ho] at h; cases h
    | some o =>
      rw [ho] at h
      rcases o with o | o
      · cases h
      · have h : cond (Nat.blt (ri_len o.2) 2147483648) (some [((Nat.add pc r.2.1, lo, .inl (0, .ofNat (ri_len o.2), .ofNat (ri_len o.2)) :: st0, hp, N', Z') : ri_S)]) none = some L := h
        obtain ⟨c1, h⟩ := ri_cond h rfl
        cases h
        rw [ri_len_eq] at c1
        have hsz : o.2.length < 2147483648 := Nat.le_of_ble_eq_true c1
        intro ws H locs ls st cells slots hH hP hD hS hL hst had hc hz
        have hqs := hst
        clear hst
        obtain ⟨w, st, rfl, gw, hst⟩ := ri_gS_cons hqs
        obtain ⟨q, e0, rfl, he, ht7, hA0⟩ := ri_cell hH gw ho
        obtain ⟨x, rfl, ex⟩ := ri_gA_len hA0
        refine va_alen hx hb hK hP a o.1 he (ri_tys_at κ ht7) rfl hd ?_
        have hv : (Int32.ofNat x.1).toInt = (o.2.length : Int) := by
          rw [ex, Int32.toInt_ofNat_of_lt hsz]
        have := k _ (List.mem_singleton.mpr rfl) ws H locs ls (.int (Int32.ofNat x.1) :: st) cells slots hH hP hD hS hL ⟨⟨_, rfl, ri_gI_0.mpr (by
          show ((ri_len o.2 : Nat) : Int) ≤ _ ∧ _ ≤ ((ri_len o.2 : Nat) : Int)
          rw [ri_len_eq]
          omega)⟩, hst⟩ had hc hz
        rw [hl] at this
        exact this
  · cases h
theorem rs_ald {t1 t2 : Nat} (hE : ri_okE E τ) (hi : ∀ {ws : va_W} {H : Heap} {locs : List Loc} {cells slots : Nat} {ls : Array Slot} {rest : List Value} {t a q : Nat} {es : List ri_V} {e0 : va_E} {u : Int32}, t1 ≤ t → t ≤ t2 → va_P D vwCl ws H → ws[a]? = some (q, e0) → ri_gA τ (ri_ad ws) κ t es e0 → vp_in u es.length → (∀ w, es[u.toNatClampNeg]? = some w → ∀ val, ri_gV τ (ri_ad ws) w val → W p l e R s m args below meth c H locs cells slots Q (F0 m (S.1 + r.2.1) ls (val :: rest))) → W p l e R s m args below meth c H locs cells slots Q (F0 m S.1 ls (.int u :: .ref q :: rest))) (h : ri_ald E t1 t2 r S = some L) (k : ∀ S' ∈ L, ri_At p l e R s m args below meth c nL n0 z0 τ κ D A H0 ad0 Q S') : ri_At p l e R s m args below meth c nL n0 z0 τ κ D A H0 ad0 Q S := by
  unfold ri_ald at h
  obtain ⟨pc, lo, st0, hp, N', Z'⟩ := S
  rcases st0 with _ | ⟨x | x, _ | ⟨y | (_ | a) | y, st0⟩⟩
  all_goals first | (cases h; done) | skip
  have h : (match ri_nth hp a with
    | some (.inr o) => cond (Nat.ble t1 o.1) (cond (Nat.ble o.1 t2) (match ri_elem E x o.2 with
      | some v => some [((Nat.add pc r.2.1, lo, v :: st0, hp, N', Z') : ri_S)]
      | none => none) none) none
    | _ => none) = some L := h
  rw [ri_nth_eq] at h
  cases ho : hp[a]? with
  | none => rw [ho] at h; cases h
  | some o =>
    rw [ho] at h
    rcases o with o | o
    · cases h
    · have h : cond (Nat.ble t1 o.1) (cond (Nat.ble o.1 t2) (match ri_elem E x o.2 with
        | some v => some [((Nat.add pc r.2.1, lo, v :: st0, hp, N', Z') : ri_S)]
        | none => none) none) none = some L := h
      obtain ⟨c1, h⟩ := ri_cond h rfl
      obtain ⟨c2, h⟩ := ri_cond h rfl
      cases hv : ri_elem E x o.2 with
      | none => rw [hv] at h; cases h
      | some v =>
        rw [hv] at h
        cases h
        intro ws H locs ls st cells slots hH hP hD hS hL hst had hc hz
        have hqs := hst
        clear hst
        obtain ⟨_, st, rfl, ⟨u, rfl, gu⟩, hst⟩ := ri_gS_cons hqs
        have hqs := hst
        clear hst
        obtain ⟨w, st, rfl, gw, hst⟩ := ri_gS_cons hqs
        obtain ⟨q, e0, rfl, he, ht7, hA0⟩ := ri_cell hH gw ho
        obtain ⟨g1, w', g2, g3⟩ := ri_elem_ok hE hv gu
        refine hi (Nat.le_of_ble_eq_true c1) (Nat.le_of_ble_eq_true c2) hP he hA0 g1 (fun w2 hw2 val gval => ?_)
        have e2 : w' = w2 := Option.some.inj (g2.symm.trans hw2)
        subst e2
        exact k _ (List.mem_singleton.mpr rfl) ws H locs ls (val :: st) cells slots hH hP hD hS hL ⟨g3 _ _ gval, hst⟩ had hc hz
theorem rs_iald (hx : p.tables.exec = Jvm.exec) (hb : c.code = cc) (hK : va_K D vwCl (ri_tys κ) s) (hE : ri_okE E τ) (hl : r.2.1 = 1) (hd : decode cc S.1 = .ok (.iaload, 1)) (h : ri_ald E 0 0 r S = some L) (k : ∀ S' ∈ L, ri_At p l e R s m args below meth c nL n0 z0 τ κ D A H0 ad0 Q S') : ri_At p l e R s m args below meth c nL n0 z0 τ κ D A H0 ad0 Q S := by
  refine rs_ald hE ?_ h k
  intro ws H locs cells slots ls rest t a q es e0 u h1 h2 hP he hA0 hin kk
  obtain rfl : t = 0 := by omega
  obtain ⟨f, rfl, hf⟩ := hA0
  refine va_iald hx hb hK hP a 0 he rfl hin hd ?_
  have hlt : u.toNatClampNeg < es.length := Nat.not_le.mp fun q => hin (Or.inr q)
  have := kk _ (List.getElem?_eq_getElem hlt) _ (hf _ _ (List.getElem?_eq_getElem hlt))
  rw [hl] at this
  exact this
theorem rs_bald (hx : p.tables.exec = Jvm.exec) (hb : c.code = cc) (hK : va_K D vwCl (ri_tys κ) s) (hE : ri_okE E τ) (hl : r.2.1 = 1) (hd : decode cc S.1 = .ok (.baload, 1)) (h : ri_ald E 1 2 r S = some L) (k : ∀ S' ∈ L, ri_At p l e R s m args below meth c nL n0 z0 τ κ D A H0 ad0 Q S') : ri_At p l e R s m args below meth c nL n0 z0 τ κ D A H0 ad0 Q S := by
  refine rs_ald hE ?_ h k
  intro ws H locs cells slots ls rest t a q es e0 u h1 h2 hP he hA0 hin kk
  have hlt : u.toNatClampNeg < es.length := Nat.not_le.mp fun q => hin (Or.inr q)
  rcases (show t = 1 ∨ t = 2 by omega) with rfl | rfl
  · obtain ⟨f, rfl, hf⟩ := hA0
    refine va_zald hx hb hK hP a 1 he rfl hin hd ?_
    have := kk _ (List.getElem?_eq_getElem hlt) _ (hf _ _ (List.getElem?_eq_getElem hlt))
    rw [hl] at this
    exact this
  · obtain ⟨f, rfl, hf⟩ := hA0
    refine va_bald hx hb hK hP a 2 he rfl hin hd ?_
    have := kk _ (List.getElem?_eq_getElem hlt) _ (hf _ _ (List.getElem?_eq_getElem hlt))
    rw [hl] at this
    exact this
theorem rs_aald (hx : p.tables.exec = Jvm.exec) (hb : c.code = cc) (hK : va_K D vwCl (ri_tys κ) s) (hE : ri_okE E τ) (hl : r.2.1 = 1) (hd : decode cc S.1 = .ok (.aaload, 1)) (h : ri_ald E 4 7 r S = some L) (k : ∀ S' ∈ L, ri_At p l e R s m args below meth c nL n0 z0 τ κ D A H0 ad0 Q S') : ri_At p l e R s m args below meth c nL n0 z0 τ κ D A H0 ad0 Q S := by
  refine rs_ald hE ?_ h k
  intro ws H locs cells slots ls rest t a q es e0 u h1 h2 hP he hA0 hin kk
  have hlt : u.toNatClampNeg < es.length := Nat.not_le.mp fun q => hin (Or.inr q)
  obtain ⟨f, rfl, hf⟩ := (ri_gA_r h1).mp hA0
  have ht := ri_tys_at κ h2
  have href : (ri_ty t).isReference = true := by
    rcases (show t = 4 ∨ t = 5 ∨ t = 6 ∨ t = 7 by omega) with rfl | rfl | rfl | rfl <;> rfl
  refine W.aald (v := va_rf (f u.toNatClampNeg)) (ty := ri_ty t) hx hb (hP a _ he) ((hK.2 t _ ht).1 es.length (fun j => va_rf (f j))) href (fun q => by cases q) (by show ¬ (u < 0 ∨ (arrV _ _ _).slots.size ≤ _); rw [arrV_size]; exact hin) (by show (arrV _ _ _).slots[_]? = _; rw [arrV_read _ _ hlt]) rfl rfl hd ?_
  have := kk _ (List.getElem?_eq_getElem hlt) _ (hf _ _ (List.getElem?_eq_getElem hlt))
  rw [hl] at this
  exact this
end RI9
