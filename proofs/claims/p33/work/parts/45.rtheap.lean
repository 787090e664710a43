/-! Cells: their slots, what a store leaves -/
theorem rt_sg_tot : ∀ {l : List (Nat × rt_F)} {k : Nat}, k < rt_tot l → ∃ f, rt_sg l k = some f
  | [], k, h => by
    have h : k < 0 := h
    omega
  | q :: l, k, h => by
    have h : k < q.1 + rt_tot l := h
    show ∃ f, cond (Nat.blt k q.1) (some q.2) (rt_sg l (k - q.1)) = some f
    cases c : Nat.blt k q.1 with
    | true => exact ⟨_, rfl⟩
    | false =>
      have : ¬ k < q.1 := fun g => by
        have : Nat.blt k q.1 = true := Nat.ble_eq.mpr g
        rw [this] at c
        cases c
      exact rt_sg_tot (l := l) (by omega)
theorem rt_blt {a b : Nat} : Nat.blt a b = true ↔ a < b := by
  show Nat.ble (a + 1) b = true ↔ _
  rw [Nat.ble_eq]
  exact Iff.rfl
theorem rt_bltf {a b : Nat} (h : Nat.blt a b = false) : ¬ a < b := fun g => by
  rw [rt_blt.mpr g] at h
  cases h
theorem rt_sg_lt : ∀ {l : List (Nat × rt_F)} {k : Nat} {f : rt_F}, rt_sg l k = some f → k < rt_tot l
  | [], k, f, h => by cases h
  | q :: l, k, f, h => by
    have h : cond (Nat.blt k q.1) (some q.2) (rt_sg l (k - q.1)) = some f := h
    show k < q.1 + rt_tot l
    cases c : Nat.blt k q.1 with
    | true =>
      have := rt_blt.mp c
      omega
    | false =>
      rw [c, cond_false] at h
      have := rt_sg_lt h
      have := rt_bltf c
      omega
theorem rt_cov_mem : ∀ {l : List (Nat × rt_F)} {i j k : Nat} {f : rt_F}, rt_sg l k = some f → i ≤ k → k ≤ j → f ∈ rt_cov l i j
  | [], i, j, k, f, h, _, _ => by cases h
  | q :: l, i, j, k, f, h, h1, h2 => by
    have h : cond (Nat.blt k q.1) (some q.2) (rt_sg l (k - q.1)) = some f := h
    show f ∈ cond (Nat.blt i q.1) (q.2 :: cond (Nat.blt j q.1) [] (rt_cov l 0 (j - q.1))) (rt_cov l (i - q.1) (j - q.1))
    cases c : Nat.blt k q.1 with
    | true =>
      rw [c] at h
      cases h
      have := rt_blt.mp c
      rw [rt_blt.mpr (show i < q.1 by omega), cond_true]
      exact List.mem_cons_self
    | false =>
      rw [c, cond_false] at h
      have ck := rt_bltf c
      cases ci : Nat.blt i q.1 with
      | true =>
        rw [cond_true]
        cases cj : Nat.blt j q.1 with
        | true =>
          have := rt_blt.mp cj
          omega
        | false => exact List.mem_cons_of_mem _ (rt_cov_mem h (by omega) (by omega))
      | false =>
        have := rt_bltf ci
        exact rt_cov_mem h (by omega) (by omega)
section RT45
variable {E : List rt_B} {τ τ' : List Int} {ν ν' : List Nat} {lm lm' : List Int64} {K ad : List Nat} {ws ws0 : va_W} {KK : List (List rt_K)} {κ : Nat → ClassId} {Φ : Nat → Int → va_W → Prop} {t0 : Int} {g s : Nat}
theorem rt_hu_ok {T U W : rt_T} (h : rt_hu T U = some W) {v : Value} (hv : rt_gT K ad T v ∨ rt_gT K ad U v) : rt_gT K ad W v := by
  rcases T with a | k | b
  · rcases U with b | U
    · cases h
      rcases hv with ⟨z, e, h1, h2⟩ | ⟨z, e, h1, h2⟩
      · exact ⟨z, e, rt_min_le.mpr (Or.inl h1), rt_le_max.mpr (Or.inl h2)⟩
      · exact ⟨z, e, rt_min_le.mpr (Or.inr h1), rt_le_max.mpr (Or.inr h2)⟩
    · cases h
  · rcases U with b | j | b
    · cases h
    · have h : cond (Nat.beq k j) (some (.inr (.inl k))) none = some W := h
      obtain ⟨c1, h⟩ := ri_cond h rfl
      cases h
      have e := Nat.eq_of_beq_eq_true c1
      subst e
      exact hv.elim id id
    · cases h
  · cases b with
    | true =>
      rcases U with b | j | b
      · cases h
      · cases h
      · cases b with
        | true =>
          cases h
          exact hv.elim id id
        | false => cases h
    | false =>
      cases h
      trivial
theorem rt_hull_ok : ∀ {l : List rt_F} {T : rt_T}, rt_hull l = some T → ∀ f ∈ l, ∀ v, rt_gT K ad f.2 v → rt_gT K ad T v
  | [], T, h, f, hf, v, hv => by cases hf
  | [q], T, h, f, hf, v, hv => by
    cases h
    cases List.mem_singleton.mp hf
    exact hv
  | q :: r :: t, T, h, f, hf, v, hv => by
    have h : (match rt_hull (r :: t) with
      | none => none
      | some U => rt_hu q.2 U) = some T := h
    cases hU : rt_hull (r :: t) with
    | none => rw [hU] at h; cases h
    | some U =>
      rw [hU] at h
      rcases List.mem_cons.mp hf with rfl | hf
      · exact rt_hu_ok h (Or.inl hv)
      · exact rt_hu_ok h (Or.inr (rt_hull_ok hU f hf v hv))
theorem rt_is_ok (hE : rt_okE E τ lm) {a : rt_V} {T : rt_T} (h : rt_is E a T = true) {v : Value} (hv : rt_gV τ ν lm K ad a v) : rt_gT K ad T v := by
  rcases T with b | k | b
  · rcases a with x | x
    · have h : (match rt_abs E x with
        | some c => cond (ri_le b.1 c.1) (ri_le c.2 b.2) false
        | none => false) = true := h
      cases hx : rt_abs E x with
      | none => rw [hx] at h; cases h
      | some c =>
        rw [hx] at h
        have h : cond (ri_le b.1 c.1) (ri_le c.2 b.2) false = true := h
        cases c1 : ri_le b.1 c.1 with
        | false => rw [c1] at h; cases h
        | true =>
          rw [c1] at h
          have c1 := ri_le_iff.mp c1
          have c2 := ri_le_iff.mp h
          obtain ⟨z, rfl, hz⟩ := hv
          have := rt_abs_ok hE hx hz
          exact ⟨z, rfl, by omega, by omega⟩
    · cases h
  · rcases a with x | q | x
    · cases h
    · have e := Nat.eq_of_beq_eq_true h
      obtain ⟨p, rfl, hk, -⟩ := hv
      rw [e] at hk
      exact ⟨p, rfl, hk⟩
    · cases h
  · cases b with
    | true =>
      rcases a with x | q | _ | t
      · cases h
      · cases h
      · cases h
      · obtain ⟨z, rfl, -⟩ := hv
        exact ⟨z, rfl⟩
    | false => trivial
theorem rt_may_ok {a : rt_V} : ∀ {l : List rt_F}, rt_may E a l = true → ∀ f ∈ l, f.1 = 0 ∧ rt_is E a f.2 = true
  | [], _, f, hf => by cases hf
  | q :: l, h, f, hf => by
    have h : cond (Nat.beq q.1 0) (cond (rt_is E a q.2) (rt_may E a l) false) false = true := h
    cases c1 : Nat.beq q.1 0 with
    | false => rw [c1] at h; cases h
    | true =>
      cases c2 : rt_is E a q.2 with
      | false => rw [c1, c2] at h; cases h
      | true =>
        rw [c1, c2] at h
        rcases List.mem_cons.mp hf with rfl | hf
        · exact ⟨Nat.eq_of_beq_eq_true c1, c2⟩
        · exact rt_may_ok h f hf
/-- the cell of a reference -/
theorem rt_cell (hcx : rt_ctx KK K ad Φ) (hh : rt_hp KK κ K ad ws0 Φ t0 g s ws) {q k : Nat} (hk : rt_hk K ad q k) : ∃ (i : Nat) (e : va_E) (kd : rt_K), ws[i]? = some (q, e) ∧ K[i]? = some k ∧ rt_kd KK g k = some kd ∧ rt_gC κ K ad kd e := by
  obtain ⟨i, h1, h2⟩ := hk
  obtain ⟨had, hH, -⟩ := hh
  obtain ⟨q', e, kd, e1, e2, e3⟩ := hH i k h2
  have e4 := ri_ad_at e1
  rw [had] at e4
  have : q' = q := Option.some.inj (e4.symm.trans h1)
  subst this
  exact ⟨i, e, kd, e1, h2, e2, e3⟩
theorem rt_ad_idx (hcx : rt_ctx KK K ad Φ) (had : ri_ad ws = ad) {q k i : Nat} {e : va_E} (hk : rt_hk K ad q k) (hw : ws[i]? = some (q, e)) : K[i]? = some k := by
  obtain ⟨j, h1, h2⟩ := hk
  have e4 := ri_ad_at hw
  rw [had] at e4
  rw [hcx.2 i j q e4 h1]
  exact h2
theorem rt_hp_set (hcx : rt_ctx KK K ad Φ) (hh : rt_hp KK κ K ad ws0 Φ t0 g s ws) {k0 k q j : Nat} {e e' : va_E} {kd : rt_K} {f : rt_F} {v : Value} (hK : K[k0]? = some k) (hw : ws[k0]? = some (q, e)) (hkd : rt_kd KK g k = some kd) (hf : rt_sT kd j = some f) (h0 : f.1 = 0) (hs : rt_shp κ kd e') (hj : rt_sl e' j = some v) (hv : rt_gT K ad f.2 v) (ho : ∀ i, i ≠ j → rt_sl e' i = rt_sl e i) : rt_hp KK κ K ad ws0 Φ t0 g s (ws.set k0 (q, e')) := by
  obtain ⟨had, hH, hA, hF⟩ := hh
  have had' : ri_ad (ws.set k0 (q, e')) = ad := by rw [ri_ad_set hw]; exact had
  have hk0 := (List.getElem?_eq_some_iff.mp hw).1
  have at0 : (ws.set k0 (q, e'))[k0]? = some (q, e') := by rw [List.getElem?_set, if_pos rfl, if_pos hk0]
  have atn : ∀ i, k0 ≠ i → (ws.set k0 (q, e'))[i]? = ws[i]? := fun i hi => by rw [List.getElem?_set, if_neg hi]
  refine ⟨had', fun i k' hi => ?_, fun i k' j' kd' f' hi hkd' hf' hfl => ?_, hcx.1 g _ ws _ had had' (fun i k' j' kd' f' hi hkd' hf' hfl => ?_) hF⟩
  · by_cases ei : k0 = i
    · subst ei
      have : k' = k := Option.some.inj (hi.symm.trans hK)
      subst this
      obtain ⟨q1, e1, kd1, a1, a2, a3⟩ := hH k0 k' hi
      have e0 := Option.some.inj (a1.symm.trans hw)
      cases e0
      have : kd1 = kd := Option.some.inj (a2.symm.trans hkd)
      subst this
      refine ⟨q, e', kd1, at0, hkd, hs, fun i f' hf' => ?_⟩
      by_cases ej : i = j
      · subst ej
        have : f' = f := Option.some.inj (hf'.symm.trans hf)
        subst this
        exact ⟨v, hj, hv⟩
      · obtain ⟨w, b1, b2⟩ := a3.2 i f' hf'
        exact ⟨w, by rw [ho i ej]; exact b1, b2⟩
    · rw [atn i ei]
      exact hH i k' hi
  · obtain ⟨q1, q0, e1, e0, a1, a2, a3⟩ := hA i k' j' kd' f' hi hkd' hf' hfl
    by_cases ei : k0 = i
    · subst ei
      have c0 := Option.some.inj (a1.symm.trans hw)
      cases c0
      have : k' = k := Option.some.inj (hi.symm.trans hK)
      subst this
      have : kd' = kd := Option.some.inj (hkd'.symm.trans hkd)
      subst this
      have ej : j' ≠ j := fun ej => by
        subst ej
        have : f' = f := Option.some.inj (hf'.symm.trans hf)
        subst this
        have hfl : f'.1 = 1 := hfl
        omega
      exact ⟨q, q0, e', e0, at0, a2, by rw [ho j' ej]; exact a3⟩
    · exact ⟨q1, q0, e1, e0, by rw [atn i ei]; exact a1, a2, a3⟩
  · obtain ⟨q1, e1, kd1, a1, a2, a3⟩ := hH i k' hi
    by_cases ei : k0 = i
    · subst ei
      have c0 := Option.some.inj (a1.symm.trans hw)
      cases c0
      have : k' = k := Option.some.inj (hi.symm.trans hK)
      subst this
      have : kd' = kd := Option.some.inj (hkd'.symm.trans hkd)
      subst this
      have ej : j' ≠ j := fun ej => by
        subst ej
        have : f' = f := Option.some.inj (hf'.symm.trans hf)
        subst this
        exact hfl h0
      exact ⟨q, q, e', e, at0, hw, ho j' ej⟩
    · exact ⟨q1, q1, e1, e1, by rw [atn i ei]; exact a1, a1, rfl⟩
theorem rt_fil_mem {f : rt_O → Bool} : ∀ {l : List rt_O} {o : rt_O}, o ∈ rt_fil f l → o ∈ l ∧ f o = true
  | [], o, h => by cases h
  | q :: l, o, h => by
    have h : o ∈ cond (f q) (q :: rt_fil f l) (rt_fil f l) := h
    cases c : f q with
    | true =>
      rw [c] at h
      rcases List.mem_cons.mp h with rfl | h
      · exact ⟨List.mem_cons_self, c⟩
      · obtain ⟨a, b⟩ := rt_fil_mem h
        exact ⟨List.mem_cons_of_mem _ a, b⟩
    | false =>
      rw [c] at h
      obtain ⟨a, b⟩ := rt_fil_mem h
      exact ⟨List.mem_cons_of_mem _ a, b⟩
/-- entries that a store leaves as they are -/
theorem rt_gO_set (hcx : rt_ctx KK K ad Φ) (had : ri_ad ws = ad) {R : List Nat} (hR : rt_okR K ad R ν) {k0 k q j : Nat} {e e' : va_E} (hK : K[k0]? = some k) (hw : ws[k0]? = some (q, e)) (ho : ∀ i, i ≠ j → rt_sl e' i = rt_sl e i) {sel : Nat × Int} (hj : sel.1 = 0 → sel.2 = (j : Int)) {o : rt_O} (hg : rt_gO τ ν lm K ad ws o) (h : rt_outl R k sel o = true) : rt_gO τ ν lm K ad (ws.set k0 (q, e')) o := by
  obtain ⟨jn, qn, i, ei, b, v, e1, e2, e3, e4, e5, e6, e7⟩ := hg
  have hk0 := (List.getElem?_eq_some_iff.mp hw).1
  by_cases c0 : k0 = i
  · subst c0
    have c1 := Option.some.inj (e3.symm.trans hw)
    cases c1
    refine ⟨jn, q, k0, e', b, v, e1, e2, by rw [List.getElem?_set, if_pos rfl, if_pos hk0], e4, e5, ?_, e7⟩
    unfold rt_outl at h
    rw [e1] at h
    have h : (match ri_nth R jn with
      | none => false
      | some k' => cond (Nat.beq k' k) (cond (Nat.beq o.2.1.1 0) (cond (Nat.beq sel.1 0) (cond (ri_le o.2.1.2 sel.2) (cond (ri_le sel.2 o.2.1.2) false true) true) false) false) true) = true := h
    rw [ri_nth_eq] at h
    cases hR0 : R[jn]? with
    | none => rw [hR0] at h; cases h
    | some k' =>
      rw [hR0] at h
      have h : cond (Nat.beq k' k) (cond (Nat.beq o.2.1.1 0) (cond (Nat.beq sel.1 0) (cond (ri_le o.2.1.2 sel.2) (cond (ri_le sel.2 o.2.1.2) false true) true) false) false) true = true := h
      obtain ⟨qq, f1, f2⟩ := hR.2 jn k' hR0
      have : qq = q := Option.some.inj (f1.symm.trans e2)
      subst this
      have hk' := rt_ad_idx hcx had f2 hw
      have : k' = k := Option.some.inj (hk'.symm.trans hK)
      subst this
      have cb : Nat.beq k' k' = true := Nat.beq_refl k'
      rw [cb, cond_true] at h
      cases d1 : Nat.beq o.2.1.1 0 with
      | false => rw [d1] at h; cases h
      | true =>
        cases d2 : Nat.beq sel.1 0 with
        | false => rw [d1, d2] at h; cases h
        | true =>
          rw [d1, d2] at h
          have d1 := Nat.eq_of_beq_eq_true d1
          have d2 := hj (Nat.eq_of_beq_eq_true d2)
          rw [d1] at e4
          cases e4
          have hne : ¬ (0 + o.2.1.2).toNat = j := by
            intro hc
            have hh : o.2.1.2 = sel.2 := by
              rw [d2]
              omega
            rw [hh] at h
            have l1 : ri_le sel.2 sel.2 = true := ri_le_iff.mpr (Int.le_refl _)
            rw [l1] at h
            cases h
          rw [ho _ hne]
          exact e6
  · exact ⟨jn, qn, i, ei, b, v, e1, e2, by rw [List.getElem?_set, if_neg c0]; exact e3, e4, e5, e6, e7⟩
theorem rt_gO_oth (hcx : rt_ctx KK K ad Φ) (had : ri_ad ws = ad) {R : List Nat} (hR : rt_okR K ad R ν) {k0 k q : Nat} {e e' : va_E} (hK : K[k0]? = some k) (hw : ws[k0]? = some (q, e)) {o : rt_O} (hg : rt_gO τ ν lm K ad ws o) (h : rt_oth R k o = true) : rt_gO τ ν lm K ad (ws.set k0 (q, e')) o := by
  obtain ⟨jn, qn, i, ei, b, v, e1, e2, e3, e4, e5, e6, e7⟩ := hg
  by_cases c0 : k0 = i
  · subst c0
    have c1 := Option.some.inj (e3.symm.trans hw)
    cases c1
    unfold rt_oth at h
    rw [e1] at h
    have h : (match ri_nth R jn with
      | none => false
      | some k' => cond (Nat.beq k' k) false true) = true := h
    rw [ri_nth_eq] at h
    cases hR0 : R[jn]? with
    | none => rw [hR0] at h; cases h
    | some k' =>
      rw [hR0] at h
      obtain ⟨qq, f1, f2⟩ := hR.2 jn k' hR0
      have : qq = q := Option.some.inj (f1.symm.trans e2)
      subst this
      have hk' := rt_ad_idx hcx had f2 hw
      have : k' = k := Option.some.inj (hk'.symm.trans hK)
      subst this
      have h : cond (Nat.beq k' k') false true = true := h
      rw [Nat.beq_refl k'] at h
      cases h
  · exact ⟨jn, qn, i, ei, b, v, e1, e2, by rw [List.getElem?_set, if_neg c0]; exact e3, e4, e5, e6, e7⟩
/-- what the overlay says holds -/
theorem rt_seq_ok {p q : Nat × Int} (h : rt_seq p q = true) : p = q := by
  unfold rt_seq at h
  cases c1 : Nat.beq p.1 q.1 with
  | false => rw [c1] at h; cases h
  | true =>
    cases c2 : ri_le p.2 q.2 with
    | false => rw [c1, c2] at h; cases h
    | true =>
      rw [c1, c2] at h
      have c1 := Nat.eq_of_beq_eq_true c1
      have c2 := ri_le_iff.mp c2
      have c3 := ri_le_iff.mp h
      exact Prod.ext c1 (by omega)
theorem rt_og_mem {nm : Nat} {sel : Nat × Int} {v : rt_V} : ∀ {ov : List rt_O}, rt_og ov nm sel = some v → (nm, sel, v) ∈ ov := by
  intro ov h
  unfold rt_og at h
  cases nm with
  | zero => cases h
  | succ k =>
    induction ov with
    | nil => cases h
    | cons o t ih =>
      have h : cond (Nat.beq o.1 (k + 1)) (cond (rt_seq o.2.1 sel) (some o.2.2) (List.rec (motive := fun _ => Option rt_V) none (fun o _ ih => cond (Nat.beq o.1 (k + 1)) (cond (rt_seq o.2.1 sel) (some o.2.2) ih) ih) t)) (List.rec (motive := fun _ => Option rt_V) none (fun o _ ih => cond (Nat.beq o.1 (k + 1)) (cond (rt_seq o.2.1 sel) (some o.2.2) ih) ih) t) = some v := h
      cases c1 : Nat.beq o.1 (k + 1) with
      | false =>
        rw [c1] at h
        exact List.mem_cons_of_mem _ (ih h)
      | true =>
        cases c2 : rt_seq o.2.1 sel with
        | false =>
          rw [c1, c2] at h
          exact List.mem_cons_of_mem _ (ih h)
        | true =>
          rw [c1, c2] at h
          have e1 := Nat.eq_of_beq_eq_true c1
          have e2 := rt_seq_ok c2
          have e3 : o.2.2 = v := Option.some.inj h
          rw [← e1, ← e2, ← e3]
          exact List.mem_cons_self
end RT45
