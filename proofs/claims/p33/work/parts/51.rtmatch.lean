/-! Templates: a state that another one may be taken for -/
/-- the ints, names and longs that were found for a template's tags and names -/
abbrev rt_M : Type := List ri_I × List Nat × List Nat
noncomputable def rt_mrel (E : List rt_B) (e : rt_B) (y : ri_I) (mE : List ri_I) : Bool := match e.2.1.1 with
  | 0 => true
  | Nat.succ p => (match ri_nth mE p with
    | some w => rt_ge0 (rt_low E y w) e.2.1.2
    | none => false)
def rt_mpl (e : rt_B) : Bool := match e.2.2.1 with
  | none => (match e.2.2.2 with
    | none => true
    | some _ => false)
  | some _ => false
def rt_z0 (x : ri_I) : Bool := cond (ri_le x.2.1 0) (ri_le 0 x.2.2) false
noncomputable def rt_mI (E TE : List rt_B) (x y : ri_I) (m : rt_M) : Option rt_M := match x.1 with
  | 0 => (match rt_abs E y with
    | some b => cond (ri_le x.2.1 b.1) (cond (ri_le b.2 x.2.2) (some m) none) none
    | none => none)
  | Nat.succ k => cond (Nat.beq k (ri_len m.1)) (match ri_nth TE k with
    | some e => (match rt_abs E y with
      | some b => cond (rt_z0 x) (cond (ri_le e.1.1 b.1) (cond (ri_le b.2 e.1.2) (cond (rt_mpl e) (cond (rt_mrel E e y m.1) (some (List.append m.1 [y], m.2)) none) none) none) none) none
      | none => none)
    | none => none) (match ri_nth m.1 k with
    | some w => cond (rt_ge0 (rt_low E y w) x.2.1) (cond (rt_ge0 (rt_low E w y) (Int.neg x.2.2)) (some m) none) none
    | none => none)
noncomputable def rt_mR (TR : List Nat) (q p : Nat × Nat) (m : rt_M) : Option rt_M := cond (Nat.beq q.1 p.1) (match q.2 with
  | 0 => some m
  | Nat.succ j => cond (Nat.beq j (ri_len m.2.1)) (match ri_nth TR j with
    | some k => cond (Nat.beq k q.1) (some (m.1, List.append m.2.1 [p.2], m.2.2)) none
    | none => none) (match ri_nth m.2.1 j with
    | some w => cond (Nat.beq w p.2) (cond (Nat.beq w 0) none (some m)) none
    | none => none)) none
noncomputable def rt_mJ (t u : Nat) (m : rt_M) : Option rt_M := match t with
  | 0 => some m
  | Nat.succ j => cond (Nat.beq j (ri_len m.2.2)) (some (m.1, m.2.1, List.append m.2.2 [u])) (match ri_nth m.2.2 j with
    | some w => cond (Nat.beq w u) (cond (Nat.beq w 0) none (some m)) none
    | none => none)
noncomputable def rt_mV (E : List rt_B) (TN : rt_N) (t v : rt_V) (m : rt_M) : Option rt_M := match t with
  | .inl x => (match v with
    | .inl y => rt_mI E TN.1 x y m
    | .inr _ => none)
  | .inr (.inl q) => (match v with
    | .inr (.inl p) => rt_mR TN.2.1 q p m
    | _ => none)
  | .inr (.inr (some t)) => (match v with
    | .inr (.inr (some u)) => rt_mJ t u m
    | _ => none)
  | .inr (.inr none) => some m
noncomputable def rt_mL (E : List rt_B) (TN : rt_N) (tl : List (Option rt_V)) : List (Option rt_V) → rt_M → Option rt_M := List.rec (motive := fun _ => List (Option rt_V) → rt_M → Option rt_M) (fun _ m => some m) (fun t _ ih al m => match t with
  | none => ih (match al with
    | [] => []
    | _ :: r => r) m
  | some tv => (match al with
    | some av :: r => (match rt_mV E TN tv av m with
      | some m' => ih r m'
      | none => none)
    | _ => none)) tl
noncomputable def rt_mO (E : List rt_B) (TN : rt_N) (ov to : List rt_O) : rt_M → Option rt_M := List.rec (motive := fun _ => rt_M → Option rt_M) (fun m => some m) (fun o _ ih m => match o.1 with
  | 0 => none
  | Nat.succ j => (match ri_nth m.2.1 j with
    | none => none
    | some w => cond (Nat.beq o.2.1.1 0) (match rt_og ov w o.2.1 with
      | none => none
      | some v => (match rt_mV E TN o.2.2 v m with
        | some m' => ih m'
        | none => none)) none)) to
noncomputable def rt_noL (l : List (Option Int)) : Bool := List.rec (motive := fun _ => Bool) true (fun c _ ih => match c with
  | none => ih
  | some _ => false) l
/-- the values al and the overlay are as the template says -/
noncomputable def rt_mt (E : List rt_B) (ov : List rt_O) (al : List (Option rt_V)) (TN : rt_N) (tl : List (Option rt_V)) (to : List rt_O) : Option rt_M := match rt_mL E TN tl al ([], [], []) with
  | none => none
  | some m => (match rt_mO E TN ov to m with
    | none => none
    | some m' => cond (Nat.beq (ri_len m'.1) (ri_len TN.1)) (cond (Nat.beq (ri_len m'.2.1) (ri_len TN.2.1)) (cond (Nat.beq (ri_len m'.2.2) (ri_len TN.2.2)) (cond (rt_noL TN.2.2) (some m') none) none) none) none)
section RT51
variable {τ : List Int} {ν : List Nat} {lm : List Int64} {K ad : List Nat} {E : List rt_B} {TN : rt_N}
def rt_mg (K ad : List Nat) (τ : List Int) (ν : List Nat) (lm : List Int64) (TN : rt_N) (m : rt_M) (τ' : List Int) (ν' : List Nat) (lm' : List Int64) : Prop := (τ'.length = m.1.length ∧ (∀ (k : Nat) (y : ri_I), m.1[k]? = some y → ∃ z : Int32, τ'[k]? = some z.toInt ∧ rt_gI τ y z) ∧ ∀ (k : Nat) (e : rt_B) (b : Int), TN.1[k]? = some e → τ'[k]? = some b → rt_okB τ' lm' e b) ∧ (ν'.length = m.2.1.length ∧ (∀ (j w : Nat), m.2.1[j]? = some w → ∃ p, ν'[j]? = some p ∧ (w = 0 ∨ ∃ i, w = i + 1 ∧ ν[i]? = some p)) ∧ ∀ (j k p : Nat), TN.2.1[j]? = some k → ν'[j]? = some p → rt_hk K ad p k) ∧ (lm'.length = m.2.2.length ∧ ∀ (j w : Nat), m.2.2[j]? = some w → ∃ z, lm'[j]? = some z ∧ (w = 0 ∨ ∃ i, w = i + 1 ∧ lm[i]? = some z))
theorem rt_idx1 {α : Type} {l : List α} {a b : α} {k : Nat} (h : (l ++ [a])[k]? = some b) : l[k]? = some b ∨ (k = l.length ∧ b = a) := by
  rcases Nat.lt_or_ge k l.length with g | g
  · rw [List.getElem?_append_left g] at h
    exact Or.inl h
  · rw [List.getElem?_append_right g] at h
    have g1 : k - l.length < 1 := (List.getElem?_eq_some_iff.mp h).1
    have ek : k - l.length = 0 := by omega
    rw [ek] at h
    cases h
    exact Or.inr ⟨by omega, rfl⟩
theorem rt_mI_ok (hE : rt_okE E τ lm) {x y : ri_I} {m m' : rt_M} {τ' : List Int} {ν' : List Nat} {lm' : List Int64} (h : rt_mI E TN.1 x y m = some m') (hm : rt_mg K ad τ ν lm TN m τ' ν' lm') {z : Int32} (hz : rt_gI τ y z) : ∃ τ'', τ' <+: τ'' ∧ rt_mg K ad τ ν lm TN m' τ'' ν' lm' ∧ rt_gI τ'' x z := by
  obtain ⟨kx, xl, xh⟩ := x
  cases kx with
  | zero =>
    have h : (match rt_abs E y with
      | some b => cond (ri_le xl b.1) (cond (ri_le b.2 xh) (some m) none) none
      | none => none) = some m' := h
    cases hb : rt_abs E y with
    | none => rw [hb] at h; cases h
    | some b =>
      rw [hb] at h
      obtain ⟨c1, h⟩ := ri_cond h rfl
      obtain ⟨c2, h⟩ := ri_cond h rfl
      cases h
      have c1 := ri_le_iff.mp c1
      have c2 := ri_le_iff.mp c2
      have := rt_abs_ok hE hb hz
      exact ⟨τ', List.prefix_refl _, hm, rt_gI_0.mpr (by omega)⟩
  | succ k =>
    have h : cond (Nat.beq k (ri_len m.1)) (match ri_nth TN.1 k with
      | some e => (match rt_abs E y with
        | some b => cond (rt_z0 (k + 1, xl, xh)) (cond (ri_le e.1.1 b.1) (cond (ri_le b.2 e.1.2) (cond (rt_mpl e) (cond (rt_mrel E e y m.1) (some (List.append m.1 [y], m.2)) none) none) none) none) none
        | none => none)
      | none => none) (match ri_nth m.1 k with
      | some w => cond (rt_ge0 (rt_low E y w) xl) (cond (rt_ge0 (rt_low E w y) (Int.neg xh)) (some m) none) none
      | none => none) = some m' := h
    cases c0 : Nat.beq k (ri_len m.1) with
    | true =>
      rw [c0, cond_true, ri_nth_eq] at h
      have c0 := Nat.eq_of_beq_eq_true c0
      rw [ri_len_eq] at c0
      cases he : TN.1[k]? with
      | none => rw [he] at h; cases h
      | some e =>
        rw [he] at h
        have h : (match rt_abs E y with
          | some b => cond (rt_z0 (k + 1, xl, xh)) (cond (ri_le e.1.1 b.1) (cond (ri_le b.2 e.1.2) (cond (rt_mpl e) (cond (rt_mrel E e y m.1) (some (List.append m.1 [y], m.2)) none) none) none) none) none
          | none => none) = some m' := h
        cases hb : rt_abs E y with
        | none => rw [hb] at h; cases h
        | some b =>
          rw [hb] at h
          obtain ⟨c1, h⟩ := ri_cond h rfl
          obtain ⟨c2, h⟩ := ri_cond h rfl
          obtain ⟨c3, h⟩ := ri_cond h rfl
          obtain ⟨c4, h⟩ := ri_cond h rfl
          obtain ⟨c5, h⟩ := ri_cond h rfl
          cases h
          have c2 := ri_le_iff.mp c2
          have c3 := ri_le_iff.mp c3
          have hb' := rt_abs_ok hE hb hz
          obtain ⟨⟨m1, m2, m3⟩, hR, hJ⟩ := hm
          have pt : τ' <+: τ' ++ [z.toInt] := ⟨_, rfl⟩
          have hz0 : xl ≤ 0 ∧ 0 ≤ xh := by
            unfold rt_z0 at c1
            cases d1 : ri_le xl 0 with
            | false =>
              have c1 : cond (ri_le xl 0) (ri_le 0 xh) false = true := c1
              rw [d1] at c1
              cases c1
            | true =>
              have c1 : cond (ri_le xl 0) (ri_le 0 xh) false = true := c1
              rw [d1] at c1
              exact ⟨ri_le_iff.mp d1, ri_le_iff.mp c1⟩
          have at0 : (τ' ++ [z.toInt])[k]? = some z.toInt := by
            rw [c0, ← m1]
            exact rt_at_end _ _
          refine ⟨τ' ++ [z.toInt], pt, ⟨⟨?_, fun k' y' hy' => ?_, fun k' e' b' he' hb'' => ?_⟩, hR, hJ⟩, z.toInt, at0, ?_, ?_⟩
          · show (τ' ++ [z.toInt]).length = (m.1 ++ [y]).length
            simp [m1]
          · have hy' : (m.1 ++ [y])[k']? = some y' := hy'
            rcases rt_idx1 hy' with hy' | ⟨rfl, rfl⟩
            · obtain ⟨z', e1, e2⟩ := m2 k' y' hy'
              exact ⟨z', rt_px pt e1, e2⟩
            · exact ⟨z, by rw [← c0]; exact at0, hz⟩
          · rcases rt_idx1 hb'' with hb'' | ⟨ek, rfl⟩
            · exact rt_okB_mono pt (List.prefix_refl _) (m3 k' e' b' he' hb'')
            · have ek' : k' = k := by omega
              subst ek'
              have : e' = e := Option.some.inj (he'.symm.trans he)
              subst this
              have hpl : e'.2.2.1 = none ∧ e'.2.2.2 = none := by
                unfold rt_mpl at c4
                rcases q1 : e'.2.2.1 with _ | c
                · rw [q1] at c4
                  rcases q2 : e'.2.2.2 with _ | c
                  · exact ⟨rfl, rfl⟩
                  · rw [q2] at c4
                    cases c4
                · rw [q1] at c4
                  cases c4
              refine ⟨by omega, by omega, ?_, (fun c hc => by rw [hpl.1] at hc; cases hc), (fun q hq => by rw [hpl.2] at hq; cases hq)⟩
              unfold rt_mrel at c5
              rcases q3 : e'.2.1.1 with _ | p
              · exact Or.inl rfl
              · rw [q3] at c5
                have c5 : (match ri_nth m.1 p with
                  | some w => rt_ge0 (rt_low E y w) e'.2.1.2
                  | none => false) = true := c5
                rw [ri_nth_eq] at c5
                rcases q4 : m.1[p]? with _ | w
                · rw [q4] at c5
                  cases c5
                · rw [q4] at c5
                  obtain ⟨z', e1, e2⟩ := m2 p w q4
                  have := rt_ge0_ok hE c5 hz e2
                  refine Or.inr ⟨z'.toInt, rt_px pt e1, ?_⟩
                  omega
          · show z.toInt + xl ≤ z.toInt
            omega
          · show z.toInt ≤ z.toInt + xh
            omega
    | false =>
      rw [c0, cond_false, ri_nth_eq] at h
      cases hw : m.1[k]? with
      | none => rw [hw] at h; cases h
      | some w =>
        rw [hw] at h
        obtain ⟨c1, h⟩ := ri_cond h rfl
        obtain ⟨c2, h⟩ := ri_cond h rfl
        cases h
        obtain ⟨z', e1, e2⟩ := hm.1.2.1 k w hw
        have d1 := rt_ge0_ok hE c1 hz e2
        have d2 : -xh ≤ z'.toInt - z.toInt := rt_ge0_ok hE c2 e2 hz
        refine ⟨τ', List.prefix_refl _, hm, z'.toInt, e1, ?_, ?_⟩
        · show z'.toInt + xl ≤ z.toInt
          omega
        · show z.toInt ≤ z'.toInt + xh
          omega
theorem rt_mR_ok {q p : Nat × Nat} {m m' : rt_M} {τ' : List Int} {ν' : List Nat} {lm' : List Int64} (h : rt_mR TN.2.1 q p m = some m') (hm : rt_mg K ad τ ν lm TN m τ' ν' lm') {a : Nat} (ha : rt_hk K ad a p.1) (hn : p.2 = 0 ∨ ∃ i, p.2 = i + 1 ∧ ν[i]? = some a) : ∃ ν'', ν' <+: ν'' ∧ rt_mg K ad τ ν lm TN m' τ' ν'' lm' ∧ rt_hk K ad a q.1 ∧ (q.2 = 0 ∨ ∃ j, q.2 = j + 1 ∧ ν''[j]? = some a) := by
  obtain ⟨q1, q2⟩ := q
  unfold rt_mR at h
  obtain ⟨c1, h⟩ := ri_cond h rfl
  have c1 : q1 = p.1 := Nat.eq_of_beq_eq_true c1
  subst c1
  cases q2 with
  | zero =>
    cases h
    exact ⟨ν', List.prefix_refl _, hm, ha, Or.inl rfl⟩
  | succ j =>
    have h : cond (Nat.beq j (ri_len m.2.1)) (match ri_nth TN.2.1 j with
      | some k => cond (Nat.beq k p.1) (some (m.1, List.append m.2.1 [p.2], m.2.2)) none
      | none => none) (match ri_nth m.2.1 j with
      | some w => cond (Nat.beq w p.2) (cond (Nat.beq w 0) none (some m)) none
      | none => none) = some m' := h
    cases c0 : Nat.beq j (ri_len m.2.1) with
    | true =>
      rw [c0, cond_true, ri_nth_eq] at h
      have c0 := Nat.eq_of_beq_eq_true c0
      rw [ri_len_eq] at c0
      cases hk : TN.2.1[j]? with
      | none => rw [hk] at h; cases h
      | some k =>
        rw [hk] at h
        obtain ⟨c2, h⟩ := ri_cond h rfl
        have c2 : k = p.1 := Nat.eq_of_beq_eq_true c2
        cases h
        obtain ⟨hI, ⟨m1, m2, m3⟩, hJ⟩ := hm
        have pt : ν' <+: ν' ++ [a] := ⟨_, rfl⟩
        have at0 : (ν' ++ [a])[j]? = some a := by
          rw [c0, ← m1]
          exact rt_at_end _ _
        refine ⟨ν' ++ [a], pt, ⟨hI, ⟨?_, fun j' w hw => ?_, fun j' k' p' hk' hp' => ?_⟩, hJ⟩, ha, Or.inr ⟨j, rfl, at0⟩⟩
        · show (ν' ++ [a]).length = (m.2.1 ++ [p.2]).length
          simp [m1]
        · have hw : (m.2.1 ++ [p.2])[j']? = some w := hw
          rcases rt_idx1 hw with hw | ⟨rfl, rfl⟩
          · obtain ⟨z', e1, e2⟩ := m2 j' w hw
            exact ⟨z', rt_px pt e1, e2⟩
          · exact ⟨a, by rw [← c0]; exact at0, hn⟩
        · rcases rt_idx1 hp' with hp' | ⟨ek, rfl⟩
          · exact m3 j' k' p' hk' hp'
          · have ek' : j' = j := by omega
            subst ek'
            have : k' = k := Option.some.inj (hk'.symm.trans hk)
            rw [this, c2]
            exact ha
    | false =>
      rw [c0, cond_false, ri_nth_eq] at h
      cases hw : m.2.1[j]? with
      | none => rw [hw] at h; cases h
      | some w =>
        rw [hw] at h
        obtain ⟨c1, h2⟩ := ri_cond h rfl
        clear h
        have c1 : w = p.2 := Nat.eq_of_beq_eq_true c1
        subst c1
        cases c2 : Nat.beq p.2 0 with
        | true => rw [c2] at h2; cases h2
        | false =>
          rw [c2] at h2
          cases h2
          have c2 : ¬ p.2 = 0 := fun e => by rw [e] at c2; cases c2
          obtain ⟨b, e1, e2⟩ := hm.2.1.2.1 j _ hw
          rcases hn with hn | ⟨i, hi, hn⟩
          · exact absurd hn c2
          · rcases e2 with e2 | ⟨i', hi', e2⟩
            · exact absurd e2 c2
            · have : i' = i := by omega
              subst this
              have : b = a := Option.some.inj (e2.symm.trans hn)
              subst this
              exact ⟨ν', List.prefix_refl _, hm, ha, Or.inr ⟨j, rfl, e1⟩⟩
theorem rt_mJ_ok {t u : Nat} {m m' : rt_M} {τ' : List Int} {ν' : List Nat} {lm' : List Int64} (h : rt_mJ t u m = some m') (hm : rt_mg K ad τ ν lm TN m τ' ν' lm') {z : Int64} (hn : u = 0 ∨ ∃ i, u = i + 1 ∧ lm[i]? = some z) : ∃ lm'', lm' <+: lm'' ∧ rt_mg K ad τ ν lm TN m' τ' ν' lm'' ∧ (t = 0 ∨ ∃ j, t = j + 1 ∧ lm''[j]? = some z) := by
  cases t with
  | zero =>
    cases h
    exact ⟨lm', List.prefix_refl _, hm, Or.inl rfl⟩
  | succ j =>
    have h : cond (Nat.beq j (ri_len m.2.2)) (some (m.1, m.2.1, List.append m.2.2 [u])) (match ri_nth m.2.2 j with
      | some w => cond (Nat.beq w u) (cond (Nat.beq w 0) none (some m)) none
      | none => none) = some m' := h
    cases c0 : Nat.beq j (ri_len m.2.2) with
    | true =>
      rw [c0, cond_true] at h
      have c0 := Nat.eq_of_beq_eq_true c0
      rw [ri_len_eq] at c0
      cases h
      obtain ⟨⟨i1, i2, i3⟩, hR, m1, m2⟩ := hm
      have pt : lm' <+: lm' ++ [z] := ⟨_, rfl⟩
      have at0 : (lm' ++ [z])[j]? = some z := by
        rw [c0, ← m1]
        exact rt_at_end _ _
      refine ⟨lm' ++ [z], pt, ⟨⟨i1, i2, fun k e b he hb => rt_okB_mono (List.prefix_refl _) pt (i3 k e b he hb)⟩, hR, ?_, fun j' w hw => ?_⟩, Or.inr ⟨j, rfl, at0⟩⟩
      · show (lm' ++ [z]).length = (m.2.2 ++ [u]).length
        simp [m1]
      · have hw : (m.2.2 ++ [u])[j']? = some w := hw
        rcases rt_idx1 hw with hw | ⟨rfl, rfl⟩
        · obtain ⟨z', e1, e2⟩ := m2 j' w hw
          exact ⟨z', rt_px pt e1, e2⟩
        · exact ⟨z, by rw [← c0]; exact at0, hn⟩
    | false =>
      rw [c0, cond_false, ri_nth_eq] at h
      cases hw : m.2.2[j]? with
      | none => rw [hw] at h; cases h
      | some w =>
        rw [hw] at h
        obtain ⟨c1, h2⟩ := ri_cond h rfl
        clear h
        have c1 : w = u := Nat.eq_of_beq_eq_true c1
        subst c1
        cases c2 : Nat.beq w 0 with
        | true => rw [c2] at h2; cases h2
        | false =>
          rw [c2] at h2
          cases h2
          have c2 : ¬ w = 0 := fun e => by rw [e] at c2; cases c2
          obtain ⟨b, e1, e2⟩ := hm.2.2.2 j _ hw
          rcases hn with hn | ⟨i, hi, hn⟩
          · exact absurd hn c2
          · rcases e2 with e2 | ⟨i', hi', e2⟩
            · exact absurd e2 c2
            · have : i' = i := by omega
              subst this
              have : b = z := Option.some.inj (e2.symm.trans hn)
              subst this
              exact ⟨lm', List.prefix_refl _, hm, Or.inr ⟨j, rfl, e1⟩⟩
/-- a value that fits a template's value is as the template says -/
theorem rt_mV_ok (hE : rt_okE E τ lm) {t v : rt_V} {m m' : rt_M} {τ' : List Int} {ν' : List Nat} {lm' : List Int64} (h : rt_mV E TN t v m = some m') (hm : rt_mg K ad τ ν lm TN m τ' ν' lm') {x : Value} (hx : rt_gV τ ν lm K ad v x) : ∃ τ'' ν'' lm'', τ' <+: τ'' ∧ ν' <+: ν'' ∧ lm' <+: lm'' ∧ rt_mg K ad τ ν lm TN m' τ'' ν'' lm'' ∧ rt_gV τ'' ν'' lm'' K ad t x := by
  rcases t with xt | q | _ | t
  · rcases v with y | v
    · obtain ⟨z, rfl, hz⟩ := hx
      obtain ⟨τ'', e1, e2, e3⟩ := rt_mI_ok hE h hm hz
      exact ⟨τ'', ν', lm', e1, List.prefix_refl _, List.prefix_refl _, e2, z, rfl, e3⟩
    · cases h
  · rcases v with y | p | v
    · cases h
    · obtain ⟨a, rfl, ha, hn⟩ := hx
      obtain ⟨ν'', e1, e2, e3⟩ := rt_mR_ok h hm ha hn
      exact ⟨τ', ν'', lm', List.prefix_refl _, e1, List.prefix_refl _, e2, a, rfl, e3⟩
    · cases h
  · cases h
    exact ⟨τ', ν', lm', List.prefix_refl _, List.prefix_refl _, List.prefix_refl _, hm, trivial⟩
  · rcases v with y | p | _ | u
    · cases h
    · cases h
    · cases h
    · obtain ⟨z, rfl, hn⟩ := hx
      obtain ⟨lm'', e1, e2, e3⟩ := rt_mJ_ok h hm hn
      exact ⟨τ', ν', lm'', List.prefix_refl _, List.prefix_refl _, e1, e2, z, rfl, e3⟩
theorem rt_mL_ok (hE : rt_okE E τ lm) : ∀ (tl al : List (Option rt_V)) (V : List (Option Value)) (m m' : rt_M) (τ' : List Int) (ν' : List Nat) (lm' : List Int64), rt_mL E TN tl al m = some m' → rt_mg K ad τ ν lm TN m τ' ν' lm' → rt_gL τ ν lm K ad al V → ∃ τ'' ν'' lm'', τ' <+: τ'' ∧ ν' <+: ν'' ∧ lm' <+: lm'' ∧ rt_mg K ad τ ν lm TN m' τ'' ν'' lm'' ∧ rt_gL τ'' ν'' lm'' K ad tl V := by
  intro tl
  induction tl with
  | nil =>
    intro al V m m' τ' ν' lm' h hm hV
    cases h
    exact ⟨τ', ν', lm', List.prefix_refl _, List.prefix_refl _, List.prefix_refl _, hm, fun i x hx => by cases hx⟩
  | cons t tl ih =>
    intro al V m m' τ' ν' lm' h hm hV
    cases t with
    | none =>
      have h : rt_mL E TN tl (match (generalizing := false) al with
        | [] => []
        | _ :: r => r) m = some m' := h
      have hV' : rt_gL τ ν lm K ad (match (generalizing := false) al with
        | [] => []
        | _ :: r => r) (V.drop 1) := by
        intro i x hx
        rcases al with _ | ⟨a, al⟩
        · cases hx
        · obtain ⟨v, e1, e2⟩ := hV (i + 1) x hx
          refine ⟨v, ?_, e2⟩
          rw [List.getElem?_drop, Nat.add_comm]
          exact e1
      obtain ⟨τ'', ν'', lm'', p1, p2, p3, e1, e2⟩ := ih _ _ _ _ _ _ _ h hm hV'
      refine ⟨τ'', ν'', lm'', p1, p2, p3, e1, fun i x hx => ?_⟩
      cases i with
      | zero => cases hx
      | succ i =>
        obtain ⟨v, f1, f2⟩ := e2 i x hx
        refine ⟨v, ?_, f2⟩
        rw [List.getElem?_drop, Nat.add_comm] at f1
        exact f1
    | some tv =>
      rcases al with _ | ⟨_ | av, al⟩
      · cases h
      · cases h
      · have h : (match rt_mV E TN tv av m with
          | some m' => rt_mL E TN tl al m'
          | none => none) = some m' := h
        cases hv : rt_mV E TN tv av m with
        | none => rw [hv] at h; cases h
        | some m1 =>
          rw [hv] at h
          have h : rt_mL E TN tl al m1 = some m' := h
          obtain ⟨v, g1, g2⟩ := hV 0 av rfl
          obtain ⟨τ1, ν1, lm1, p1, p2, p3, e1, e2⟩ := rt_mV_ok hE hv hm g2
          have hV' : rt_gL τ ν lm K ad al (V.drop 1) := by
            intro i x hx
            obtain ⟨v, e1, e2⟩ := hV (i + 1) x hx
            refine ⟨v, ?_, e2⟩
            rw [List.getElem?_drop, Nat.add_comm]
            exact e1
          obtain ⟨τ2, ν2, lm2, r1, r2, r3, f1, f2⟩ := ih _ _ _ _ _ _ _ h e1 hV'
          refine ⟨τ2, ν2, lm2, p1.trans r1, p2.trans r2, p3.trans r3, f1, fun i x hx => ?_⟩
          cases i with
          | zero =>
            cases hx
            exact ⟨v, g1, rt_gV_mono r1 r2 r3 e2⟩
          | succ i =>
            obtain ⟨v, f1, f3⟩ := f2 i x hx
            refine ⟨v, ?_, f3⟩
            rw [List.getElem?_drop, Nat.add_comm] at f1
            exact f1
theorem rt_mO_ok (hE : rt_okE E τ lm) {ov : List rt_O} {ws : va_W} (hov : ∀ o ∈ ov, rt_gO τ ν lm K ad ws o) : ∀ (to : List rt_O) (m m' : rt_M) (τ' : List Int) (ν' : List Nat) (lm' : List Int64), rt_mO E TN ov to m = some m' → rt_mg K ad τ ν lm TN m τ' ν' lm' → ∃ τ'' ν'' lm'', τ' <+: τ'' ∧ ν' <+: ν'' ∧ lm' <+: lm'' ∧ rt_mg K ad τ ν lm TN m' τ'' ν'' lm'' ∧ ∀ o ∈ to, rt_gO τ'' ν'' lm'' K ad ws o := by
  intro to
  induction to with
  | nil =>
    intro m m' τ' ν' lm' h hm
    cases h
    exact ⟨τ', ν', lm', List.prefix_refl _, List.prefix_refl _, List.prefix_refl _, hm, fun o ho => by cases ho⟩
  | cons o to ih =>
    intro m m' τ' ν' lm' h hm
    obtain ⟨oj, ⟨s1, s2⟩, tv⟩ := o
    cases oj with
    | zero => cases h
    | succ j =>
      have h : (match ri_nth m.2.1 j with
        | none => none
        | some w => cond (Nat.beq s1 0) (match rt_og ov w (s1, s2) with
          | none => none
          | some v => (match rt_mV E TN tv v m with
            | some m' => rt_mO E TN ov to m'
            | none => none)) none) = some m' := h
      rw [ri_nth_eq] at h
      cases hw : m.2.1[j]? with
      | none => rw [hw] at h; cases h
      | some w =>
        rw [hw] at h
        obtain ⟨c1, h⟩ := ri_cond h rfl
        have c1 : s1 = 0 := Nat.eq_of_beq_eq_true c1
        subst c1
        cases hg : rt_og ov w (0, s2) with
        | none => rw [hg] at h; cases h
        | some v =>
          rw [hg] at h
          have h : (match rt_mV E TN tv v m with
            | some m' => rt_mO E TN ov to m'
            | none => none) = some m' := h
          cases hv : rt_mV E TN tv v m with
          | none => rw [hv] at h; cases h
          | some m1 =>
            rw [hv] at h
            have h : rt_mO E TN ov to m1 = some m' := h
            obtain ⟨j0, q, i, e, b, x, g1, g2, g3, g4, g5, g6, g7⟩ := hov _ (rt_og_mem hg)
            have g1 : w = j0 + 1 := g1
            obtain ⟨p, k1, k2⟩ := hm.2.1.2.1 j w hw
            have hp : p = q := by
              rcases k2 with k2 | ⟨i', k2, k3⟩
              · omega
              · have : i' = j0 := by omega
                subst this
                exact Option.some.inj (k3.symm.trans g2)
            subst hp
            have g4 : b = 0 := (Option.some.inj g4).symm
            subst g4
            obtain ⟨τ1, ν1, lm1, p1, p2, p3, e1, e2⟩ := rt_mV_ok hE hv hm g7
            obtain ⟨τ2, ν2, lm2, r1, r2, r3, f1, f2⟩ := ih _ _ _ _ _ h e1
            refine ⟨τ2, ν2, lm2, p1.trans r1, p2.trans r2, p3.trans r3, f1, fun o' ho' => ?_⟩
            rcases List.mem_cons.mp ho' with rfl | ho'
            · exact ⟨j, p, i, e, 0, x, rfl, rt_px r2 (rt_px p2 k1), g3, rfl, g5, g6, rt_gV_mono r1 r2 r3 e2⟩
            · exact f2 o' ho'
theorem rt_noL_ok {l : List (Option Int)} (h : rt_noL l = true) {j : Nat} {c : Int} (hc : l[j]? = some (some c)) : False := by
  induction l generalizing j with
  | nil => cases hc
  | cons a l ih =>
    cases a with
    | some d => cases h
    | none =>
      have h : rt_noL l = true := h
      cases j with
      | zero => cases hc
      | succ j => exact ih h hc
/-- what fits a template is as the template says, with names of the template's own -/
theorem rt_mt_ok {R : rt_N} (hN : rt_okN K ad R τ ν lm) {ov to : List rt_O} {ws : va_W} (hov : ∀ o ∈ ov, rt_gO τ ν lm K ad ws o) {al tl : List (Option rt_V)} {V : List (Option Value)} (hV : rt_gL τ ν lm K ad al V) {m : rt_M} (h : rt_mt R.1 ov al TN tl to = some m) : ∃ τ' ν' lm', rt_okN K ad TN τ' ν' lm' ∧ rt_mg K ad τ ν lm TN m τ' ν' lm' ∧ rt_gL τ' ν' lm' K ad tl V ∧ ∀ o ∈ to, rt_gO τ' ν' lm' K ad ws o := by
  unfold rt_mt at h
  cases h1 : rt_mL R.1 TN tl al ([], [], []) with
  | none => rw [h1] at h; cases h
  | some m1 =>
    rw [h1] at h
    have h : (match rt_mO R.1 TN ov to m1 with
      | none => none
      | some m' => cond (Nat.beq (ri_len m'.1) (ri_len TN.1)) (cond (Nat.beq (ri_len m'.2.1) (ri_len TN.2.1)) (cond (Nat.beq (ri_len m'.2.2) (ri_len TN.2.2)) (cond (rt_noL TN.2.2) (some m') none) none) none) none) = some m := h
    cases h2 : rt_mO R.1 TN ov to m1 with
    | none => rw [h2] at h; cases h
    | some m2 =>
      rw [h2] at h
      obtain ⟨c1, h⟩ := ri_cond h rfl
      obtain ⟨c2, h⟩ := ri_cond h rfl
      obtain ⟨c3, h⟩ := ri_cond h rfl
      obtain ⟨c4, h⟩ := ri_cond h rfl
      cases h
      have c1 := Nat.eq_of_beq_eq_true c1
      have c2 := Nat.eq_of_beq_eq_true c2
      have c3 := Nat.eq_of_beq_eq_true c3
      rw [ri_len_eq, ri_len_eq] at c1 c2 c3
      have hm0 : rt_mg K ad τ ν lm TN ([], [], []) [] [] [] := ⟨⟨rfl, (fun k y hy => by cases hy), (fun k e b he hb => by cases hb)⟩, ⟨rfl, (fun j w hw => by cases hw), (fun j k p hk hp => by cases hp)⟩, rfl, (fun j w hw => by cases hw)⟩
      obtain ⟨τ1, ν1, lm1, p1, p2, p3, e1, e2⟩ := rt_mL_ok hN.1 _ _ _ _ _ _ _ _ h1 hm0 hV
      obtain ⟨τ2, ν2, lm2, r1, r2, r3, f1, f2⟩ := rt_mO_ok hN.1 hov _ _ _ _ _ _ h2 e1
      have f0 := f1
      obtain ⟨⟨i1, i2, i3⟩, ⟨j1, j2, j3⟩, l1, l2⟩ := f0
      refine ⟨τ2, ν2, lm2, ⟨⟨i1.trans c1, i3⟩, ⟨j1.trans c2, fun j k hk => ?_⟩, l1.trans c3, fun j c hc => (rt_noL_ok c4 hc).elim⟩, f1, fun i x hx => ?_, f2⟩
      · have hj : j < ν2.length := by
          have := (List.getElem?_eq_some_iff.mp hk).1
          omega
        exact ⟨ν2[j], List.getElem?_eq_getElem hj, j3 j k _ hk (List.getElem?_eq_getElem hj)⟩
      · obtain ⟨v, g1, g2⟩ := e2 i x hx
        exact ⟨v, g1, rt_gV_mono r1 r2 r3 g2⟩
end RT51
