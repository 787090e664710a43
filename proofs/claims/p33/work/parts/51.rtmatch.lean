/-! Templates: a state that another one may be taken for -/
/-- the ints, names and longs that were found for a template's tags and names -/
abbrev rt_M : Type := List ri_I × List Nat × List Nat
noncomputable def rt_mrel (E : List rt_B) (e : rt_B) (y : ri_I) (mE : List ri_I) : Bool := match e.2.1.1 with
  | 0 => true
  | Nat.succ p => (match ri_nth mE p with
    | some w => rt_ge0 (rt_low E y w) e.2.1.2
    | none => false)
def rt_mpl (e : rt_B) : Bool := match e.2.2.1 with
  | none => (match e.2.2.2 with
    | none => true
    | some _ => false)
  | some _ => false
def rt_z0 (x : ri_I) : Bool := cond (ri_le x.2.1 0) (ri_le 0 x.2.2) false
noncomputable def rt_mI (E TE : List rt_B) (x y : ri_I) (m : rt_M) : Option rt_M := match x.1 with
  | 0 => (match rt_abs E y with
    | some b => cond (ri_le x.2.1 b.1) (cond (ri_le b.2 x.2.2) (some m) none) none
    | none => none)
  | Nat.succ k => cond (Nat.beq k (ri_len m.1)) (match ri_nth TE k with
    | some e => (match rt_abs E y with
      | some b => cond (rt_z0 x) (cond (ri_le e.1.1 b.1) (cond (ri_le b.2 e.1.2) (cond (rt_mpl e) (cond (rt_mrel E e y m.1) (some (List.append m.1 [y], m.2)) none) none) none) none) none
      | none => none)
    | none => none) (match ri_nth m.1 k with
    | some w => cond (rt_ge0 (rt_low E y w) x.2.1) (cond (rt_ge0 (rt_low E w y) (Int.neg x.2.2)) (some m) none) none
    | none => none)
noncomputable def rt_mR (TR : List Nat) (q p : Nat × Nat) (m : rt_M) : Option rt_M := cond (Nat.beq q.1 p.1) (match q.2 with
  | 0 => some m
  | Nat.succ j => cond (Nat.beq j (ri_len m.2.1)) (match ri_nth TR j with
    | some k => cond (Nat.beq k q.1) (some (m.1, List.append m.2.1 [p.2], m.2.2)) none
    | none => none) (match ri_nth m.2.1 j with
    | some w => cond (Nat.beq w p.2) (cond (Nat.beq w 0) none (some m)) none
    | none => none)) none
noncomputable def rt_mJ (t u : Nat) (m : rt_M) : Option rt_M := match t with
  | 0 => some m
  | Nat.succ j => cond (Nat.beq j (ri_len m.2.2)) (some (m.1, m.2.1, List.append m.2.2 [u])) (match ri_nth m.2.2 j with
    | some w => cond (Nat.beq w u) (cond (Nat.beq w 0) none (some m)) none
    | none => none)
noncomputable def rt_mV (E : List rt_B) (TN : rt_N) (t v : rt_V) (m : rt_M) : Option rt_M := match t with
  | .inl x => (match v with
    | .inl y => rt_mI E TN.1 x y m
    | .inr _ => none)
  | .inr (.inl q) => (match v with
    | .inr (.inl p) => rt_mR TN.2.1 q p m
    | _ => none)
  | .inr (.inr (some t)) => (match v with
    | .inr (.inr (some u)) => rt_mJ t u m
    | _ => none)
  | .inr (.inr none) => some m
noncomputable def rt_mL (E : List rt_B) (TN : rt_N) (tl : List (Option rt_V)) : List (Option rt_V) → rt_M → Option rt_M := List.rec (motive := fun _ => List (Option rt_V) → rt_M → Option rt_M) (fun _ m => some m) (fun t _ ih al m => match t with
  | none => ih (match al with
    | [] => []
    | _ :: r => r) m
  | some tv => (match al with
    | some av :: r => (match rt_mV E TN tv av m with
      | some m' => ih r m'
      | none => none)
    | _ => none)) tl
noncomputable def rt_mO (E : List rt_B) (TN : rt_N) (ov to : List rt_O) : rt_M → Option rt_M := List.rec (motive := fun _ => rt_M → Option rt_M) (fun m => some m) (fun o _ ih m => match o.1 with
  | 0 => none
  | Nat.succ j => (match ri_nth m.2.1 j with
    | none => none
    | some w => cond (Nat.beq o.2.1.1 0) (match rt_og ov w o.2.1 with
      | none => none
      | some v => (match rt_mV E TN o.2.2 v m with
        | some m' => ih m'
        | none => none)) none)) to
noncomputable def rt_noL (l : List (Option Int)) : Bool := List.rec (motive := fun _ => Bool) true (fun c _ ih => match c with
  | none => ih
  | some _ => false) l
/-- the values al and the overlay are as the template says -/
noncomputable def rt_mt (E : List rt_B) (ov : List rt_O) (al : List (Option rt_V)) (TN : rt_N) (tl : List (Option rt_V)) (to : List rt_O) : Option rt_M := match rt_mL E TN tl al ([], [], []) with
  | none => none
  | some m => (match rt_mO E TN ov to m with
    | none => none
    | some m' => cond (Nat.beq (ri_len m'.1) (ri_len TN.1)) (cond (Nat.beq (ri_len m'.2.1) (ri_len TN.2.1)) (cond (Nat.beq (ri_len m'.2.2) (ri_len TN.2.2)) (cond (rt_noL TN.2.2) (some m') none) none) none) none)
section RT51
variable {τ : List Int} {ν : List Nat} {lm : List Int64} {K ad : List Nat} {E : List rt_B} {TN : rt_N}
def rt_mg (K ad : List Nat) (τ : List Int) (ν : List Nat) (lm : List Int64) (TN : rt_N) (m : rt_M) (τ' : List Int) (ν' : List Nat) (lm' : List Int64) : Prop := (τ'.length = m.1.length ∧ (∀ (k : Nat) (y : ri_I), m.1[k]? = some y → ∃ z : Int32, τ'[k]? = some z.toInt ∧ rt_gI τ y z) ∧ ∀ (k : Nat) (e : rt_B) (b : Int), TN.1[k]? = some e → τ'[k]? = some b → rt_okB τ' lm' e b) ∧ (ν'.length = m.2.1.length ∧ (∀ (j w : Nat), m.2.1[j]? = some w → ∃ p, ν'[j]? = some p ∧ (w = 0 ∨ ∃ i, w = i + 1 ∧ ν[i]? = some p)) ∧ ∀ (j k p : Nat), TN.2.1[j]? = some k → ν'[j]? = some p → rt_hk K ad p k) ∧ (lm'.length = m.2.2.length ∧ ∀ (j w : Nat), m.2.2[j]? = some w → ∃ z, lm'[j]? = some z ∧ (w = 0 ∨ ∃ i, w = i + 1 ∧ lm[i]? = some z))
theorem rt_idx1 {α : Type} {l : List α} {a b : α} {k : Nat} (h : (l ++ [a])[k]? = some b) : l[k]? = some b ∨ (k = l.length ∧ b = a) := by
  rcases Nat.lt_or_ge k l.length with g | g
  · rw [List.getElem?_append_left g] at h
    exact Or.inl h
  · rw [List.getElem?_append_right g] at h
    have g1 : k - l.length < 1 := (List.getElem?_eq_some_iff.mp h).1
    have ek : k - l.length = 0 := by omega
    rw [ek] at h
    cases h
    exact Or.inr ⟨by omega, rfl⟩
theorem rt_mI_ok (hE : rt_okE E τ lm) {x y : ri_I} {m m' : rt_M} {τ' : List Int} {ν' : List Nat} {lm' : List Int64} (h : rt_mI E TN.1 x y m = some m') (hm : rt_mg K ad τ ν lm TN m τ' ν' lm') {z : Int32} (hz : rt_gI τ y z) : ∃ τ'', τ' <+: τ'' ∧ rt_mg K ad τ ν lm TN m' τ'' ν' lm' ∧ rt_gI τ'' x z := by
  obtain ⟨kx, xl, xh⟩ := x
  cases kx with
  | zero =>
    have h : (match rt_abs E y with
      | some b => cond (ri_le xl b.1) (cond (ri_le b.2 xh) (some m) none) none
      | none => none) = some m' := h
    cases hb : rt_abs E y with
    | none => rw [hb] at h; cases h
    | some b =>
      rw [hb] at h
      obtain ⟨c1, h⟩ := ri_cond h rfl
      obtain ⟨c2, h⟩ := ri_cond h rfl
      cases h
      have c1 := ri_le_iff.mp c1
      have c2 := ri_le_iff.mp c2
      have := rt_abs_ok hE hb hz
      exact ⟨τ', List.prefix_refl _, hm, rt_gI_0.mpr (by omega)⟩
  | succ k =>
    have h : cond (Nat.beq k (ri_len m.1)) (match ri_nth TN.1 k with
      | some e => (match rt_abs E y with
        | some b => cond (rt_z0 (k + 1, xl, xh)) (cond (ri_le e.1.1 b.1) (cond (ri_le b.2 e.1.2) (cond (rt_mpl e) (cond (rt_mrel E e y m.1) (some (List.append m.1 [y], m.2)) none) none) none) none) none
        | none => none)
      | none => none) (match ri_nth m.1 k with
      | some w => cond (rt_ge0 (rt_low E y w) xl) (cond (rt_ge0 (rt_low E w y) (Int.neg xh)) (some m) none) none
      | none => none) = some m' := h
    cases c0 : Nat.beq k (ri_len m.1) with
    | true =>
      rw [c0, cond_true, ri_nth_eq] at h
      have c0 := Nat.eq_of_beq_eq_true c0
      rw [ri_len_eq] at c0
      cases he : TN.1[k]? with
      | none => rw [he] at h; cases h
      | some e =>
        rw [he] at h
        have h : (match rt_abs E y with
          | some b => cond (rt_z0 (k + 1, xl, xh)) (cond (ri_le e.1.1 b.1) (cond (ri_le b.2 e.1.2) (cond (rt_mpl e) (cond (rt_mrel E e y m.1) (some (List.append m.1 [y], m.2)) none) none) none) none) none
          | none => none) = some m' := h
        cases hb : rt_abs E y with
        | none => rw [hb] at h; cases h
        | some b =>
          rw [hb] at h
          obtain ⟨c1, h⟩ := ri_cond h rfl
          obtain ⟨c2, h⟩ := ri_cond h rfl
          obtain ⟨c3, h⟩ := ri_cond h rfl
          obtain ⟨c4, h⟩ := ri_cond h rfl
          obtain ⟨c5, h⟩ := ri_cond h rfl
          cases h
          have c2 := ri_le_iff.mp c2
          have c3 := ri_le_iff.mp c3
          have hb' := rt_abs_ok hE hb hz
          obtain ⟨⟨m1, m2, m3⟩, hR, hJ⟩ := hm
          have pt : τ' <+: τ' ++ [z.toInt] := ⟨_, rfl⟩
          have hz0 : xl ≤ 0 ∧ 0 ≤ xh := by
            unfold rt_z0 at c1
            cases d1 : ri_le xl 0 with
            | false =>
              have c1 : cond (ri_le xl 0) (ri_le 0 xh) false = true := c1
              rw [d1] at c1
              cases c1
            | true =>
              have c1 : cond (ri_le xl 0) (ri_le 0 xh) false = true := c1
              rw [d1] at c1
              exact ⟨ri_le_iff.mp d1, ri_le_iff.mp c1⟩
          have at0 : (τ' ++ [z.toInt])[k]? = some z.toInt := by
            rw [c0, ← m1]
            exact rt_at_end _ _
          refine ⟨τ' ++ [z.toInt], pt, ⟨⟨?_, fun k' y' hy' => ?_, fun k' e' b' he' hb'' => ?_⟩, hR, hJ⟩, z.toInt, at0, ?_, ?_⟩
          · show (τ' ++ [z.toInt]).length = (m.1 ++ [y]).length
            simp [m1]
          · have hy' : (m.1 ++ [y])[k']? = some y' := hy'
            rcases rt_idx1 hy' with hy' | ⟨rfl, rfl⟩
            · obtain ⟨z', e1, e2⟩ := m2 k' y' hy'
              exact ⟨z', rt_px pt e1, e2⟩
            · exact ⟨z, by rw [← c0]; exact at0, hz⟩
          · rcases rt_idx1 hb'' with hb'' | ⟨ek, rfl⟩
            · exact rt_okB_mono pt (List.prefix_refl _) (m3 k' e' b' he' hb'')
            · have ek' : k' = k := by omega
              subst ek'
              have : e' = e := Option.some.inj (he'.symm.trans he)
              subst this
              have hpl : e'.2.2.1 = none ∧ e'.2.2.2 = none := by
                unfold rt_mpl at c4
                rcases q1 : e'.2.2.1 with _ | c
                · rw [q1] at c4
                  rcases q2 : e'.2.2.2 with _ | c
                  · exact ⟨rfl, rfl⟩
                  · rw [q2] at c4
                    cases c4
                · rw [q1] at c4
                  cases c4
              refine ⟨by omega, by omega, ?_, (fun c hc => by rw [hpl.1] at hc; cases hc), (fun q hq => by rw [hpl.2] at hq; cases hq)⟩
              unfold rt_mrel at c5
              rcases q3 : e'.2.1.1 with _ | p
              · exact Or.inl rfl
              · rw [q3] at c5
                have c5 : (match ri_nth m.1 p with
                  | some w => rt_ge0 (rt_low E y w) e'.2.1.2
                  | none => false) = true := c5
                rw [ri_nth_eq] at c5
                rcases q4 : m.1[p]? with _ | w
                · rw [q4] at c5
                  cases c5
                · rw [q4] at c5
                  obtain ⟨z', e1, e2⟩ := m2 p w q4
                  have := rt_ge0_ok hE c5 hz e2
                  refine Or.inr ⟨z'.toInt, rt_px pt e1, ?_⟩
                  omega
          · show z.toInt + xl ≤ z.toInt
            omega
          · show z.toInt ≤ z.toInt + xh
            omega
    | false =>
      rw [c0, cond_false, ri_nth_eq] at h
      cases hw : m.1[k]? with
      | none => rw [hw] at h; cases h
      | some w =>
        rw [hw] at h
        obtain ⟨c1, h⟩ := ri_cond h rfl
        obtain ⟨c2, h⟩ := ri_cond h rfl
        cases h
        obtain ⟨z', e1, e2⟩ := hm.1.2.1 k w hw
        have d1 := rt_ge0_ok hE c1 hz e2
        have d2 : -xh ≤ z'.toInt - z.toInt := rt_ge0_ok hE c2 e2 hz
        refine ⟨τ', List.prefix_refl _, hm, z'.toInt, e1, ?_, ?_⟩
        · show z'.toInt + xl ≤ z.toInt
          omega
        · show z.toInt ≤ z'.toInt + xh
          omega
end RT51
