/-! Calls: the arguments off the stack; contracts -/
noncomputable def rt_take (n : Nat) : List rt_V → List rt_V → Option (List rt_V × List rt_V) := Nat.rec (motive := fun _ => List rt_V → List rt_V → Option (List rt_V × List rt_V)) (fun st acc => some (acc, st)) (fun _ ih st acc => match st with
  | [] => none
  | v :: r => ih r (v :: acc)) n
/-- as locals: a long takes two places; a value of which nothing is known is none -/
noncomputable def rt_enA (l : List rt_V) : Option (List (Option rt_V)) := List.rec (motive := fun _ => Option (List (Option rt_V))) (some []) (fun v _ ih => match ih with
  | none => none
  | some r => (match v with
    | .inl _ => some (some v :: r)
    | .inr (.inl _) => some (some v :: r)
    | .inr (.inr (some _)) => some (some v :: none :: r)
    | .inr (.inr none) => none)) l
/-- names, locals, overlay -/
abbrev rt_Tm : Type := rt_N × List (Option rt_V) × List rt_O
/-- mode, steps, the answer's type, slots of the template's names: name, slot, type -/
abbrev rt_Po : Type := (Nat × Nat) × Option rt_T × List (Nat × Nat × rt_T)
/-- a contract: (method, depth), mode, template, posts -/
abbrev rt_Co : Type := (Nat × Nat) × Nat × rt_Tm × List rt_Po
def rt_pre (KK : List (List rt_K)) (κ : Nat → ClassId) (K ad : List Nat) (Φ : Nat → Int → va_W → Prop) (t1 : Int) (τ : List Int) (ν : List Nat) (lm : List Int64) (g : Nat) (T : rt_Tm) (vs : List Value) (ws : va_W) : Prop := rt_hp KK κ K ad ws Φ t1 g 0 ws ∧ rt_okN K ad T.1 τ ν lm ∧ rt_gL τ ν lm K ad T.2.1 (rc_en vs) ∧ (∀ o ∈ T.2.2, rt_gO τ ν lm K ad ws o) ∧ (rc_en vs).length = T.2.1.length
def rt_post (KK : List (List rt_K)) (κ : Nat → ClassId) (K ad : List Nat) (Φ : Nat → Int → va_W → Prop) (t1 : Int) (ν : List Nat) (P : rt_Po) (ws : va_W) (ov : Option Value) (ws' : va_W) : Prop := rt_hp KK κ K ad ws Φ t1 P.1.1 P.1.2 ws' ∧ (match P.2.1 with
  | none => ov = none
  | some T => ∃ v, ov = some v ∧ rt_gT K ad T v) ∧ ∀ x ∈ P.2.2, ∃ (q i : Nat) (e : va_E) (v : Value), ν[x.1]? = some q ∧ ws'[i]? = some (q, e) ∧ rt_sl e x.2.1 = some v ∧ rt_gT K ad x.2.2 v
/-- the contract holds -/
def rt_Con (l : Launch) (D : va_G) (KK : List (List rt_K)) (κ : Nat → ClassId) (K ad : List Nat) (Φ : Nat → Int → va_W → Prop) (C : rt_Co) : Prop := ∀ (t1 : Int) (τ : List Int) (ν : List Nat) (lm : List Int64), rc_Met l κ D C.1.2 C.1.1 (rt_pre KK κ K ad Φ t1 τ ν lm C.2.1 C.2.2.1) (fun _ ws ov ws' => ∃ P ∈ C.2.2.2, rt_post KK κ K ad Φ t1 ν P ws ov ws')
section RT55
variable {τ : List Int} {ν : List Nat} {lm : List Int64} {K ad : List Nat} {ws ws0 : va_W} {KK : List (List rt_K)} {κ : Nat → ClassId} {Φ : Nat → Int → va_W → Prop}
theorem rt_take_ok : ∀ (n : Nat) {st acc as rest : List rt_V} {vals accv : List Value}, rt_take n st acc = some (as, rest) → rt_gS τ ν lm K ad st vals → rt_gS τ ν lm K ad acc accv → ∃ top rst, vals = top ++ rst ∧ top.length = n ∧ rt_gS τ ν lm K ad rest rst ∧ rt_gS τ ν lm K ad as (top.reverse ++ accv)
  | 0, st, acc, as, rest, vals, accv, h, hs, ha => by
    cases h
    exact ⟨[], vals, rfl, rfl, hs, ha⟩
  | n + 1, [], acc, as, rest, vals, accv, h, hs, ha => by cases h
  | n + 1, v :: st, acc, as, rest, vals, accv, h, hs, ha => by
    have h : rt_take n st (v :: acc) = some (as, rest) := h
    obtain ⟨w, vals', rfl, gv, hs'⟩ := rt_gS_cons hs
    have ha' : rt_gS τ ν lm K ad (v :: acc) (w :: accv) := ⟨gv, ha⟩
    obtain ⟨top, rst, e1, e2, e3, e4⟩ := rt_take_ok n h hs' ha'
    refine ⟨w :: top, rst, by rw [e1]; rfl, by simp [e2], e3, ?_⟩
    have e5 : (w :: top).reverse ++ accv = top.reverse ++ w :: accv := by simp
    rw [e5]
    exact e4
theorem rt_enA_ok : ∀ {as : List rt_V} {al : List (Option rt_V)} {vs : List Value}, rt_enA as = some al → rt_gS τ ν lm K ad as vs → rt_gL τ ν lm K ad al (rc_en vs) ∧ al.length = (rc_en vs).length := by
  intro as
  induction as with
  | nil =>
    intro al vs h hs
    cases h
    cases vs with
    | nil => exact ⟨(fun i x hx => by cases hx), rfl⟩
    | cons w vs => exact hs.elim
  | cons a as ih =>
    intro al vs h hs
    obtain ⟨w, vs', rfl, gv, hs'⟩ := rt_gS_cons hs
    have h : (match (generalizing := false) rt_enA as with
      | none => none
      | some r => (match (generalizing := false) a with
        | .inl _ => some (some a :: r)
        | .inr (.inl _) => some (some a :: r)
        | .inr (.inr (some _)) => some (some a :: none :: r)
        | .inr (.inr none) => none)) = some al := h
    cases hr : rt_enA as with
    | none => rw [hr] at h; cases h
    | some r =>
      rw [hr] at h
      obtain ⟨i1, i2⟩ := ih hr hs'
      have e2 : rc_en (w :: vs') = (if w.category = 2 then [some w, none] else [some w]) ++ rc_en vs' := rfl
      have one : ¬ w.category = 2 → al = some a :: r → rt_gL τ ν lm K ad al (rc_en (w :: vs')) ∧ al.length = (rc_en (w :: vs')).length := fun hw ea => by
        rw [e2, if_neg hw, ea]
        refine ⟨fun i x hx => ?_, by simp [i2]⟩
        cases i with
        | zero =>
          cases hx
          exact ⟨w, rfl, gv⟩
        | succ i => exact i1 i x hx
      rcases a with x | q | _ | t
      · have h : some (some (.inl x) :: r) = some al := h
        obtain ⟨z, rfl, -⟩ := id gv
        exact one (fun q => by cases q) (Option.some.inj h).symm
      · have h : some (some (.inr (.inl q)) :: r) = some al := h
        obtain ⟨z, rfl, -⟩ := id gv
        exact one (fun q => by cases q) (Option.some.inj h).symm
      · cases h
      · have h : some (some (.inr (.inr (some t))) :: none :: r) = some al := h
        cases h
        obtain ⟨z, rfl, -⟩ := id gv
        have hw : (Value.long z).category = 2 := rfl
        rw [e2, if_pos hw]
        refine ⟨fun i x hx => ?_, by simp [i2]⟩
        match i, hx with
        | 0, hx =>
          have hx : some (some (.inr (.inr (some t)))) = some (some x) := hx
          cases hx
          exact ⟨_, rfl, gv⟩
        | 1, hx =>
          have hx : some none = some (some x) := hx
          cases hx
        | i + 2, hx => exact i1 i x hx
end RT55
