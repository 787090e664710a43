/-! One description of the cells for another -/
def ri_eqR (x y : Option Nat) : Bool := match x with
  | none => (match y with
    | none => true
    | some _ => false)
  | some a => (match y with
    | none => false
    | some b => Nat.beq a b)
def ri_fV (f : ri_I → ri_I → Bool) (x y : ri_V) : Bool := match x with
  | .inl a => (match y with
    | .inl b => f a b
    | .inr _ => false)
  | .inr (.inl a) => (match y with
    | .inr (.inl b) => ri_eqR a b
    | _ => false)
  | .inr (.inr _) => (match y with
    | .inr (.inr _) => true
    | _ => false)
noncomputable def ri_lall {α : Type} (f : α → α → Bool) (l : List α) : List α → Bool := List.rec (motive := fun _ => List α → Bool) (fun m => match m with
  | [] => true
  | _ :: _ => false) (fun a _ ih m => match m with
  | [] => false
  | b :: m => cond (f a b) (ih m) false) l
noncomputable def ri_fC (f : ri_I → ri_I → Bool) (x y : ri_C) : Bool := match x with
  | .inl a => (match y with
    | .inl b => cond (Nat.beq a.1 b.1) (ri_lall (ri_fV f) a.2 b.2) false
    | .inr _ => false)
  | .inr a => (match y with
    | .inr b => cond (Nat.beq a.1 b.1) (ri_lall (ri_fV f) a.2 b.2) false
    | .inl _ => false)
theorem ri_lall_ok {α : Type} {f : α → α → Bool} : ∀ {l m : List α}, ri_lall f l m = true → l.length = m.length ∧ ∀ (k : Nat) (b : α), m[k]? = some b → ∃ a, l[k]? = some a ∧ f a b = true
  | [], [], _ => ⟨rfl, fun k b h => by simp at h⟩
  | [], _ :: _, h => by cases h
  | _ :: _, [], h => by cases h
  | a :: l, b :: m, h => by
    have h : cond (f a b) (ri_lall f l m) false = true := h
    cases hc : f a b with
    | false => rw [hc] at h; cases h
    | true =>
      rw [hc] at h
      obtain ⟨h1, h2⟩ := ri_lall_ok (l := l) (m := m) h
      refine ⟨by simp [h1], fun k c hk => ?_⟩
      cases k with
      | zero =>
        simp at hk
        subst hk
        exact ⟨a, rfl, hc⟩
      | succ k => simpa using h2 k c (by simpa using hk)
section RI26
variable {f : ri_I → ri_I → Bool} {τ τ' : Nat → Int} {κ : Nat → ClassId}
theorem ri_fV_ok (hf : ∀ x y, f x y = true → ∀ v, ri_gI τ x v → ri_gI τ' y v) {ad : List Nat} {a b : ri_V} {v : Value} (h : ri_fV f a b = true) (hv : ri_gV τ ad a v) : ri_gV τ' ad b v := by
  rcases a with x | x | x
  · rcases b with y | y
    · obtain ⟨z, e, g⟩ := hv
      exact ⟨z, e, hf x y h z g⟩
    · cases h
  · rcases b with y | y | y
    · cases h
    · rcases x with _ | x
      · rcases y with _ | y
        · exact hv
        · cases h
      · rcases y with _ | y
        · cases h
        · have e : x = y := Nat.eq_of_beq_eq_true h
          subst e
          exact hv
    · cases h
  · rcases b with y | y | y
    · cases h
    · cases h
    · exact hv
theorem ri_fC_ok (hf : ∀ x y, f x y = true → ∀ v, ri_gI τ x v → ri_gI τ' y v) {ad : List Nat} {x y : ri_C} {e : va_E} (h : ri_fC f x y = true) (hx : ri_gC τ ad κ x e) : ri_gC τ' ad κ y e := by
  rcases x with a | a
  · rcases y with b | b
    · have h : cond (Nat.beq a.1 b.1) (ri_lall (ri_fV f) a.2 b.2) false = true := h
      cases hc : Nat.beq a.1 b.1 with
      | false => rw [hc] at h; cases h
      | true =>
        rw [hc] at h
        obtain ⟨l1, l2⟩ := ri_lall_ok h
        obtain ⟨vs, e1, g1, g2⟩ := hx
        refine ⟨vs, by rw [e1, Nat.eq_of_beq_eq_true hc], by rw [g1, l1], fun k c hk => ?_⟩
        obtain ⟨a', m1, m2⟩ := l2 k c hk
        obtain ⟨v, n1, n2⟩ := g2 k a' m1
        exact ⟨v, n1, ri_fV_ok hf m2 n2⟩
    · cases h
  · rcases y with b | b
    · cases h
    · have h : cond (Nat.beq a.1 b.1) (ri_lall (ri_fV f) a.2 b.2) false = true := h
      cases hc : Nat.beq a.1 b.1 with
      | false => rw [hc] at h; cases h
      | true =>
        rw [hc] at h
        obtain ⟨l1, l2⟩ := ri_lall_ok h
        obtain ⟨g0, g1⟩ := hx
        obtain ⟨t, es⟩ := a
        obtain ⟨t', es'⟩ := b
        have et : t = t' := Nat.eq_of_beq_eq_true hc
        subst et
        refine ⟨g0, ?_⟩
        have l1 : es.length = es'.length := l1
        show ri_gA τ' ad κ t es' e
        have g1 : ri_gA τ ad κ t es e := g1
        rcases Nat.lt_or_ge t 3 with k3 | k3
        · rw [ri_gA_i (by omega)] at g1 ⊢
          obtain ⟨u, e1, e2⟩ := g1
          refine ⟨u, by rw [e1, l1], fun j c hj => ?_⟩
          obtain ⟨a', m1, m2⟩ := l2 j c hj
          exact ri_fV_ok hf m2 (e2 j a' m1)
        · rcases Nat.lt_or_ge t 4 with k4 | k4
          · have e3 : t = 3 := by omega
            subst e3
            obtain ⟨u, e1⟩ := g1
            exact ⟨u, by rw [e1, l1]⟩
          · rw [ri_gA_r k4] at g1 ⊢
            obtain ⟨u, e1, e2⟩ := g1
            refine ⟨u, by rw [e1, l1], fun j c hj => ?_⟩
            obtain ⟨a', m1, m2⟩ := l2 j c hj
            exact ri_fV_ok hf m2 (e2 j a' m1)
theorem ri_fH_ok (hf : ∀ x y, f x y = true → ∀ v, ri_gI τ x v → ri_gI τ' y v) {h h' : List ri_C} {ws : va_W} (hl : ri_lall (ri_fC f) h h' = true) (hH : ri_gH τ κ h ws) : ri_gH τ' κ h' ws := by
  obtain ⟨l1, l2⟩ := ri_lall_ok hl
  refine ⟨by rw [hH.1, l1], fun k c hk => ?_⟩
  obtain ⟨a, m1, m2⟩ := l2 k c hk
  obtain ⟨q, e, n1, n2⟩ := hH.2 k a m1
  exact ⟨q, e, n1, ri_fC_ok hf m2 n2⟩
end RI26
/-- the same interval, without a tag -/
def ri_f0 (x y : ri_I) : Bool := cond (Nat.beq x.1 0) (ri_ieq x y) false
theorem ri_f0_ok {τ τ' : Nat → Int} : ∀ x y, ri_f0 x y = true → ∀ v, ri_gI τ x v → ri_gI τ' y v := by
  intro x y h v hv
  unfold ri_f0 at h
  cases hc : Nat.beq x.1 0 with
  | false => rw [hc] at h; cases h
  | true =>
    rw [hc] at h
    have e := Nat.eq_of_beq_eq_true hc
    refine ri_ieq_ok h ?_
    obtain ⟨k, a, b⟩ := x
    have e : k = 0 := e
    subst e
    exact ri_gI_0.mpr (ri_gI_0.mp hv)
/-- the end of a constructor: these cells, so much made -/
noncomputable def ri_chkH (h : List ri_C) (N Z : Nat) (o : Option (List ri_O)) : Bool := match o with
  | some (.inl q :: []) => (match q.1 with
    | none => cond (Nat.beq q.2.2.1 N) (cond (Nat.beq q.2.2.2 Z) (ri_lall (ri_fC ri_f0) q.2.1 h) false) false
    | some _ => false)
  | _ => false
theorem ri_chkH_ok {h : List ri_C} {N Z : Nat} {o : Option (List ri_O)} (g : ri_chkH h N Z o = true) : ∃ h', o = some [.inl (none, h', N, Z)] ∧ ri_lall (ri_fC ri_f0) h' h = true := by
  rcases o with _ | _ | ⟨q | q, _ | ⟨_, _⟩⟩
  · cases g
  · cases g
  · obtain ⟨a, h', N', Z'⟩ := q
    rcases a with _ | a
    · have g : cond (Nat.beq N' N) (cond (Nat.beq Z' Z) (ri_lall (ri_fC ri_f0) h' h) false) false = true := g
      cases c1 : Nat.beq N' N with
      | false => rw [c1] at g; cases g
      | true =>
        cases c2 : Nat.beq Z' Z with
        | false => rw [c1, c2] at g; cases g
        | true =>
          rw [c1, c2] at g
          rw [Nat.eq_of_beq_eq_true c1, Nat.eq_of_beq_eq_true c2]
          exact ⟨h', rfl, g⟩
    · cases g
  · cases g
  · cases g
  · cases g
def ri_Qn (κ : Nat → ClassId) (D : va_G) (ws : va_W) (sz : Nat) (h : List ri_C) : Array Value → State → Outcome → State → Prop := fun _ st oc t => (∃ ws' : va_W, oc = .returned none ∧ (∀ τ, ri_gH τ κ h ws') ∧ ri_ad ws <+: ri_ad ws' ∧ va_P D vwCl ws' t.heap ∧ va_D (va_A ws sz) ws') ∧ va_F (va_A ws sz) st t
/-- a constructor: what it makes -/
theorem ri_made {mi ci n k N Z : Nat} {h : List ri_C} {fs : List ri_V} (hc : ri_chkH h N Z (ri_run ([], []) rD mt (999, 0) n 20 mi (0, ri_ent [] k, [], [.inl (ci, fs)], 0, 0)) = true) (hl : ∀ q, mT[mi]? = some q → 1 ≤ q.2.2.1) (l : Launch) {κ : Nat → ClassId} {D : va_G} {ws : va_W} {q0 : Nat} (sz : Nat) {y : MethodName} {cc : ByteArray} {nL : Nat} {ret : Option FieldType} (hm : mT[mi]? = some (y, cc, nL, ret)) (hH : ri_gH (fun _ => 0) κ [.inl (ci, fs)] ws) (hq0 : (ri_ad ws)[0]? = some q0) : Met l y (.code y cc nL ret :: gU) (ri_rm 20 N Z) (ri_Pc κ D ws sz [.ref q0]) (ri_Qn κ D ws sz h) N Z (va_A ws sz) := by
  obtain ⟨h', ho, hal⟩ := ri_chkH_ok hc
  have hsound := ri_sound (E := ([], [])) (τ := fun _ => 0) (stop := (999, 0)) co_all ao_all tab_all (ri_okE0 _) n
  have hmet := ri_met (l := l) (κ := κ) (D := D) (ws := ws) (vs := [.ref q0]) (N1 := N) (Z1 := Z) tab_all hsound ho hm (fun o ho => by
    rw [List.mem_singleton.mp ho]
    exact ⟨_, rfl, rfl, rfl⟩) (Nat.zero_le _) (Nat.zero_le _) sz hH (fun v hv => by
      rw [List.mem_singleton.mp hv]
      rfl) (hl _ hm) (fun i x hx => by
      have hx := ri_pad_at hx
      cases i with
      | zero =>
        cases hx
        exact ⟨.ref q0, rfl, q0, hq0, rfl⟩
      | succ i => simp at hx)
  refine MetFree.mono hmet (fun _ _ g => g) (fun _ _ _ _ _ g => g) (fun a st o t _ hQ => ?_)
  obtain ⟨⟨⟨q, rv, ws', ov, m1, m2, m3, m4, m5, m6, m7, m8⟩, m9⟩, hf⟩ := hQ
  have e0 := List.mem_singleton.mp m1
  cases e0
  have g := m8 [] [] trivial
  have g : ri_gS (fun _ => 0) (ri_ad ws') [] (rv ++ []) := g
  rw [List.append_nil] at g
  have := ri_gS_nil g
  subst this
  refine ⟨⟨⟨ws', ?_, fun τ => ri_fH_ok ri_f0_ok hal m4, m5, m6, m7⟩, m9⟩, hf⟩
  cases ov with
  | none => exact m2
  | some u => cases m3
