/-! The reference by hand: slots and their types, overlay entries -/
/-- the type of the int in a slot -/
noncomputable def mTy (KK : List (List rt_K)) (g i j : Nat) : Option (Int × Int) := match ri_nth mK i with
  | none => none
  | some k => (match rt_kd KK g k with
    | none => none
    | some kd => (match rt_sT kd j with
      | some f => (match f.2 with
        | .inl a => some a
        | .inr _ => none)
      | none => none))
/-- the field's array -/
noncomputable def mRf (KK : List (List rt_K)) (g f i : Nat) : Bool := match rt_kd KK g 79 with
  | some (.inl o) => (match ri_nth o.2 f with
    | some q => (match q.2 with
      | .inr (.inl k) => (match ri_nth mK i with
        | some k' => Nat.beq k k'
        | none => false)
      | _ => false)
    | none => false)
  | _ => false
section MT
variable {KK : List (List rt_K)} {κ : Nat → ClassId} {ad : List Nat} {g : Nat} {ws : va_W} {τ : List Int} {ν : List Nat} {lm : List Int64}
theorem m_int (hH : rt_gH KK g κ mK ad ws) {i j : Nat} {a : Int × Int} (h : mTy KK g i j = some a) : ∃ (q : Nat) (e : va_E), ws[i]? = some (q, e) ∧ rt_sl e j = some (.int (mz ws i j)) ∧ a.1 ≤ mv ws i j ∧ mv ws i j ≤ a.2 := by
  unfold mTy at h
  rw [ri_nth_eq] at h
  cases hk : mK[i]? with
  | none => rw [hk] at h; cases h
  | some k =>
    rw [hk] at h
    have h : (match (generalizing := false) rt_kd KK g k with
      | none => none
      | some kd => (match (generalizing := false) rt_sT kd j with
        | some f => (match (generalizing := false) f.2 with
          | .inl a => some a
          | .inr _ => none)
        | none => none)) = some a := h
    cases hkd : rt_kd KK g k with
    | none => rw [hkd] at h; cases h
    | some kd =>
      rw [hkd] at h
      have h : (match (generalizing := false) rt_sT kd j with
        | some f => (match (generalizing := false) f.2 with
          | .inl a => some a
          | .inr _ => none)
        | none => none) = some a := h
      rcases hf : rt_sT kd j with _ | ⟨fl, b | b⟩
      · rw [hf] at h; cases h
      · rw [hf] at h
        cases h
        obtain ⟨q, e, kd', h1, h2, h3⟩ := hH i k hk
        have : kd' = kd := Option.some.inj (h2.symm.trans hkd)
        subst this
        obtain ⟨v, e1, z, rfl, e2, e3⟩ := h3.2 j (fl, .inl a) hf
        have ez : mz ws i j = z := by
          unfold mz
          rw [h1]
          show (match rt_sl e j with
            | some (.int z) => z
            | _ => 0) = z
          rw [e1]
        refine ⟨q, e, h1, by rw [e1, ez], ?_, ?_⟩
        · show a.1 ≤ (mz ws i j).toInt
          rw [ez]
          exact e2
        · show (mz ws i j).toInt ≤ a.2
          rw [ez]
          exact e3
      · rw [hf] at h; cases h
theorem m_cell0 (hH : rt_gH KK g κ mK ad ws) (had : ri_ad ws = ad) {o : Nat × List rt_F} (hk : rt_kd KK g 79 = some (.inl o)) : ∃ (q : Nat) (vs : List Value), ws[0]? = some (q, .inr (o.1, vs)) ∧ ad[0]? = some q ∧ vs.length = o.2.length := by
  obtain ⟨q, e, kd, h1, h2, h3⟩ := hH 0 79 rfl
  have : kd = .inl o := Option.some.inj (h2.symm.trans hk)
  subst this
  obtain ⟨vs, rfl, hl⟩ := h3.1
  exact ⟨q, vs, h1, by rw [← had]; exact ri_ad_at h1, hl⟩
/-- the field holds the array's address -/
theorem m_ref (hH : rt_gH KK g κ mK ad ws) (had : ri_ad ws = ad) {f i : Nat} (h : mRf KK g f i = true) : ∃ (q0 q : Nat) (e0 e : va_E), ws[0]? = some (q0, e0) ∧ ws[i]? = some (q, e) ∧ rt_sl e0 f = some (.ref q) ∧ ad[i]? = some q := by
  unfold mRf at h
  rcases hkd : rt_kd KK g 79 with _ | o | o
  · rw [hkd] at h; cases h
  · rw [hkd] at h
    have h : (match (generalizing := false) ri_nth o.2 f with
      | some q => (match (generalizing := false) q.2 with
        | .inr (.inl k) => (match (generalizing := false) ri_nth mK i with
          | some k' => Nat.beq k k'
          | none => false)
        | _ => false)
      | none => false) = true := h
    rcases hf : ri_nth o.2 f with _ | ⟨fl, a | k | b⟩
    · rw [hf] at h; cases h
    · rw [hf] at h; cases h
    · rw [hf] at h
      have h : (match (generalizing := false) ri_nth mK i with
        | some k' => Nat.beq k k'
        | none => false) = true := h
      rw [ri_nth_eq] at h
      cases hi : mK[i]? with
      | none => rw [hi] at h; cases h
      | some k' =>
        rw [hi] at h
        have h := Nat.eq_of_beq_eq_true h
        subst h
        obtain ⟨q0, e0, kd, h1, h2, h3⟩ := hH 0 79 rfl
        have : kd = .inl o := Option.some.inj (h2.symm.trans hkd)
        subst this
        obtain ⟨v, e1, q, rfl, i', a1, a2⟩ := h3.2 f (fl, .inr (.inl k)) (show rt_sT (.inl o) f = _ from hf)
        have := mK_inj i i' k hi a2
        subst this
        obtain ⟨q', e', kd', g1, -, -⟩ := hH i k hi
        have : q' = q := by
          have := ri_ad_at g1
          rw [had, a1] at this
          exact (Option.some.inj this).symm
        subst this
        exact ⟨q0, q', e0, e', h1, g1, e1, a1⟩
    · rw [hf] at h; cases h
  · rw [hkd] at h; cases h
/-- an overlay entry of an int: what it says of the slot -/
theorem m_O (hi : ∀ (i j q : Nat), ad[i]? = some q → ad[j]? = some q → i = j) (had : ri_ad ws = ad) {j i : Nat} {sel : Nat × Int} {x : ri_I} {R : List Nat} {k : Nat} (hR : rt_okR mK ad R ν) (hO : rt_gO τ ν lm mK ad ws (j + 1, sel, .inl x)) (hk : R[j]? = some k) (hc : mK[i]? = some k) : ∃ b : Int, rt_bs τ sel.1 = some b ∧ 0 ≤ b + sel.2 ∧ rt_gI τ x (mz ws i (b + sel.2).toNat) := by
  obtain ⟨j', q, i', e, b, v, o1, o2, o3, o4, o5, o6, z, rfl, o8⟩ := hO
  have o1 : j + 1 = j' + 1 := o1
  have : j' = j := by omega
  subst this
  obtain ⟨q', r1, i2, r2, r3⟩ := hR.2 j' k hk
  have : q' = q := Option.some.inj (r1.symm.trans o2)
  subst this
  have := mK_inj i i2 k hc r3
  subst this
  have h4 := ri_ad_at o3
  rw [had] at h4
  have := hi i' i q' h4 r2
  subst this
  refine ⟨b, o4, o5, ?_⟩
  have ez : mz ws i' (b + sel.2).toNat = z := by
    unfold mz
    rw [o3]
    show (match rt_sl e (b + sel.2).toNat with
      | some (.int z) => z
      | _ => 0) = z
    rw [o6]
  rw [ez]
  exact o8
/-- .. at a known place -/
theorem m_O0 (hi : ∀ (i j q : Nat), ad[i]? = some q → ad[j]? = some q → i = j) (had : ri_ad ws = ad) {j i f : Nat} {x : ri_I} {R : List Nat} {k : Nat} (hR : rt_okR mK ad R ν) (hO : rt_gO τ ν lm mK ad ws (j + 1, (0, (f : Int)), .inl x)) (hk : R[j]? = some k) (hc : mK[i]? = some k) : rt_gI τ x (mz ws i f) := by
  obtain ⟨b, h1, -, h3⟩ := m_O hi had hR hO hk hc
  have h1 : b = 0 := (Option.some.inj (show some 0 = some b from h1)).symm
  subst h1
  have h3 : rt_gI τ x (mz ws i ((0 : Int) + (f : Int)).toNat) := h3
  have e : ((0 : Int) + (f : Int)).toNat = f := by omega
  rw [e] at h3
  exact h3
/-- an entry for an int in a known slot -/
theorem m_mkO (had : ri_ad ws = ad) {j i f q : Nat} {x : ri_I} {e : va_E} (hν : ν[j]? = some q) (hw : ws[i]? = some (q, e)) (hs : rt_sl e f = some (.int (mz ws i f))) (hx : rt_gI τ x (mz ws i f)) : rt_gO τ ν lm mK ad ws (j + 1, (0, (f : Int)), .inl x) := ⟨j, q, i, e, 0, .int (mz ws i f), rfl, hν, hw, rfl, by show (0 : Int) ≤ 0 + (f : Int); omega, by
  show rt_sl e ((0 : Int) + (f : Int)).toNat = _
  rw [show ((0 : Int) + (f : Int)).toNat = f by omega]
  exact hs, mz ws i f, rfl, hx⟩
theorem m_mkR {j j' i f q0 q : Nat} {k : Nat} {e0 : va_E} (hν : ν[j]? = some q0) (hν' : ν[j']? = some q) (hw : ws[0]? = some (q0, e0)) (hs : rt_sl e0 f = some (.ref q)) (ha : ad[i]? = some q) (hk : mK[i]? = some k) : rt_gO τ ν lm mK ad ws (j + 1, (0, (f : Int)), .inr (.inl (k, j' + 1))) := ⟨j, q0, 0, e0, 0, .ref q, rfl, hν, hw, rfl, by show (0 : Int) ≤ 0 + (f : Int); omega, by
  show rt_sl e0 ((0 : Int) + (f : Int)).toNat = _
  rw [show ((0 : Int) + (f : Int)).toNat = f by omega]
  exact hs, q, rfl, ⟨i, ha, hk⟩, Or.inr ⟨j', rfl, hν'⟩⟩
theorem m_gI {τ : List Int} {k : Nat} {z : Int32} (h : τ[k]? = some z.toInt) : rt_gI τ (k + 1, 0, 0) z := ⟨z.toInt, h, by show z.toInt + 0 ≤ z.toInt; omega, by show z.toInt ≤ z.toInt + 0; omega⟩
theorem m_gIe {τ : List Int} {k : Nat} {o b : Int} {z : Int32} (h : rt_gI τ (k + 1, o, o) z) (hb : τ[k]? = some b) : z.toInt = b + o := by
  obtain ⟨b', h1, h2, h3⟩ := h
  have h1 : τ[k]? = some b' := h1
  have : b' = b := Option.some.inj (h1.symm.trans hb)
  subst this
  have h2 : b' + o ≤ z.toInt := h2
  have h3 : z.toInt ≤ b' + o := h3
  omega
end MT
