/-! From runs to contracts -/
noncomputable def ri_chkR (x : ri_I) (o : Option (List ri_O)) : Bool := match o with
  | none => false
  | some outs => List.rec (motive := fun _ => Bool) true (fun a _ ih => match a with
    | .inr _ => false
    | .inl q => (match q.1 with
      | some (.inl y) => cond (ri_ieq y x) (cond (Nat.beq q.2.2.1 0) (cond (Nat.beq q.2.2.2 0) ih false) false) false
      | _ => false)) outs
theorem ri_chkR_ok {x : ri_I} {o : Option (List ri_O)} (h : ri_chkR x o = true) : ∃ outs, o = some outs ∧ ∀ a ∈ outs, ∃ q y, a = .inl q ∧ q.1 = some (.inl y) ∧ ri_ieq y x = true ∧ q.2.2.1 = 0 ∧ q.2.2.2 = 0 := by
  unfold ri_chkR at h
  cases o with
  | none => cases h
  | some outs =>
    refine ⟨outs, rfl, ?_⟩
    induction outs with
    | nil => intro a ha; cases ha
    | cons a t ih =>
      rcases a with q | q
      · obtain ⟨q1, q2⟩ := q
        rcases q1 with _ | y | y
        · cases h
        · have h : cond (ri_ieq y x) (cond (Nat.beq q2.2.1 0) (cond (Nat.beq q2.2.2 0) (List.rec (motive := fun _ => Bool) true (fun a _ ih => match a with
            | .inr _ => false
            | .inl q => (match q.1 with
              | some (.inl y) => cond (ri_ieq y x) (cond (Nat.beq q.2.2.1 0) (cond (Nat.beq q.2.2.2 0) ih false) false) false
              | _ => false)) t) false) false) false = true := h
          cases c1 : ri_ieq y x with
          | false => rw [c1] at h; cases h
          | true =>
            cases c2 : Nat.beq q2.2.1 0 with
            | false => rw [c1, c2] at h; cases h
            | true =>
              cases c3 : Nat.beq q2.2.2 0 with
              | false => rw [c1, c2, c3] at h; cases h
              | true =>
                rw [c1, c2, c3] at h
                intro a ha
                rcases List.mem_cons.mp ha with rfl | ha
                · exact ⟨_, y, rfl, rfl, c1, Nat.eq_of_beq_eq_true c2, Nat.eq_of_beq_eq_true c3⟩
                · exact ih h a ha
        · cases h
      · cases h
/-- a method that answers z, and leaves all but its own cells -/
def ri_Qz (ws : va_W) (sz : Nat) (z : Int32) : Array Value → State → Outcome → State → Prop := fun _ st oc t => oc = .returned (some (.int z)) ∧ va_F (va_A ws sz) st t
/-- at the cells h0, with the object in the first of them and the ints as, the method mi answers z -/
def ri_con (mi : Nat) (h0 : List ri_C) (as : List Int32) (z : Int32) : Prop := ∀ (l : Launch) (κ : Nat → ClassId) (D : va_G) (ws : va_W) (sz q0 : Nat) (y : MethodName) (cc : ByteArray) (nL : Nat) (ret : Option FieldType), mT[mi]? = some (y, cc, nL, ret) → (∀ τ, ri_gH τ κ h0 ws) → (ri_ad ws)[0]? = some q0 → Met l y (.code y cc nL ret :: gU) (ri_rm 20 0 0) (ri_Pc κ D ws sz (.ref q0 :: as.map .int)) (ri_Qz ws sz z) 0 0 (va_A ws sz)
/-- the abstract ints of a call's values -/
def ri_as (τ : Nat → Int) (xs : List ri_I) (as : List Int32) : Prop := match xs, as with
  | [], [] => True
  | x :: xs, a :: as => ri_gI τ x a ∧ ri_as τ xs as
  | _, _ => False
theorem ri_as_at {τ : Nat → Int} : ∀ {xs : List ri_I} {as : List Int32}, ri_as τ xs as → xs.length = as.length ∧ ∀ (i : Nat) (x : ri_I), xs[i]? = some x → ∃ a, as[i]? = some a ∧ ri_gI τ x a
  | [], [], _ => ⟨rfl, fun i x h => by simp at h⟩
  | x :: xs, a :: as, h => by
    obtain ⟨h1, h2⟩ := ri_as_at h.2
    refine ⟨by simp [h1], fun i y hy => ?_⟩
    cases i with
    | zero =>
      simp at hy
      subst hy
      exact ⟨a, rfl, h.1⟩
    | succ i => simpa using h2 i y (by simpa using hy)
  | [], _ :: _, h => h.elim
  | _ :: _, [], h => h.elim
noncomputable def ri_ent (xs : List ri_I) (n : Nat) : List (Option ri_V) := ri_pad n (some (.inr (.inl (some 0))) :: xs.map (fun x => some (.inl x)))
theorem ri_con_of {mi : Nat} {h0 : List ri_C} {as : List Int32} {z : Int32} {E : ri_E} {τ : Nat → Int} {xs : List ri_I} {x : ri_I} {n k : Nat} (hE : ri_okE E τ) (hxs : ri_as τ xs as) (hz : ∀ w : Int32, ri_gI τ x w → w = z) (h : ri_chkR x (ri_run E rD mt (999, 0) n 20 mi (0, ri_ent xs k, [], h0, 0, 0)) = true) (hl : ∀ q, mT[mi]? = some q → as.length + 1 ≤ q.2.2.1) : ri_con mi h0 as z := by
  intro l κ D ws sz q0 y cc nL ret hm hH hq0
  obtain ⟨outs, ho, hall⟩ := ri_chkR_ok h
  have hsound := ri_sound (E := E) (τ := τ) (stop := (999, 0)) co_all ao_all tab_all hE n
  obtain ⟨a1, a2⟩ := ri_as_at hxs
  have hmet := ri_met (l := l) (κ := κ) (D := D) (ws := ws) (vs := .ref q0 :: as.map .int) (N1 := 0) (Z1 := 0) tab_all hsound ho hm (fun o ho => by
    obtain ⟨q, y', e1, -, -, e2, e3⟩ := hall o ho
    exact ⟨q, e1, e2, e3⟩) (Nat.le_refl _) (Nat.le_refl _) sz (hH τ) (fun v hv => by
      rcases List.mem_cons.mp hv with rfl | hv
      · rfl
      · obtain ⟨w, -, rfl⟩ := List.mem_map.mp hv
        rfl) (by simpa using hl _ hm) (fun i x hx => by
      have hx := ri_pad_at hx
      cases i with
      | zero =>
        cases hx
        exact ⟨.ref q0, rfl, q0, hq0, rfl⟩
      | succ i =>
        have hx : (xs.map (fun x => some (Sum.inl x : ri_V)))[i]? = some (some x) := by simpa using hx
        rw [List.getElem?_map] at hx
        cases hxi : xs[i]? with
        | none => rw [hxi] at hx; cases hx
        | some x' =>
          rw [hxi] at hx
          cases hx
          obtain ⟨w, e1, e2⟩ := a2 i x' hxi
          exact ⟨.int w, by simp [e1], w, rfl, e2⟩)
  refine MetFree.mono hmet (fun _ _ g => g) (fun _ _ _ _ _ g => g) (fun a st o t _ hQ => ?_)
  obtain ⟨⟨⟨q, rv, ws', ov, m1, m2, m3, m4, m5, m6, m7, m8⟩, m9⟩, hf⟩ := hQ
  refine ⟨⟨?_, m9⟩, hf⟩
  obtain ⟨q', y', e1, e2, e3, -, -⟩ := hall _ m1
  cases e1
  have g := m8 [] [] trivial
  rw [e2] at g
  have g : ri_gS τ (ri_ad ws') [.inl y'] (rv ++ []) := g
  rw [List.append_nil] at g
  obtain ⟨v, st1, rfl, ⟨w, rfl, gw⟩, g2⟩ := ri_gS_cons g
  have := ri_gS_nil g2
  subst this
  have ew := hz w (ri_ieq_ok e3 gw)
  subst ew
  cases ov with
  | none => cases m3
  | some u =>
    cases m3
    exact m2
theorem ri_okE0 (τ : Nat → Int) : ri_okE ([], []) τ := ⟨fun k b h => by simp at h, fun q hq => by cases hq⟩
/-- the class and the reference answer alike -/
def ri_agree (mX mM : Nat) (as : List Int32) : Prop := ∃ z : Int32, ri_con mX hX as z ∧ ri_con mM hM as z
theorem ri_zz {τ : Nat → Int} {c : Int} {z : Int32} (hz : z.toInt = c) : ∀ w : Int32, ri_gI τ (0, c, c) w → w = z := fun w hw => by
  have := ri_gI_0.mp hw
  exact Int32.toInt_inj.mp (by omega)
theorem ri_agree_of {mX mM : Nat} {as : List Int32} {xs : List ri_I} {c : Int} {z : Int32} {n1 n2 k1 k2 : Nat} (hxs : ri_as (fun _ => 0) xs as) (hz : z.toInt = c) (h1 : ri_chkR (0, c, c) (ri_run ([], []) rD mt (999, 0) n1 20 mX (0, ri_ent xs k1, [], hX, 0, 0)) = true) (h2 : ri_chkR (0, c, c) (ri_run ([], []) rD mt (999, 0) n2 20 mM (0, ri_ent xs k2, [], hM, 0, 0)) = true) (hl1 : ∀ q, mT[mX]? = some q → as.length + 1 ≤ q.2.2.1) (hl2 : ∀ q, mT[mM]? = some q → as.length + 1 ≤ q.2.2.1) : ri_agree mX mM as := ⟨z, ri_con_of (ri_okE0 _) hxs (ri_zz hz) h1 hl1, ri_con_of (ri_okE0 _) hxs (ri_zz hz) h2 hl2⟩
