/-! What a state of the interpreter says of the machine's -/
def ri_gV (τ : Nat → Int) (ad : List Nat) (a : ri_V) (v : Value) : Prop := match a with
  | .inl x => ∃ z : Int32, v = .int z ∧ ri_gI τ x z
  | .inr (.inl none) => v = .null
  | .inr (.inl (some k)) => ∃ q : Nat, ad[k]? = some q ∧ v = .ref q
  | .inr (.inr _) => ∃ z : Int64, v = .long z
theorem ri_gV_cat {τ : Nat → Int} {ad : List Nat} {a : ri_V} {v : Value} (h : ri_gV τ ad a v) (hl : ri_isL a = false) : v.category = 1 := by
  rcases a with x | x | x
  · obtain ⟨z, rfl, -⟩ := h
    rfl
  · cases x with
    | none => cases h; rfl
    | some k =>
      obtain ⟨q, -, rfl⟩ := h
      rfl
  · cases hl
theorem ri_gV_mono {τ : Nat → Int} {ad ad' : List Nat} {a : ri_V} {v : Value} (h : ri_gV τ ad a v) (hp : ad <+: ad') : ri_gV τ ad' a v := by
  rcases a with x | x | x
  · exact h
  · cases x with
    | none => exact h
    | some k =>
      obtain ⟨q, hq, e⟩ := h
      obtain ⟨t, rfl⟩ := hp
      refine ⟨q, ?_, e⟩
      rw [List.getElem?_append_left (List.getElem?_eq_some_iff.mp hq).1]
      exact hq
  · exact h
def ri_gS (τ : Nat → Int) (ad : List Nat) : List ri_V → List Value → Prop
  | [], [] => True
  | a :: l, v :: m => ri_gV τ ad a v ∧ ri_gS τ ad l m
  | [], _ :: _ => False
  | _ :: _, [] => False
theorem ri_gS_cons {τ : Nat → Int} {ad : List Nat} {a : ri_V} {l : List ri_V} {st : List Value} (h : ri_gS τ ad (a :: l) st) : ∃ v m, st = v :: m ∧ ri_gV τ ad a v ∧ ri_gS τ ad l m := by
  cases st with
  | nil => exact h.elim
  | cons v m => exact ⟨v, m, rfl, h.1, h.2⟩
theorem ri_gS_nil {τ : Nat → Int} {ad : List Nat} {st : List Value} (h : ri_gS τ ad [] st) : st = [] := by
  cases st with
  | nil => rfl
  | cons v m => exact h.elim
theorem ri_gS_mono {τ : Nat → Int} {ad ad' : List Nat} (hp : ad <+: ad') : ∀ {l : List ri_V} {m : List Value}, ri_gS τ ad l m → ri_gS τ ad' l m
  | [], [], _ => trivial
  | _ :: _, _ :: _, h => ⟨ri_gV_mono h.1 hp, ri_gS_mono hp h.2⟩
  | [], _ :: _, h => h.elim
  | _ :: _, [], h => h.elim
theorem ri_gS_len {τ : Nat → Int} {ad : List Nat} : ∀ {l : List ri_V} {m : List Value}, ri_gS τ ad l m → m.length = l.length
  | [], [], _ => rfl
  | _ :: _, _ :: _, h => congrArg Nat.succ (ri_gS_len h.2)
  | [], _ :: _, h => h.elim
  | _ :: _, [], h => h.elim
/-- the fields of an object -/
def ri_gF (τ : Nat → Int) (ad : List Nat) (fs : List ri_V) (vs : List Value) : Prop := vs.length = fs.length ∧ ∀ (k : Nat) (a : ri_V), fs[k]? = some a → ∃ v, vs[k]? = some v ∧ ri_gV τ ad a v
theorem ri_gF_set {τ : Nat → Int} {ad : List Nat} {fs : List ri_V} {vs : List Value} (h : ri_gF τ ad fs vs) (k : Nat) {a : ri_V} {v : Value} (hv : ri_gV τ ad a v) : ri_gF τ ad (fs.set k a) (vs.set k v) := by
  refine ⟨by rw [List.length_set, List.length_set]; exact h.1, fun j b hb => ?_⟩
  rw [List.getElem?_set] at hb ⊢
  by_cases e : k = j
  · subst e
    rw [if_pos rfl] at hb ⊢
    by_cases hl : k < fs.length
    · rw [if_pos hl] at hb
      cases hb
      rw [if_pos (by rw [h.1]; exact hl)]
      exact ⟨v, rfl, hv⟩
    · rw [if_neg hl] at hb
      cases hb
  · rw [if_neg e] at hb ⊢
    exact h.2 j b hb
theorem ri_gF_mono {τ : Nat → Int} {ad ad' : List Nat} {fs : List ri_V} {vs : List Value} (h : ri_gF τ ad fs vs) (hp : ad <+: ad') : ri_gF τ ad' fs vs := ⟨h.1, fun k a ha => by
  obtain ⟨v, h1, h2⟩ := h.2 k a ha
  exact ⟨v, h1, ri_gV_mono h2 hp⟩⟩
/-- the elements of an array, by its type's number -/
def ri_gA (τ : Nat → Int) (ad : List Nat) (κ : Nat → ClassId) (t : Nat) (es : List ri_V) (e : va_E) : Prop := match t with
  | 3 => ∃ f : Nat → Int64, e = .inl (κ 3, es.length, .inr (.inl f))
  | 0 => ∃ f : Nat → Int32, e = .inl (κ 0, es.length, .inl f) ∧ ∀ (j : Nat) (a : ri_V), es[j]? = some a → ri_gV τ ad a (.int (f j))
  | 1 => ∃ f : Nat → Int32, e = .inl (κ 1, es.length, .inl f) ∧ ∀ (j : Nat) (a : ri_V), es[j]? = some a → ri_gV τ ad a (.int (f j))
  | 2 => ∃ f : Nat → Int32, e = .inl (κ 2, es.length, .inl f) ∧ ∀ (j : Nat) (a : ri_V), es[j]? = some a → ri_gV τ ad a (.int (f j))
  | t => ∃ f : Nat → Option Nat, e = .inl (κ t, es.length, .inr (.inr (.inr (.inr f)))) ∧ ∀ (j : Nat) (a : ri_V), es[j]? = some a → ri_gV τ ad a (va_rf (f j))
theorem ri_gA_i {τ : Nat → Int} {ad : List Nat} {κ : Nat → ClassId} {t : Nat} {es : List ri_V} {e : va_E} (ht : t ≤ 2) : ri_gA τ ad κ t es e ↔ ∃ f : Nat → Int32, e = .inl (κ t, es.length, .inl f) ∧ ∀ (j : Nat) (a : ri_V), es[j]? = some a → ri_gV τ ad a (.int (f j)) := by
  rcases t with _ | _ | _ | t
  · exact Iff.rfl
  · exact Iff.rfl
  · exact Iff.rfl
  · omega
theorem ri_gA_r {τ : Nat → Int} {ad : List Nat} {κ : Nat → ClassId} {t : Nat} {es : List ri_V} {e : va_E} (ht : 4 ≤ t) : ri_gA τ ad κ t es e ↔ ∃ f : Nat → Option Nat, e = .inl (κ t, es.length, .inr (.inr (.inr (.inr f)))) ∧ ∀ (j : Nat) (a : ri_V), es[j]? = some a → ri_gV τ ad a (va_rf (f j)) := by
  rcases t with _ | _ | _ | _ | t
  · omega
  · omega
  · omega
  · omega
  · exact Iff.rfl
theorem ri_gA_mono {τ : Nat → Int} {ad ad' : List Nat} {κ : Nat → ClassId} {t : Nat} {es : List ri_V} {e : va_E} (h : ri_gA τ ad κ t es e) (hp : ad <+: ad') : ri_gA τ ad' κ t es e := by
  rcases Nat.lt_or_ge t 3 with g | g
  · rw [ri_gA_i (by omega)] at h ⊢
    obtain ⟨f, h1, h2⟩ := h
    exact ⟨f, h1, fun j a ha => ri_gV_mono (h2 j a ha) hp⟩
  · rcases Nat.lt_or_ge t 4 with g4 | g4
    · rw [show t = 3 by omega] at h ⊢
      exact h
    · rw [ri_gA_r g4] at h ⊢
      obtain ⟨f, h1, h2⟩ := h
      exact ⟨f, h1, fun j a ha => ri_gV_mono (h2 j a ha) hp⟩
/-- every array has its length and its class -/
theorem ri_gA_len {τ : Nat → Int} {ad : List Nat} {κ : Nat → ClassId} {t : Nat} {es : List ri_V} {e : va_E} (h : ri_gA τ ad κ t es e) : ∃ x : vp_A, e = .inl (κ t, x) ∧ x.1 = es.length := by
  rcases Nat.lt_or_ge t 3 with g | g
  · obtain ⟨f, h1, -⟩ := (ri_gA_i (by omega)).mp h
    exact ⟨_, h1, rfl⟩
  · rcases Nat.lt_or_ge t 4 with g4 | g4
    · have e3 : t = 3 := by omega
      subst e3
      obtain ⟨f, h1⟩ := h
      exact ⟨_, h1, rfl⟩
    · obtain ⟨f, h1, -⟩ := (ri_gA_r g4).mp h
      exact ⟨_, h1, rfl⟩
def ri_gC (τ : Nat → Int) (ad : List Nat) (κ : Nat → ClassId) (c : ri_C) (e : va_E) : Prop := match c with
  | .inl o => ∃ vs, e = .inr (o.1, vs) ∧ ri_gF τ ad o.2 vs
  | .inr o => o.1 ≤ 7 ∧ ri_gA τ ad κ o.1 o.2 e
theorem ri_gC_mono {τ : Nat → Int} {ad ad' : List Nat} {κ : Nat → ClassId} {c : ri_C} {e : va_E} (h : ri_gC τ ad κ c e) (hp : ad <+: ad') : ri_gC τ ad' κ c e := by
  cases c with
  | inl o =>
    obtain ⟨vs, h1, h2⟩ := h
    exact ⟨vs, h1, ri_gF_mono h2 hp⟩
  | inr o => exact ⟨h.1, ri_gA_mono h.2 hp⟩
abbrev ri_ad (ws : va_W) : List Nat := ws.map Prod.fst
def ri_gH (τ : Nat → Int) (κ : Nat → ClassId) (h : List ri_C) (ws : va_W) : Prop := ws.length = h.length ∧ ∀ (k : Nat) (c : ri_C), h[k]? = some c → ∃ (a : Nat) (e : va_E), ws[k]? = some (a, e) ∧ ri_gC τ (ri_ad ws) κ c e
theorem ri_ad_at {ws : va_W} {k a : Nat} {e : va_E} (h : ws[k]? = some (a, e)) : (ri_ad ws)[k]? = some a := by
  rw [List.getElem?_map, h]
  rfl
theorem ri_ad_set {ws : va_W} {k a : Nat} {e e' : va_E} (h : ws[k]? = some (a, e)) : ri_ad (ws.set k (a, e')) = ri_ad ws := by
  apply List.ext_getElem?
  intro j
  rw [List.getElem?_map, List.getElem?_map, List.getElem?_set]
  by_cases hj : k = j
  · subst hj
    rw [if_pos rfl, if_pos (List.getElem?_eq_some_iff.mp h).1, h]
    rfl
  · rw [if_neg hj]
theorem ri_gH_set {τ : Nat → Int} {κ : Nat → ClassId} {h : List ri_C} {ws : va_W} (hH : ri_gH τ κ h ws) {k a : Nat} {e e' : va_E} (hk : ws[k]? = some (a, e)) {c' : ri_C} (hc : ri_gC τ (ri_ad ws) κ c' e') : ri_gH τ κ (h.set k c') (ws.set k (a, e')) := by
  refine ⟨by rw [List.length_set, List.length_set]; exact hH.1, fun j c hj => ?_⟩
  rw [ri_ad_set hk]
  rw [List.getElem?_set] at hj ⊢
  by_cases e0 : k = j
  · subst e0
    rw [if_pos rfl] at hj ⊢
    have hl := (List.getElem?_eq_some_iff.mp hk).1
    rw [if_pos (by rw [← hH.1]; exact hl)] at hj
    cases hj
    rw [if_pos hl]
    exact ⟨a, e', rfl, hc⟩
  · rw [if_neg e0] at hj ⊢
    exact hH.2 j c hj
theorem ri_gH_app {τ : Nat → Int} {κ : Nat → ClassId} {h cs : List ri_C} {ws es : va_W} (hH : ri_gH τ κ h ws) (hl : es.length = cs.length) (hc : ∀ (k : Nat) (c : ri_C), cs[k]? = some c → ∃ (a : Nat) (e : va_E), es[k]? = some (a, e) ∧ ri_gC τ (ri_ad (ws ++ es)) κ c e) : ri_gH τ κ (h ++ cs) (ws ++ es) := by
  refine ⟨by rw [List.length_append, List.length_append, hH.1, hl], fun j c hj => ?_⟩
  rcases Nat.lt_or_ge j h.length with g | g
  · rw [List.getElem?_append_left g] at hj
    obtain ⟨a, e, h1, h2⟩ := hH.2 j c hj
    refine ⟨a, e, ?_, ri_gC_mono h2 ⟨ri_ad es, by simp [ri_ad]⟩⟩
    rw [List.getElem?_append_left (by rw [hH.1]; exact g)]
    exact h1
  · rw [List.getElem?_append_right g] at hj
    obtain ⟨a, e, h1, h2⟩ := hc _ c hj
    refine ⟨a, e, ?_, h2⟩
    rw [List.getElem?_append_right (by rw [hH.1]; exact g), hH.1]
    exact h1
/-- the locals -/
def ri_gL (τ : Nat → Int) (ad : List Nat) (A : List (Option ri_V)) (nL : Nat) (ls : Array Slot) : Prop := ∃ l : List (Nat × Value), lv_has ls nL l ∧ ∀ (i : Nat) (a : ri_V), A[i]? = some (some a) → ∃ v, (i, v) ∈ l ∧ ri_gV τ ad a v ∧ v.category = 1
theorem ri_gL_mono {τ : Nat → Int} {ad ad' : List Nat} {A : List (Option ri_V)} {nL : Nat} {ls : Array Slot} (h : ri_gL τ ad A nL ls) (hp : ad <+: ad') : ri_gL τ ad' A nL ls := by
  obtain ⟨l, h1, h2⟩ := h
  refine ⟨l, h1, fun i a ha => ?_⟩
  obtain ⟨v, g1, g2, g3⟩ := h2 i a ha
  exact ⟨v, g1, ri_gV_mono g2 hp, g3⟩
theorem ri_gL_get {τ : Nat → Int} {ad : List Nat} {A : List (Option ri_V)} {nL : Nat} {ls : Array Slot} (h : ri_gL τ ad A nL ls) {i : Nat} {a : ri_V} (ha : A[i]? = some (some a)) : ∃ v, ls[i]? = some (.val v) ∧ ri_gV τ ad a v := by
  obtain ⟨l, h1, h2⟩ := h
  obtain ⟨v, g1, g2, -⟩ := h2 i a ha
  exact ⟨v, h1.2.2 _ g1, g2⟩
/-- what a store leaves -/
theorem ri_gL_set {τ : Nat → Int} {ad : List Nat} {A : List (Option ri_V)} {nL i : Nat} {a : ri_V} {v : Value} {l : List (Nat × Value)} {ls' : Array Slot} (h2 : ∀ (i : Nat) (a : ri_V), A[i]? = some (some a) → ∃ v, (i, v) ∈ l ∧ ri_gV τ ad a v ∧ v.category = 1) (hv : ri_gV τ ad a v) (hc : v.category = 1) (hs : lv_has ls' nL ((i, v) :: l.filter (fun q => !(q.1 == i) && !(q.1 + 1 == i && q.2.category == 2)))) : ri_gL τ ad (A.set i (some a)) nL ls' := by
  refine ⟨_, hs, fun j b hb => ?_⟩
  rw [List.getElem?_set] at hb
  by_cases e : i = j
  · subst e
    rw [if_pos rfl] at hb
    by_cases hl : i < A.length
    · rw [if_pos hl] at hb
      cases hb
      exact ⟨v, List.mem_cons_self, hv, hc⟩
    · rw [if_neg hl] at hb
      cases hb
  · rw [if_neg e] at hb
    obtain ⟨w, g1, g2, g3⟩ := h2 j b hb
    refine ⟨w, List.mem_cons_of_mem _ (List.mem_filter.mpr ⟨g1, ?_⟩), g2, g3⟩
    have e' : ¬ j = i := fun q => e q.symm
    simp [e', g3]
/-- how a method begins -/
theorem ri_args_mem : ∀ (vs : List Value) (k : Nat), (∀ v ∈ vs, v.category = 1) → ∀ (i : Nat) (v : Value), vs[i]? = some v → (k + i, v) ∈ lv_args k vs
  | [], _, _, i, v, h => by simp at h
  | w :: vs, k, hc, i, v, h => by
    have hw : w.category = 1 := hc w List.mem_cons_self
    have e : lv_args k (w :: vs) = (k, w) :: lv_args (k + 1) vs := by
      show (k, w) :: lv_args (if w.category = 2 then k + 2 else k + 1) vs = _
      rw [hw]
      rfl
    rw [e]
    cases i with
    | zero =>
      simp at h
      rw [h]
      exact List.mem_cons_self
    | succ i =>
      have := ri_args_mem vs (k + 1) (fun v hv => hc v (List.mem_cons_of_mem _ hv)) i v (by simpa using h)
      rw [show k + (i + 1) = k + 1 + i by omega]
      exact List.mem_cons_of_mem _ this
theorem ri_sl_len : ∀ (vs : List Value), (∀ v ∈ vs, v.category = 1) → (lg_sl vs).length = vs.length
  | [], _ => rfl
  | w :: vs, hc => by
    have hw : w.category = 1 := hc w List.mem_cons_self
    have ih := ri_sl_len vs (fun v hv => hc v (List.mem_cons_of_mem _ hv))
    unfold lg_sl at ih ⊢
    rw [List.flatMap_cons, List.length_append, ih]
    simp [hw, Nat.add_comm]
theorem ri_gL_entry {τ : Nat → Int} {ad : List Nat} {A : List (Option ri_V)} {vs : List Value} {nL : Nat} (hc : ∀ v ∈ vs, v.category = 1) (hn : vs.length ≤ nL) (hA : ∀ (i : Nat) (a : ri_V), A[i]? = some (some a) → ∃ v, vs[i]? = some v ∧ ri_gV τ ad a v) : ri_gL τ ad A nL ((lg_sl vs ++ List.replicate (nL - (lg_sl vs).length) Slot.unset).toArray) := by
  refine ⟨_, lv_entry vs (by rw [ri_sl_len vs hc]; exact hn), fun i a ha => ?_⟩
  obtain ⟨v, h1, h2⟩ := hA i a ha
  have := ri_args_mem vs 0 hc i v h1
  rw [Nat.zero_add] at this
  exact ⟨v, this, h2, hc v (List.mem_of_getElem? h1)⟩
