/-! What a state of the typed interpreter says of locals, stack and cells -/
def rt_hk (K ad : List Nat) (q k : Nat) : Prop := ∃ i : Nat, ad[i]? = some q ∧ K[i]? = some k
def rt_gT (K ad : List Nat) (T : rt_T) (v : Value) : Prop := match T with
  | .inl a => ∃ z : Int32, v = .int z ∧ a.1 ≤ z.toInt ∧ z.toInt ≤ a.2
  | .inr (.inl k) => ∃ q : Nat, v = .ref q ∧ rt_hk K ad q k
  | .inr (.inr true) => ∃ z : Int64, v = .long z
  | .inr (.inr false) => True
/-- a slot of a cell: a field, an element -/
def rt_sl (e : va_E) (i : Nat) : Option Value := match e with
  | .inr o => o.2[i]?
  | .inl a => if i < a.2.1 then some (match a.2.2 with
    | .inl f => .int (f i)
    | .inr (.inl f) => .long (f i)
    | .inr (.inr (.inl _)) => .null
    | .inr (.inr (.inr (.inl _))) => .null
    | .inr (.inr (.inr (.inr f))) => va_rf (f i)) else none
def rt_shp (κ : Nat → ClassId) (kd : rt_K) (e : va_E) : Prop := match kd with
  | .inl o => ∃ vs : List Value, e = .inr (o.1, vs) ∧ vs.length = o.2.length
  | .inr a => (a.1 ≤ 2 ∧ ∃ f : Nat → Int32, e = .inl (κ a.1, rt_tot a.2, .inl f)) ∨ (a.1 = 3 ∧ ∃ f : Nat → Int64, e = .inl (κ 3, rt_tot a.2, .inr (.inl f))) ∨ (4 ≤ a.1 ∧ a.1 ≤ 7 ∧ ∃ f : Nat → Option Nat, e = .inl (κ a.1, rt_tot a.2, .inr (.inr (.inr (.inr f)))))
def rt_gC (κ : Nat → ClassId) (K ad : List Nat) (kd : rt_K) (e : va_E) : Prop := rt_shp κ kd e ∧ ∀ (i : Nat) (f : rt_F), rt_sT kd i = some f → ∃ v, rt_sl e i = some v ∧ rt_gT K ad f.2 v
def rt_gH (KK : List (List rt_K)) (g : Nat) (κ : Nat → ClassId) (K ad : List Nat) (ws : va_W) : Prop := ∀ (i k : Nat), K[i]? = some k → ∃ (q : Nat) (e : va_E) (kd : rt_K), ws[i]? = some (q, e) ∧ rt_kd KK g k = some kd ∧ rt_gC κ K ad kd e
/-- the slots of these flags hold the same -/
def rt_ag (fl : Nat → Prop) (KK : List (List rt_K)) (g : Nat) (K : List Nat) (ws0 ws : va_W) : Prop := ∀ (i k j : Nat) (kd : rt_K) (f : rt_F), K[i]? = some k → rt_kd KK g k = some kd → rt_sT kd j = some f → fl f.1 → ∃ (q q0 : Nat) (e e0 : va_E), ws[i]? = some (q, e) ∧ ws0[i]? = some (q0, e0) ∧ rt_sl e j = rt_sl e0 j
def rt_gV (τ : List Int) (ν : List Nat) (lm : List Int64) (K ad : List Nat) (a : rt_V) (v : Value) : Prop := match a with
  | .inl x => ∃ z : Int32, v = .int z ∧ rt_gI τ x z
  | .inr (.inl q) => ∃ p : Nat, v = .ref p ∧ rt_hk K ad p q.1 ∧ (q.2 = 0 ∨ ∃ j, q.2 = j + 1 ∧ ν[j]? = some p)
  | .inr (.inr (some t)) => ∃ z : Int64, v = .long z ∧ (t = 0 ∨ ∃ j, t = j + 1 ∧ lm[j]? = some z)
  | .inr (.inr none) => True
def rt_okR (K ad : List Nat) (R ν : List Nat) : Prop := ν.length = R.length ∧ ∀ (j k : Nat), R[j]? = some k → ∃ q, ν[j]? = some q ∧ rt_hk K ad q k
def rt_okL (L : List (Option Int)) (lm : List Int64) : Prop := lm.length = L.length ∧ ∀ (j : Nat) (c : Int), L[j]? = some (some c) → ∃ z, lm[j]? = some z ∧ z.toInt = c
def rt_okN (K ad : List Nat) (n : rt_N) (τ : List Int) (ν : List Nat) (lm : List Int64) : Prop := rt_okE n.1 τ lm ∧ rt_okR K ad n.2.1 ν ∧ rt_okL n.2.2 lm
def rt_gO (τ : List Int) (ν : List Nat) (lm : List Int64) (K ad : List Nat) (ws : va_W) (o : rt_O) : Prop := ∃ (j q i : Nat) (e : va_E) (b : Int) (v : Value), o.1 = j + 1 ∧ ν[j]? = some q ∧ ws[i]? = some (q, e) ∧ rt_bs τ o.2.1.1 = some b ∧ 0 ≤ b + o.2.1.2 ∧ rt_sl e (b + o.2.1.2).toNat = some v ∧ rt_gV τ ν lm K ad o.2.2 v
def rt_gL (τ : List Int) (ν : List Nat) (lm : List Int64) (K ad : List Nat) (A : List (Option rt_V)) (V : List (Option Value)) : Prop := ∀ (i : Nat) (x : rt_V), A[i]? = some (some x) → ∃ v, V[i]? = some (some v) ∧ rt_gV τ ν lm K ad x v
def rt_gS (τ : List Int) (ν : List Nat) (lm : List Int64) (K ad : List Nat) : List rt_V → List Value → Prop
  | [], [] => True
  | a :: l, v :: m => rt_gV τ ν lm K ad a v ∧ rt_gS τ ν lm K ad l m
  | [], _ :: _ => False
  | _ :: _, [] => False
/-- the cells: their addresses, types, what is unchanged, the ghost -/
def rt_hp (KK : List (List rt_K)) (κ : Nat → ClassId) (K ad : List Nat) (ws0 : va_W) (Φ : Nat → Int → va_W → Prop) (t0 : Int) (g s : Nat) (ws : va_W) : Prop := ri_ad ws = ad ∧ rt_gH KK g κ K ad ws ∧ rt_ag (fun f => f = 1) KK g K ws0 ws ∧ Φ g (t0 - s) ws
def rt_rl (KK : List (List rt_K)) (κ : Nat → ClassId) (K ad : List Nat) (ws0 : va_W) (Φ : Nat → Int → va_W → Prop) (t0 : Int) (S : rt_S) (a : rc_C) : Prop := ∃ (τ : List Int) (ν : List Nat) (lm : List Int64), a.1 = S.1 ∧ rt_hp KK κ K ad ws0 Φ t0 S.2.1.1 S.2.1.2 a.2.2.2 ∧ rt_okN K ad S.2.2.1 τ ν lm ∧ rt_gL τ ν lm K ad (rt_lo S) a.2.1 ∧ rt_gS τ ν lm K ad (rt_st S) a.2.2.1 ∧ ∀ o ∈ rt_ov S, rt_gO τ ν lm K ad a.2.2.2 o
/-- the ghost sees flagged slots alone; addresses are apart; classes' numbers are known -/
def rt_ctx (KK : List (List rt_K)) (K ad : List Nat) (Φ : Nat → Int → va_W → Prop) : Prop := (∀ (g : Nat) (t : Int) (ws ws' : va_W), ri_ad ws = ad → ri_ad ws' = ad → rt_ag (fun f => ¬ f = 0) KK g K ws ws' → Φ g t ws → Φ g t ws') ∧ (∀ (i j q : Nat), ad[i]? = some q → ad[j]? = some q → i = j)
section RT44
variable {τ τ' : List Int} {ν ν' : List Nat} {lm lm' : List Int64} {K ad : List Nat} {ws ws0 : va_W} {KK : List (List rt_K)} {κ : Nat → ClassId} {Φ : Nat → Int → va_W → Prop} {t0 : Int} {g s : Nat}
theorem rt_px {α : Type} {l l' : List α} (h : l <+: l') {j : Nat} {b : α} (hb : l[j]? = some b) : l'[j]? = some b := by
  obtain ⟨t, rfl⟩ := h
  rw [List.getElem?_append_left (List.getElem?_eq_some_iff.mp hb).1]
  exact hb
theorem rt_gV_mono (h1 : τ <+: τ') (h2 : ν <+: ν') (h3 : lm <+: lm') {a : rt_V} {v : Value} (h : rt_gV τ ν lm K ad a v) : rt_gV τ' ν' lm' K ad a v := by
  rcases a with x | q | _ | t
  · obtain ⟨z, e, hz⟩ := h
    exact ⟨z, e, rt_gI_mono h1 hz⟩
  · obtain ⟨p, e, hk, hn⟩ := h
    refine ⟨p, e, hk, hn.imp id ?_⟩
    rintro ⟨j, e1, e2⟩
    exact ⟨j, e1, rt_px h2 e2⟩
  · trivial
  · obtain ⟨z, e, hn⟩ := h
    refine ⟨z, e, hn.imp id ?_⟩
    rintro ⟨j, e1, e2⟩
    exact ⟨j, e1, rt_px h3 e2⟩
theorem rt_gL_mono (h1 : τ <+: τ') (h2 : ν <+: ν') (h3 : lm <+: lm') {A : List (Option rt_V)} {V : List (Option Value)} (h : rt_gL τ ν lm K ad A V) : rt_gL τ' ν' lm' K ad A V := fun i x hx => by
  obtain ⟨v, e, hv⟩ := h i x hx
  exact ⟨v, e, rt_gV_mono h1 h2 h3 hv⟩
theorem rt_gS_mono (h1 : τ <+: τ') (h2 : ν <+: ν') (h3 : lm <+: lm') : ∀ {l : List rt_V} {m : List Value}, rt_gS τ ν lm K ad l m → rt_gS τ' ν' lm' K ad l m
  | [], [], _ => trivial
  | _ :: _, _ :: _, h => ⟨rt_gV_mono h1 h2 h3 h.1, rt_gS_mono h1 h2 h3 h.2⟩
  | [], _ :: _, h => h.elim
  | _ :: _, [], h => h.elim
theorem rt_gO_mono (h1 : τ <+: τ') (h2 : ν <+: ν') (h3 : lm <+: lm') {o : rt_O} (h : rt_gO τ ν lm K ad ws o) : rt_gO τ' ν' lm' K ad ws o := by
  obtain ⟨j, q, i, e, b, v, e1, e2, e3, e4, e5, e6, e7⟩ := h
  exact ⟨j, q, i, e, b, v, e1, rt_px h2 e2, e3, rt_bs_mono h1 e4, e5, e6, rt_gV_mono h1 h2 h3 e7⟩
theorem rt_gS_cons {a : rt_V} {l : List rt_V} {st : List Value} (h : rt_gS τ ν lm K ad (a :: l) st) : ∃ v m, st = v :: m ∧ rt_gV τ ν lm K ad a v ∧ rt_gS τ ν lm K ad l m := by
  cases st with
  | nil => exact h.elim
  | cons v m => exact ⟨v, m, rfl, h.1, h.2⟩
theorem rt_gS_nil {st : List Value} (h : rt_gS τ ν lm K ad [] st) : st = [] := by
  cases st with
  | nil => rfl
  | cons v m => exact h.elim
theorem rt_gS_len : ∀ {l : List rt_V} {m : List Value}, rt_gS τ ν lm K ad l m → m.length = l.length
  | [], [], _ => rfl
  | _ :: _, _ :: _, h => congrArg Nat.succ (rt_gS_len h.2)
  | [], _ :: _, h => h.elim
  | _ :: _, [], h => h.elim
/-- tags: one more -/
theorem rt_df_mono (h1 : τ <+: τ') (h3 : lm <+: lm') {q : Bool × Nat × Int} {b : Int} (h : rt_df τ lm q b) : rt_df τ' lm' q b := by
  obtain ⟨b0, t, c⟩ := q
  cases b0 with
  | true =>
    obtain ⟨j, u, w, e1, e2, e3⟩ := h
    exact ⟨j, u, w, e1, rt_px h1 e2, e3⟩
  | false =>
    obtain ⟨j, z, w, e1, e2, e3⟩ := h
    exact ⟨j, z, w, e1, rt_px h3 e2, e3⟩
theorem rt_okB_mono (h1 : τ <+: τ') (h3 : lm <+: lm') {e : rt_B} {b : Int} (h : rt_okB τ lm e b) : rt_okB τ' lm' e b := by
  obtain ⟨g1, g2, g3, g4, g5⟩ := h
  refine ⟨g1, g2, g3.imp id ?_, g4, fun q hq => rt_df_mono h1 h3 (g5 q hq)⟩
  rintro ⟨c, e1, e2⟩
  exact ⟨c, rt_bs_mono h1 e1, e2⟩
theorem rt_okE_mono (h3 : lm <+: lm') {E : List rt_B} (h : rt_okE E τ lm) : rt_okE E τ lm' := ⟨h.1, fun k e b h1 h2 => rt_okB_mono (List.prefix_refl _) h3 (h.2 k e b h1 h2)⟩
theorem rt_okE_add {E : List rt_B} (h : rt_okE E τ lm) {e : rt_B} {b : Int} (hb : rt_okB (τ ++ [b]) lm e b) : rt_okE (E ++ [e]) (τ ++ [b]) lm := by
  refine ⟨by simp [h.1], fun k e' b' h1 h2 => ?_⟩
  rcases Nat.lt_or_ge k E.length with g | g
  · rw [List.getElem?_append_left g] at h1
    rw [List.getElem?_append_left (by rw [h.1]; exact g)] at h2
    exact rt_okB_mono ⟨[b], rfl⟩ (List.prefix_refl _) (h.2 k e' b' h1 h2)
  · rw [List.getElem?_append_right g] at h1
    rw [List.getElem?_append_right (by rw [h.1]; exact g)] at h2
    obtain ⟨g1, -⟩ := List.getElem?_eq_some_iff.mp h1
    have g1 : k - E.length < 1 := g1
    have ek : k - E.length = 0 := by omega
    rw [ek] at h1
    rw [h.1, ek] at h2
    cases h1
    cases h2
    exact hb
theorem rt_okR_add {R : List Nat} (h : rt_okR K ad R ν) {k q : Nat} (hq : rt_hk K ad q k) : rt_okR K ad (R ++ [k]) (ν ++ [q]) := by
  refine ⟨by simp [h.1], fun j k' hj => ?_⟩
  rcases Nat.lt_or_ge j R.length with g | g
  · rw [List.getElem?_append_left g] at hj
    obtain ⟨q', e1, e2⟩ := h.2 j k' hj
    exact ⟨q', rt_px ⟨[q], rfl⟩ e1, e2⟩
  · rw [List.getElem?_append_right g] at hj
    have g1 : j - R.length < 1 := (List.getElem?_eq_some_iff.mp hj).1
    have ek : j - R.length = 0 := by omega
    rw [ek] at hj
    cases hj
    refine ⟨q, ?_, hq⟩
    rw [List.getElem?_append_right (by rw [h.1]; exact g), h.1, ek]
    rfl
theorem rt_okL_add {L : List (Option Int)} (h : rt_okL L lm) {c : Option Int} {z : Int64} (hc : ∀ d, c = some d → z.toInt = d) : rt_okL (L ++ [c]) (lm ++ [z]) := by
  refine ⟨by simp [h.1], fun j d hj => ?_⟩
  rcases Nat.lt_or_ge j L.length with g | g
  · rw [List.getElem?_append_left g] at hj
    obtain ⟨z', e1, e2⟩ := h.2 j d hj
    exact ⟨z', rt_px ⟨[z], rfl⟩ e1, e2⟩
  · rw [List.getElem?_append_right g] at hj
    have g1 : j - L.length < 1 := (List.getElem?_eq_some_iff.mp hj).1
    have ek : j - L.length = 0 := by omega
    rw [ek] at hj
    have hj : some c = some (some d) := hj
    refine ⟨z, ?_, hc d (Option.some.inj hj)⟩
    rw [List.getElem?_append_right (by rw [h.1]; exact g), h.1, ek]
    rfl
theorem rt_at_end {α : Type} (l : List α) (a : α) : (l ++ [a])[l.length]? = some a := by simp
/-- the names after a value of a type -/
theorem rt_vT_ok {n : rt_N} (hN : rt_okN K ad n τ ν lm) {T : rt_T} {v : Value} (hv : rt_gT K ad T v) : ∃ (τ' : List Int) (ν' : List Nat) (lm' : List Int64), τ <+: τ' ∧ ν <+: ν' ∧ lm <+: lm' ∧ rt_okN K ad (rt_vT n T).1 τ' ν' lm' ∧ rt_gV τ' ν' lm' K ad (rt_vT n T).2 v := by
  obtain ⟨h1, h2, h3⟩ := hN
  rcases T with a | k | b
  · obtain ⟨z, rfl, ha⟩ := hv
    show ∃ τ' ν' lm', _ ∧ _ ∧ _ ∧ rt_okN K ad (cond (ri_le a.2 a.1) (n, (Sum.inl (0, a) : rt_V)) ((List.append n.1 [(a, (0, 0), none, none)], n.2), .inl (Nat.succ (ri_len n.1), 0, 0))).1 τ' ν' lm' ∧ rt_gV τ' ν' lm' K ad (cond (ri_le a.2 a.1) (n, (Sum.inl (0, a) : rt_V)) ((List.append n.1 [(a, (0, 0), none, none)], n.2), .inl (Nat.succ (ri_len n.1), 0, 0))).2 (.int z)
    cases c : ri_le a.2 a.1 with
    | true => exact ⟨τ, ν, lm, List.prefix_refl _, List.prefix_refl _, List.prefix_refl _, ⟨h1, h2, h3⟩, z, rfl, rt_gI_0.mpr ha⟩
    | false =>
      refine ⟨τ ++ [z.toInt], ν, lm, ⟨_, rfl⟩, List.prefix_refl _, List.prefix_refl _, ⟨?_, h2, h3⟩, z, rfl, z.toInt, ?_, ?_, ?_⟩
      · show rt_okE (n.1 ++ [(a, (0, 0), none, none)]) _ _
        exact rt_okE_add h1 ⟨ha.1, ha.2, Or.inl rfl, (fun c hc => by cases hc), (fun q hq => by cases hq)⟩
      · show (τ ++ [z.toInt])[ri_len n.1]? = some z.toInt
        rw [ri_len_eq, ← h1.1]
        exact rt_at_end _ _
      · show z.toInt + 0 ≤ z.toInt
        omega
      · show z.toInt ≤ z.toInt + 0
        omega
  · obtain ⟨q, rfl, hq⟩ := hv
    refine ⟨τ, ν ++ [q], lm, List.prefix_refl _, ⟨_, rfl⟩, List.prefix_refl _, ⟨h1, rt_okR_add h2 hq, h3⟩, q, rfl, hq, Or.inr ⟨ri_len n.2.1, rfl, ?_⟩⟩
    rw [ri_len_eq, ← h2.1]
    exact rt_at_end _ _
  · cases b with
    | true =>
      obtain ⟨z, rfl⟩ := hv
      refine ⟨τ, ν, lm ++ [z], List.prefix_refl _, List.prefix_refl _, ⟨_, rfl⟩, ⟨rt_okE_mono ⟨_, rfl⟩ h1, h2, rt_okL_add h3 (fun d hd => by cases hd)⟩, z, rfl, Or.inr ⟨ri_len n.2.2, rfl, ?_⟩⟩
      rw [ri_len_eq, ← h3.1]
      exact rt_at_end _ _
    | false => exact ⟨τ, ν, lm, List.prefix_refl _, List.prefix_refl _, List.prefix_refl _, ⟨h1, h2, h3⟩, trivial⟩
theorem rt_nm_ok {n : rt_N} (hN : rt_okN K ad n τ ν lm) {x : ri_I} {q : rt_N × ri_I} (h : rt_nm n x = some q) {z : Int32} (hz : rt_gI τ x z) : ∃ τ', τ <+: τ' ∧ rt_okN K ad q.1 τ' ν lm ∧ rt_gI τ' q.2 z ∧ q.1.2 = n.2 := by
  obtain ⟨h1, h2, h3⟩ := hN
  unfold rt_nm at h
  cases c : rt_ex x with
  | true =>
    rw [c] at h
    cases h
    exact ⟨τ, List.prefix_refl _, ⟨h1, h2, h3⟩, hz, rfl⟩
  | false =>
    rw [c, cond_false] at h
    cases ha : rt_abs n.1 x with
    | none => rw [ha] at h; cases h
    | some a =>
      rw [ha] at h
      cases h
      have hb := rt_abs_ok h1 ha hz
      refine ⟨τ ++ [z.toInt], ⟨_, rfl⟩, ⟨?_, h2, h3⟩, ⟨z.toInt, ?_, ?_, ?_⟩, rfl⟩
      · show rt_okE (n.1 ++ [(a, (x.1, x.2.1), none, none)]) _ _
        refine rt_okE_add h1 ⟨hb.1, hb.2, ?_, (fun c hc => by cases hc), (fun q hq => by cases hq)⟩
        obtain ⟨b, e1, e2, -⟩ := hz
        exact Or.inr ⟨b, rt_bs_mono ⟨_, rfl⟩ e1, e2⟩
      · show (τ ++ [z.toInt])[ri_len n.1]? = some z.toInt
        rw [ri_len_eq, ← h1.1]
        exact rt_at_end _ _
      · show z.toInt + 0 ≤ z.toInt
        omega
      · show z.toInt ≤ z.toInt + 0
        omega
theorem rt_nmV_ok {n : rt_N} (hN : rt_okN K ad n τ ν lm) {a : rt_V} {q : rt_N × rt_V} (h : rt_nmV n a = some q) {v : Value} (hv : rt_gV τ ν lm K ad a v) : ∃ τ', τ <+: τ' ∧ rt_okN K ad q.1 τ' ν lm ∧ rt_gV τ' ν lm K ad q.2 v ∧ q.1.2 = n.2 := by
  rcases a with x | w
  · have h : (match rt_nm n x with
      | none => none
      | some q => some (q.1, (Sum.inl q.2 : rt_V))) = some q := h
    cases hx : rt_nm n x with
    | none => rw [hx] at h; cases h
    | some p =>
      rw [hx] at h
      cases h
      obtain ⟨z, rfl, hz⟩ := hv
      obtain ⟨τ', e1, e2, e3, e4⟩ := rt_nm_ok hN hx hz
      exact ⟨τ', e1, e2, ⟨z, rfl, e3⟩, e4⟩
  · cases h
    exact ⟨τ, List.prefix_refl _, hN, hv, rfl⟩
end RT44
