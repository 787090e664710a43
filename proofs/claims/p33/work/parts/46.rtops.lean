/-! A step of the typed interpreter is a step of the machine over lists -/
/-- locals behind a store -/
def rc_mkA (A : List (Option Value)) (k : Nat) (v : Value) : List (Option Value) := (List.range (A.length + k + 1)).map (fun i => if i = k then some v else (match A[i]? with
  | some (some w) => if (i + 1 = k ∧ w.category = 2) ∨ (v.category = 2 ∧ i = k + 1) then none else some w
  | _ => none))
theorem rc_mkA_at (A : List (Option Value)) (k : Nat) (v : Value) (i : Nat) (hi : i < A.length + k + 1) : (rc_mkA A k v)[i]? = some (if i = k then some v else (match A[i]? with
  | some (some w) => if (i + 1 = k ∧ w.category = 2) ∨ (v.category = 2 ∧ i = k + 1) then none else some w
  | _ => none)) := by
  unfold rc_mkA
  rw [List.getElem?_map, List.getElem?_range hi]
  rfl
theorem rc_mkA_sto (A : List (Option Value)) (k : Nat) (v : Value) : rc_sto A (rc_mkA A k v) k v := by
  intro i w h
  have hi : i < A.length + k + 1 := by
    have := (List.getElem?_eq_some_iff.mp h).1
    simpa [rc_mkA] using this
  rw [rc_mkA_at A k v i hi] at h
  have h := Option.some.inj h
  by_cases e : i = k
  · rw [if_pos e] at h
    exact Or.inl ⟨e, (Option.some.inj h).symm⟩
  · rw [if_neg e] at h
    refine Or.inr ⟨e, ?_⟩
    rcases hA : A[i]? with _ | _ | w'
    · rw [hA] at h
      cases h
    · rw [hA] at h
      cases h
    · rw [hA] at h
      have h : (if (i + 1 = k ∧ w'.category = 2) ∨ (v.category = 2 ∧ i = k + 1) then none else some w') = some w := h
      by_cases c : (i + 1 = k ∧ w'.category = 2) ∨ (v.category = 2 ∧ i = k + 1)
      · rw [if_pos c] at h
        cases h
      · rw [if_neg c] at h
        cases h
        exact ⟨rfl, fun q => c (Or.inl q), fun q => c (Or.inr q)⟩
theorem rc_mkA_k (A : List (Option Value)) (k : Nat) (v : Value) : (rc_mkA A k v)[k]? = some (some v) := by
  rw [rc_mkA_at A k v k (by omega), if_pos rfl]
theorem rc_mkA_n {A : List (Option Value)} {k i : Nat} {v w : Value} (e : i ≠ k) (h : A[i]? = some (some w)) (h1 : ¬ (i + 1 = k ∧ w.category = 2)) (h2 : ¬ (v.category = 2 ∧ i = k + 1)) : (rc_mkA A k v)[i]? = some (some w) := by
  have hi := (List.getElem?_eq_some_iff.mp h).1
  rw [rc_mkA_at A k v i (by omega), if_neg e, h]
  show some (if (i + 1 = k ∧ w.category = 2) ∨ (v.category = 2 ∧ i = k + 1) then none else some w) = _
  rw [if_neg (fun c => c.elim h1 h2)]
theorem rt_set_self {α : Type} {B : List α} {k : Nat} {x y : α} (h : (B.set k x)[k]? = some y) : y = x := by
  rw [List.getElem?_set, if_pos rfl] at h
  by_cases hl : k < B.length
  · rw [if_pos hl] at h
    cases h
    rfl
  · rw [if_neg hl] at h
    cases h
section RT46
variable {τ τ' : List Int} {ν ν' : List Nat} {lm lm' : List Int64} {K ad : List Nat} {ws0 : va_W} {KK : List (List rt_K)} {κ : Nat → ClassId} {Φ : Nat → Int → va_W → Prop} {t0 : Int} {r : ri_R} {S : rt_S} {a : rc_C} {L : List rt_S}
theorem rt_gV_c1 {x : rt_V} {v : Value} (h : rt_gV τ ν lm K ad x v) (hx : rt_c1 x = true) : v.category = 1 := by
  rcases x with x | x | x
  · obtain ⟨z, rfl, -⟩ := h
    rfl
  · obtain ⟨q, rfl, -⟩ := h
    rfl
  · cases hx
/-- locals behind a store, on both sides -/
theorem rt_lset_ok {A : List (Option rt_V)} {V : List (Option Value)} (hL : rt_gL τ ν lm K ad A V) {k : Nat} {x : rt_V} {v : Value} (hv : rt_gV τ ν lm K ad x v) (hc : v.category = 1) : rt_gL τ ν lm K ad (rt_lset A k x) (rc_mkA V k v) := by
  intro i y hy
  unfold rt_lset at hy
  rw [ri_set_eq] at hy
  by_cases e : k = i
  · subst e
    cases rt_set_self hy
    exact ⟨v, rc_mkA_k V k v, hv⟩
  · rw [List.getElem?_set, if_neg e] at hy
    have e' : i ≠ k := fun q => e q.symm
    have hc2 : ¬ (v.category = 2 ∧ i = k + 1) := fun q => by omega
    cases k with
    | zero =>
      obtain ⟨w, h1, h2⟩ := hL i y hy
      exact ⟨w, rc_mkA_n e' h1 (fun q => by omega) hc2, h2⟩
    | succ j =>
      have hy : (match ri_nth A j with
        | some (some (.inr (.inr _))) => ri_set none A j
        | _ => A)[i]? = some (some y) := hy
      rw [ri_nth_eq] at hy
      by_cases ej : i = j
      · subst ej
        have key : A[i]? = some (some y) ∧ rt_c1 y = true := by
          rcases hA : A[i]? with _ | _ | z | z | z
          · rw [hA] at hy
            have hy : A[i]? = some (some y) := hy
            rw [hA] at hy
            cases hy
          · rw [hA] at hy
            have hy : A[i]? = some (some y) := hy
            rw [hA] at hy
            cases hy
          · rw [hA] at hy
            have hy : A[i]? = some (some y) := hy
            rw [hA] at hy
            cases hy
            exact ⟨rfl, rfl⟩
          · rw [hA] at hy
            have hy : A[i]? = some (some y) := hy
            rw [hA] at hy
            cases hy
            exact ⟨rfl, rfl⟩
          · rw [hA] at hy
            have hy : (ri_set none A i)[i]? = some (some y) := hy
            rw [ri_set_eq, List.getElem?_set, if_pos rfl] at hy
            split at hy
            · cases hy
            · cases hy
        obtain ⟨w, h1, h2⟩ := hL i y key.1
        have := rt_gV_c1 h2 key.2
        exact ⟨w, rc_mkA_n e' h1 (fun q => by omega) hc2, h2⟩
      · have hyA : A[i]? = some (some y) := by
          rcases hA : A[j]? with _ | _ | z | z | z
          · rw [hA] at hy; exact hy
          · rw [hA] at hy; exact hy
          · rw [hA] at hy; exact hy
          · rw [hA] at hy; exact hy
          · rw [hA] at hy
            have hy : (ri_set none A j)[i]? = some (some y) := hy
            rw [ri_set_eq, List.getElem?_set, if_neg (fun q => ej q.symm)] at hy
            exact hy
        obtain ⟨w, h1, h2⟩ := hL i y hyA
        exact ⟨w, rc_mkA_n e' h1 (fun q => by omega) hc2, h2⟩
theorem rt_lsetL_ok {A : List (Option rt_V)} {V : List (Option Value)} (hL : rt_gL τ ν lm K ad A V) {k : Nat} {t : Nat} {z : Int64} (hv : rt_gV τ ν lm K ad (.inr (.inr (some t))) (.long z)) : rt_gL τ ν lm K ad (ri_set none (rt_lset A k (.inr (.inr (some t)))) (k + 1)) (rc_mkA V k (.long z)) := by
  intro i y hy
  rw [ri_set_eq, List.getElem?_set] at hy
  by_cases e2 : k + 1 = i
  · subst e2
    rw [if_pos rfl] at hy
    split at hy
    · cases hy
    · cases hy
  · rw [if_neg e2] at hy
    unfold rt_lset at hy
    rw [ri_set_eq] at hy
    by_cases e : k = i
    · subst e
      cases rt_set_self hy
      exact ⟨.long z, rc_mkA_k V k _, hv⟩
    · rw [List.getElem?_set, if_neg e] at hy
      have e' : i ≠ k := fun q => e q.symm
      have hc2 : ¬ ((Value.long z).category = 2 ∧ i = k + 1) := fun q => e2 q.2.symm
      cases k with
      | zero =>
        obtain ⟨w, h1, h2⟩ := hL i y hy
        exact ⟨w, rc_mkA_n e' h1 (fun q => by omega) hc2, h2⟩
      | succ j =>
        have hy : (match ri_nth A j with
          | some (some (.inr (.inr _))) => ri_set none A j
          | _ => A)[i]? = some (some y) := hy
        rw [ri_nth_eq] at hy
        by_cases ej : i = j
        · subst ej
          have key : A[i]? = some (some y) ∧ rt_c1 y = true := by
            rcases hA : A[i]? with _ | _ | z | z | z
            · rw [hA] at hy
              have hy : A[i]? = some (some y) := hy
              rw [hA] at hy
              cases hy
            · rw [hA] at hy
              have hy : A[i]? = some (some y) := hy
              rw [hA] at hy
              cases hy
            · rw [hA] at hy
              have hy : A[i]? = some (some y) := hy
              rw [hA] at hy
              cases hy
              exact ⟨rfl, rfl⟩
            · rw [hA] at hy
              have hy : A[i]? = some (some y) := hy
              rw [hA] at hy
              cases hy
              exact ⟨rfl, rfl⟩
            · rw [hA] at hy
              have hy : (ri_set none A i)[i]? = some (some y) := hy
              rw [ri_set_eq, List.getElem?_set, if_pos rfl] at hy
              split at hy
              · cases hy
              · cases hy
          obtain ⟨w, h1, h2⟩ := hL i y key.1
          have := rt_gV_c1 h2 key.2
          exact ⟨w, rc_mkA_n e' h1 (fun q => by omega) hc2, h2⟩
        · have hyA : A[i]? = some (some y) := by
            rcases hA : A[j]? with _ | _ | z | z | z
            · rw [hA] at hy; exact hy
            · rw [hA] at hy; exact hy
            · rw [hA] at hy; exact hy
            · rw [hA] at hy; exact hy
            · rw [hA] at hy
              have hy : (ri_set none A j)[i]? = some (some y) := hy
              rw [ri_set_eq, List.getElem?_set, if_neg (fun q => ej q.symm)] at hy
              exact hy
          obtain ⟨w, h1, h2⟩ := hL i y hyA
          exact ⟨w, rc_mkA_n e' h1 (fun q => by omega) hc2, h2⟩
/-- the next place, with another stack -/
theorem rt_nx_ok {st : List rt_V} {stv : List Value} (h : rt_nx r S st = some L) (hpc : a.1 = S.1) (hh : rt_hp KK κ K ad ws0 Φ t0 S.2.1.1 S.2.1.2 a.2.2.2) (hN : rt_okN K ad S.2.2.1 τ ν lm) (hL : rt_gL τ ν lm K ad (rt_lo S) a.2.1) (hS : rt_gS τ ν lm K ad st stv) (hO : ∀ o ∈ rt_ov S, rt_gO τ ν lm K ad a.2.2.2 o) : ∃ S' ∈ L, rt_rl KK κ K ad ws0 Φ t0 S' (rc_nx r a stv) := by
  cases h
  exact ⟨_, List.mem_singleton.mpr rfl, τ, ν, lm, by show a.1 + r.2.1 = S.1 + r.2.1; rw [hpc], hh, hN, hL, hS, hO⟩
theorem rk_iload (h : rt_iload r S = some L) (hr : rt_rl KK κ K ad ws0 Φ t0 S a) : rc_iload r a (fun b => ∃ S' ∈ L, rt_rl KK κ K ad ws0 Φ t0 S' b) := by
  obtain ⟨τ, ν, lm, hpc, hh, hN, hL, hS, hO⟩ := hr
  unfold rt_iload at h
  rw [ri_nth_eq] at h
  cases c20 : Nat.blt r.2.2.1 20 with
  | false => rw [c20] at h; cases h
  | true =>
  rw [c20, cond_true] at h
  refine ⟨rt_blt.mp c20, ?_⟩
  rcases hx : (rt_lo S)[r.2.2.1]? with _ | _ | x | x
  · rw [hx] at h; cases h
  · rw [hx] at h; cases h
  · rw [hx] at h
    obtain ⟨v, e1, z, rfl, hz⟩ := hL _ _ hx
    exact ⟨z, e1, rt_nx_ok h hpc hh hN hL ⟨⟨z, rfl, hz⟩, hS⟩ hO⟩
  · rw [hx] at h; cases h
theorem rk_aload (h : rt_aload r S = some L) (hr : rt_rl KK κ K ad ws0 Φ t0 S a) : rc_aload r a (fun b => ∃ S' ∈ L, rt_rl KK κ K ad ws0 Φ t0 S' b) := by
  obtain ⟨τ, ν, lm, hpc, hh, hN, hL, hS, hO⟩ := hr
  unfold rt_aload at h
  rw [ri_nth_eq] at h
  cases c20 : Nat.blt r.2.2.1 20 with
  | false => rw [c20] at h; cases h
  | true =>
  rw [c20, cond_true] at h
  refine ⟨rt_blt.mp c20, ?_⟩
  rcases hx : (rt_lo S)[r.2.2.1]? with _ | _ | x | x | x
  · rw [hx] at h; cases h
  · rw [hx] at h; cases h
  · rw [hx] at h; cases h
  · rw [hx] at h
    obtain ⟨v, e1, hv⟩ := hL _ _ hx
    have hv' := hv
    obtain ⟨q, rfl, -⟩ := hv
    exact ⟨q, e1, rt_nx_ok h hpc hh hN hL ⟨hv', hS⟩ hO⟩
  · rw [hx] at h; cases h
theorem rk_lload (h : rt_lload r S = some L) (hr : rt_rl KK κ K ad ws0 Φ t0 S a) : rc_lload r a (fun b => ∃ S' ∈ L, rt_rl KK κ K ad ws0 Φ t0 S' b) := by
  obtain ⟨τ, ν, lm, hpc, hh, hN, hL, hS, hO⟩ := hr
  unfold rt_lload at h
  rw [ri_nth_eq] at h
  cases c20 : Nat.blt r.2.2.1 20 with
  | false => rw [c20] at h; cases h
  | true =>
  rw [c20, cond_true] at h
  refine ⟨rt_blt.mp c20, ?_⟩
  rcases hx : (rt_lo S)[r.2.2.1]? with _ | _ | x | x | _ | t
  · rw [hx] at h; cases h
  · rw [hx] at h; cases h
  · rw [hx] at h; cases h
  · rw [hx] at h; cases h
  · rw [hx] at h; cases h
  · rw [hx] at h
    obtain ⟨v, e1, hv⟩ := hL _ _ hx
    have hv' := hv
    obtain ⟨z, rfl, -⟩ := hv
    exact ⟨z, e1, rt_nx_ok h hpc hh hN hL ⟨hv', hS⟩ hO⟩
theorem rk_istore (h : rt_istore r S = some L) (hr : rt_rl KK κ K ad ws0 Φ t0 S a) : rc_istore r a (fun b => ∃ S' ∈ L, rt_rl KK κ K ad ws0 Φ t0 S' b) := by
  obtain ⟨τ, ν, lm, hpc, hh, hN, hL, hS, hO⟩ := hr
  unfold rt_istore at h
  rcases hst : rt_st S with _ | ⟨x | x, st⟩
  · rw [hst] at h; cases h
  · rw [hst] at h hS
    have h : (match rt_nm S.2.2.1 x with
      | none => none
      | some q => some [((Nat.add S.1 r.2.1, S.2.1, q.1, rt_lset (rt_lo S) r.2.2.1 (.inl q.2), st, rt_ov S) : rt_S)]) = some L := h
    obtain ⟨v, stv, e1, ⟨z, rfl, hz⟩, hS'⟩ := rt_gS_cons hS
    cases hq : rt_nm S.2.2.1 x with
    | none => rw [hq] at h; cases h
    | some q =>
      rw [hq] at h
      cases h
      obtain ⟨τ', p1, hN', hz', eq2⟩ := rt_nm_ok hN hq hz
      have px := List.prefix_refl ν
      have pl := List.prefix_refl lm
      exact ⟨z, stv, rc_mkA a.2.1 r.2.2.1 (.int z), e1, rc_mkA_sto _ _ _, _, List.mem_singleton.mpr rfl, τ', ν, lm, by show a.1 + r.2.1 = S.1 + r.2.1; rw [hpc], hh, hN', rt_lset_ok (rt_gL_mono p1 px pl hL) ⟨z, rfl, hz'⟩ rfl, rt_gS_mono p1 px pl hS', fun o ho => rt_gO_mono p1 px pl (hO o ho)⟩
  · rw [hst] at h; cases h
theorem rk_astore (h : rt_astore r S = some L) (hr : rt_rl KK κ K ad ws0 Φ t0 S a) : rc_astore r a (fun b => ∃ S' ∈ L, rt_rl KK κ K ad ws0 Φ t0 S' b) := by
  obtain ⟨τ, ν, lm, hpc, hh, hN, hL, hS, hO⟩ := hr
  unfold rt_astore at h
  rcases hst : rt_st S with _ | ⟨x | x | x, st⟩
  · rw [hst] at h; cases h
  · rw [hst] at h; cases h
  · rw [hst] at h hS
    cases h
    obtain ⟨v, stv, e1, hv, hS'⟩ := rt_gS_cons hS
    have hv' := hv
    obtain ⟨q, rfl, -⟩ := hv
    exact ⟨q, stv, rc_mkA a.2.1 r.2.2.1 (.ref q), e1, rc_mkA_sto _ _ _, _, List.mem_singleton.mpr rfl, τ, ν, lm, by show a.1 + r.2.1 = S.1 + r.2.1; rw [hpc], hh, hN, rt_lset_ok hL hv' rfl, hS', hO⟩
  · rw [hst] at h; cases h
theorem rk_lstore (h : rt_lstore r S = some L) (hr : rt_rl KK κ K ad ws0 Φ t0 S a) : rc_lstore r a (fun b => ∃ S' ∈ L, rt_rl KK κ K ad ws0 Φ t0 S' b) := by
  obtain ⟨τ, ν, lm, hpc, hh, hN, hL, hS, hO⟩ := hr
  unfold rt_lstore at h
  rcases hst : rt_st S with _ | ⟨x | x | _ | t, st⟩
  · rw [hst] at h; cases h
  · rw [hst] at h; cases h
  · rw [hst] at h; cases h
  · rw [hst] at h; cases h
  · rw [hst] at h hS
    cases h
    obtain ⟨v, stv, e1, hv, hS'⟩ := rt_gS_cons hS
    have hv' := hv
    obtain ⟨z, rfl, -⟩ := hv
    exact ⟨z, stv, rc_mkA a.2.1 r.2.2.1 (.long z), e1, rc_mkA_sto _ _ _, _, List.mem_singleton.mpr rfl, τ, ν, lm, by show a.1 + r.2.1 = S.1 + r.2.1; rw [hpc], hh, hN, rt_lsetL_ok hL hv', hS', hO⟩
theorem rk_push (h : rt_push r S = some L) {z : Int32} (hz : z.toInt = r.2.2.2.2) (hr : rt_rl KK κ K ad ws0 Φ t0 S a) : rc_push r a (fun b => ∃ S' ∈ L, rt_rl KK κ K ad ws0 Φ t0 S' b) := by
  obtain ⟨τ, ν, lm, hpc, hh, hN, hL, hS, hO⟩ := hr
  exact ⟨z, hz, rt_nx_ok h hpc hh hN hL ⟨⟨z, rfl, rt_gI_0.mpr (by omega)⟩, hS⟩ hO⟩
theorem rk_lpush {c : Option Int} (h : rt_lpush r S c = some L) {z : Int64} (hz : ∀ d, c = some d → z.toInt = d) (hr : rt_rl KK κ K ad ws0 Φ t0 S a) : ∃ S' ∈ L, rt_rl KK κ K ad ws0 Φ t0 S' (rc_nx r a (.long z :: a.2.2.1)) := by
  obtain ⟨τ, ν, lm, hpc, hh, hN, hL, hS, hO⟩ := hr
  cases h
  obtain ⟨h1, h2, h3⟩ := hN
  have pt := List.prefix_refl τ
  have px := List.prefix_refl ν
  have pl : lm <+: lm ++ [z] := ⟨_, rfl⟩
  refine ⟨_, List.mem_singleton.mpr rfl, τ, ν, lm ++ [z], by show a.1 + r.2.1 = S.1 + r.2.1; rw [hpc], hh, ⟨rt_okE_mono pl h1, h2, rt_okL_add h3 hz⟩, rt_gL_mono pt px pl hL, ⟨⟨z, rfl, Or.inr ⟨ri_len (rt_L S), rfl, ?_⟩⟩, rt_gS_mono pt px pl hS⟩, fun o ho => rt_gO_mono pt px pl (hO o ho)⟩
  rw [ri_len_eq, ← h3.1]
  exact rt_at_end _ _
theorem rk_bin {f : ri_I → ri_I → Option ri_I} {g : Int32 → Int32 → Int32} (hf : ∀ {τ : List Int} {lm : List Int64} {x y z : ri_I} {u v : Int32}, rt_okE (rt_E S) τ lm → f x y = some z → rt_gI τ x u → rt_gI τ y v → rt_gI τ z (g u v)) (h : rt_bin f r S = some L) (hr : rt_rl KK κ K ad ws0 Φ t0 S a) : rc_bin g r a (fun b => ∃ S' ∈ L, rt_rl KK κ K ad ws0 Φ t0 S' b) := by
  obtain ⟨τ, ν, lm, hpc, hh, hN, hL, hS, hO⟩ := hr
  unfold rt_bin at h
  rcases hst : rt_st S with _ | ⟨y | y, _ | ⟨x | x, st⟩⟩
  all_goals first | (rw [hst] at h; cases h; done) | skip
  rw [hst] at h hS
  have h : (match f x y with
    | some z => rt_nx r S (.inl z :: st)
    | none => none) = some L := h
  cases hz : f x y with
  | none => rw [hz] at h; cases h
  | some z =>
    rw [hz] at h
    obtain ⟨_, m, e1, ⟨v, rfl, gv⟩, hS1⟩ := rt_gS_cons hS
    obtain ⟨_, stv, rfl, ⟨u, rfl, gu⟩, hS2⟩ := rt_gS_cons hS1
    exact ⟨u, v, stv, e1, rt_nx_ok h hpc hh hN hL ⟨⟨_, rfl, hf hN.1 hz gu gv⟩, hS2⟩ hO⟩
theorem rk_bin0 {f : ri_I → ri_I → Option ri_I} {g : Int32 → Int32 → Int32} (hf : ∀ {τ : List Int} {lm : List Int64} {x y z : ri_I} {u v : Int32}, rt_okE (rt_E S) τ lm → f x y = some z → rt_gI τ x u → rt_gI τ y v → ¬ v = 0 ∧ rt_gI τ z (g u v)) (h : rt_bin f r S = some L) (hr : rt_rl KK κ K ad ws0 Φ t0 S a) : rc_bin0 g r a (fun b => ∃ S' ∈ L, rt_rl KK κ K ad ws0 Φ t0 S' b) := by
  obtain ⟨τ, ν, lm, hpc, hh, hN, hL, hS, hO⟩ := hr
  unfold rt_bin at h
  rcases hst : rt_st S with _ | ⟨y | y, _ | ⟨x | x, st⟩⟩
  all_goals first | (rw [hst] at h; cases h; done) | skip
  rw [hst] at h hS
  have h : (match f x y with
    | some z => rt_nx r S (.inl z :: st)
    | none => none) = some L := h
  cases hz : f x y with
  | none => rw [hz] at h; cases h
  | some z =>
    rw [hz] at h
    obtain ⟨_, m, e1, ⟨v, rfl, gv⟩, hS1⟩ := rt_gS_cons hS
    obtain ⟨_, stv, rfl, ⟨u, rfl, gu⟩, hS2⟩ := rt_gS_cons hS1
    have g0 := hf hN.1 hz gu gv
    exact ⟨u, v, stv, e1, g0.1, rt_nx_ok h hpc hh hN hL ⟨⟨_, rfl, g0.2⟩, hS2⟩ hO⟩
theorem rk_un {f : ri_I → Option ri_I} {g : Int32 → Int32} (hf : ∀ {τ : List Int} {lm : List Int64} {x z : ri_I} {u : Int32}, rt_okE (rt_E S) τ lm → f x = some z → rt_gI τ x u → rt_gI τ z (g u)) (h : rt_un f r S = some L) (hr : rt_rl KK κ K ad ws0 Φ t0 S a) : rc_un g r a (fun b => ∃ S' ∈ L, rt_rl KK κ K ad ws0 Φ t0 S' b) := by
  obtain ⟨τ, ν, lm, hpc, hh, hN, hL, hS, hO⟩ := hr
  unfold rt_un at h
  rcases hst : rt_st S with _ | ⟨x | x, st⟩
  all_goals first | (rw [hst] at h; cases h; done) | skip
  rw [hst] at h hS
  have h : (match f x with
    | some z => rt_nx r S (.inl z :: st)
    | none => none) = some L := h
  cases hz : f x with
  | none => rw [hz] at h; cases h
  | some z =>
    rw [hz] at h
    obtain ⟨_, stv, e1, ⟨u, rfl, gu⟩, hS⟩ := rt_gS_cons hS
    exact ⟨u, stv, e1, rt_nx_ok h hpc hh hN hL ⟨⟨_, rfl, hf hN.1 hz gu⟩, hS⟩ hO⟩
theorem rk_lbin {g : Int64 → Int64 → Int64} (h : rt_lbin r S = some L) (hr : rt_rl KK κ K ad ws0 Φ t0 S a) : rc_lbin g r a (fun b => ∃ S' ∈ L, rt_rl KK κ K ad ws0 Φ t0 S' b) := by
  obtain ⟨τ, ν, lm, hpc, hh, hN, hL, hS, hO⟩ := hr
  unfold rt_lbin at h
  rcases hst : rt_st S with _ | ⟨y | y | _ | y, _ | ⟨x | x | _ | x, st⟩⟩
  all_goals first | (rw [hst] at h; cases h; done) | skip
  rw [hst] at h hS
  obtain ⟨_, m, e1, ⟨v, rfl, -⟩, hS1⟩ := rt_gS_cons hS
  obtain ⟨_, stv, rfl, ⟨u, rfl, -⟩, hS2⟩ := rt_gS_cons hS1
  exact ⟨u, v, stv, e1, rt_nx_ok h hpc hh hN hL ⟨⟨_, rfl, Or.inl rfl⟩, hS2⟩ hO⟩
theorem rk_lshl (h : rt_lshl r S = some L) (hr : rt_rl KK κ K ad ws0 Φ t0 S a) : ∃ (u : Int64) (v : Int32) (st : List Value), a.2.2.1 = .int v :: .long u :: st ∧ ∃ S' ∈ L, rt_rl KK κ K ad ws0 Φ t0 S' (rc_nx r a (.long (u <<< (v.toInt64 &&& 63)) :: st)) := by
  obtain ⟨τ, ν, lm, hpc, hh, hN, hL, hS, hO⟩ := hr
  unfold rt_lshl at h
  rcases hst : rt_st S with _ | ⟨y | y, _ | ⟨x | x | _ | x, st⟩⟩
  all_goals first | (rw [hst] at h; cases h; done) | skip
  rw [hst] at h hS
  obtain ⟨_, m, e1, ⟨v, rfl, -⟩, hS1⟩ := rt_gS_cons hS
  obtain ⟨_, stv, rfl, ⟨u, rfl, -⟩, hS2⟩ := rt_gS_cons hS1
  exact ⟨u, v, stv, e1, rt_nx_ok h hpc hh hN hL ⟨⟨_, rfl, Or.inl rfl⟩, hS2⟩ hO⟩
theorem rk_i2l (h : rt_i2l r S = some L) (hr : rt_rl KK κ K ad ws0 Φ t0 S a) : ∃ (u : Int32) (st : List Value), a.2.2.1 = .int u :: st ∧ ∃ S' ∈ L, rt_rl KK κ K ad ws0 Φ t0 S' (rc_nx r a (.long u.toInt64 :: st)) := by
  obtain ⟨τ, ν, lm, hpc, hh, hN, hL, hS, hO⟩ := hr
  unfold rt_i2l at h
  rcases hst : rt_st S with _ | ⟨x | x, st⟩
  all_goals first | (rw [hst] at h; cases h; done) | skip
  rw [hst] at h hS
  obtain ⟨_, stv, e1, ⟨u, rfl, -⟩, hS⟩ := rt_gS_cons hS
  exact ⟨u, stv, e1, rt_nx_ok h hpc hh hN hL ⟨⟨_, rfl, Or.inl rfl⟩, hS⟩ hO⟩
theorem rk_dup (h : rt_dup r S = some L) (hr : rt_rl KK κ K ad ws0 Φ t0 S a) : ∃ (v : Value) (st : List Value), a.2.2.1 = v :: st ∧ v.category = 1 ∧ ∃ S' ∈ L, rt_rl KK κ K ad ws0 Φ t0 S' (rc_nx r a (v :: v :: st)) := by
  obtain ⟨τ, ν, lm, hpc, hh, hN, hL, hS, hO⟩ := hr
  unfold rt_dup at h
  rcases hst : rt_st S with _ | ⟨x, st⟩
  · rw [hst] at h; cases h
  · rw [hst] at h hS
    obtain ⟨c1, h⟩ := ri_cond h rfl
    obtain ⟨v, stv, e1, hv, hS⟩ := rt_gS_cons hS
    exact ⟨v, stv, e1, rt_gV_c1 hv c1, rt_nx_ok h hpc hh hN hL ⟨hv, hv, hS⟩ hO⟩
theorem rk_pop (h : rt_pop r S = some L) (hr : rt_rl KK κ K ad ws0 Φ t0 S a) : ∃ (v : Value) (st : List Value), a.2.2.1 = v :: st ∧ v.category = 1 ∧ ∃ S' ∈ L, rt_rl KK κ K ad ws0 Φ t0 S' (rc_nx r a st) := by
  obtain ⟨τ, ν, lm, hpc, hh, hN, hL, hS, hO⟩ := hr
  unfold rt_pop at h
  rcases hst : rt_st S with _ | ⟨x, st⟩
  · rw [hst] at h; cases h
  · rw [hst] at h hS
    obtain ⟨c1, h⟩ := ri_cond h rfl
    obtain ⟨v, stv, e1, hv, hS⟩ := rt_gS_cons hS
    exact ⟨v, stv, e1, rt_gV_c1 hv c1, rt_nx_ok h hpc hh hN hL hS hO⟩
theorem rk_dupx1 (h : rt_dupx1 r S = some L) (hr : rt_rl KK κ K ad ws0 Φ t0 S a) : ∃ (v w : Value) (st : List Value), a.2.2.1 = v :: w :: st ∧ v.category = 1 ∧ w.category = 1 ∧ ∃ S' ∈ L, rt_rl KK κ K ad ws0 Φ t0 S' (rc_nx r a (v :: w :: v :: st)) := by
  obtain ⟨τ, ν, lm, hpc, hh, hN, hL, hS, hO⟩ := hr
  unfold rt_dupx1 at h
  rcases hst : rt_st S with _ | ⟨x, _ | ⟨y, st⟩⟩
  · rw [hst] at h; cases h
  · rw [hst] at h; cases h
  · rw [hst] at h hS
    obtain ⟨c1, h⟩ := ri_cond h rfl
    obtain ⟨c2, h⟩ := ri_cond h rfl
    obtain ⟨v, m, e1, hv, hS1⟩ := rt_gS_cons hS
    obtain ⟨w, stv, rfl, hw, hS2⟩ := rt_gS_cons hS1
    exact ⟨v, w, stv, e1, rt_gV_c1 hv c1, rt_gV_c1 hw c2, rt_nx_ok h hpc hh hN hL ⟨hv, hw, hv, hS2⟩ hO⟩
theorem rk_dup2 (h : rt_dup2 r S = some L) (hr : rt_rl KK κ K ad ws0 Φ t0 S a) : ∃ (v w : Value) (st : List Value), a.2.2.1 = v :: w :: st ∧ v.category = 1 ∧ w.category = 1 ∧ ∃ S' ∈ L, rt_rl KK κ K ad ws0 Φ t0 S' (rc_nx r a (v :: w :: v :: w :: st)) := by
  obtain ⟨τ, ν, lm, hpc, hh, hN, hL, hS, hO⟩ := hr
  unfold rt_dup2 at h
  rcases hst : rt_st S with _ | ⟨x, _ | ⟨y, st⟩⟩
  · rw [hst] at h; cases h
  · rw [hst] at h; cases h
  · rw [hst] at h hS
    obtain ⟨c1, h⟩ := ri_cond h rfl
    obtain ⟨c2, h⟩ := ri_cond h rfl
    obtain ⟨v, m, e1, hv, hS1⟩ := rt_gS_cons hS
    obtain ⟨w, stv, rfl, hw, hS2⟩ := rt_gS_cons hS1
    exact ⟨v, w, stv, e1, rt_gV_c1 hv c1, rt_gV_c1 hw c2, rt_nx_ok h hpc hh hN hL ⟨hv, hw, hv, hw, hS2⟩ hO⟩
theorem rk_iinc {n : Int} (h : rt_iinc r S = some L) (hn : (Int32.ofInt n).toInt = r.2.2.2.2) (hr : rt_rl KK κ K ad ws0 Φ t0 S a) : r.2.2.1 < 20 ∧ ∃ (x : Int32) (A' : List (Option Value)), a.2.1[r.2.2.1]? = some (some (.int x)) ∧ rc_sto a.2.1 A' r.2.2.1 (.int (x + Int32.ofInt n)) ∧ ∃ S' ∈ L, rt_rl KK κ K ad ws0 Φ t0 S' (a.1 + r.2.1, A', a.2.2.1, a.2.2.2) := by
  obtain ⟨τ, ν, lm, hpc, hh, hN, hL, hS, hO⟩ := hr
  unfold rt_iinc at h
  rw [ri_nth_eq] at h
  cases c20 : Nat.blt r.2.2.1 20 with
  | false => rw [c20] at h; cases h
  | true =>
  rw [c20, cond_true] at h
  refine ⟨rt_blt.mp c20, ?_⟩
  rcases hx : (rt_lo S)[r.2.2.1]? with _ | _ | x | x
  · rw [hx] at h; cases h
  · rw [hx] at h; cases h
  · rw [hx] at h
    have h : (match rt_add (rt_E S) x (0, r.2.2.2.2, r.2.2.2.2) with
      | none => none
      | some z => (match rt_nm S.2.2.1 z with
        | none => none
        | some q => some [((Nat.add S.1 r.2.1, S.2.1, q.1, rt_lset (rt_lo S) r.2.2.1 (.inl q.2), rt_st S, rt_ov S) : rt_S)])) = some L := h
    obtain ⟨v, e1, u, rfl, hu⟩ := hL _ _ hx
    cases hz : rt_add (rt_E S) x (0, r.2.2.2.2, r.2.2.2.2) with
    | none => rw [hz] at h; cases h
    | some z =>
      rw [hz] at h
      have gz := rt_add_ok hN.1 hz hu (v := Int32.ofInt n) (rt_gI_0.mpr (by omega))
      cases hq : rt_nm S.2.2.1 z with
      | none =>
        have h : (match rt_nm S.2.2.1 z with
          | none => none
          | some q => some [((Nat.add S.1 r.2.1, S.2.1, q.1, rt_lset (rt_lo S) r.2.2.1 (.inl q.2), rt_st S, rt_ov S) : rt_S)]) = some L := h
        rw [hq] at h
        cases h
      | some q =>
        have h : (match rt_nm S.2.2.1 z with
          | none => none
          | some q => some [((Nat.add S.1 r.2.1, S.2.1, q.1, rt_lset (rt_lo S) r.2.2.1 (.inl q.2), rt_st S, rt_ov S) : rt_S)]) = some L := h
        rw [hq] at h
        cases h
        obtain ⟨τ', p1, hN', hz', eq2⟩ := rt_nm_ok hN hq gz
        have px := List.prefix_refl ν
        have pl := List.prefix_refl lm
        exact ⟨u, rc_mkA a.2.1 r.2.2.1 (.int (u + Int32.ofInt n)), e1, rc_mkA_sto _ _ _, _, List.mem_singleton.mpr rfl, τ', ν, lm, by show a.1 + r.2.1 = S.1 + r.2.1; rw [hpc], hh, hN', rt_lset_ok (rt_gL_mono p1 px pl hL) ⟨_, rfl, hz'⟩ rfl, rt_gS_mono p1 px pl hS, fun o ho => rt_gO_mono p1 px pl (hO o ho)⟩
  · rw [hx] at h; cases h
end RT46
