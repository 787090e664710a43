/-! Behind a call: what the post says of slots -/
/-- the post's slots, for the caller's names rm of the template's names -/
noncomputable def rt_psl (rm : List Nat) (xs : List (Nat × Nat × rt_T)) : rt_N → List rt_O → rt_N × List rt_O := List.rec (motive := fun _ => rt_N → List rt_O → rt_N × List rt_O) (fun n ov => (n, ov)) (fun x _ ih n ov => match ri_nth rm x.1 with
  | none => ih n ov
  | some 0 => ih n ov
  | some (Nat.succ w) => ih (rt_vT n x.2.2).1 ((Nat.succ w, (0, .ofNat x.2.1), (rt_vT n x.2.2).2) :: ov)) xs
section RT56
variable {K ad : List Nat} {ws : va_W}
theorem rt_psl_ok {rm : List Nat} : ∀ {xs : List (Nat × Nat × rt_T)} {n : rt_N} {ov : List rt_O} {τ : List Int} {ν : List Nat} {lm : List Int64}, rt_okN K ad n τ ν lm → (∀ o ∈ ov, rt_gO τ ν lm K ad ws o) → (∀ x ∈ xs, ∀ w, rm[x.1]? = some (w + 1) → ∃ (q i : Nat) (e : va_E) (v : Value), ν[w]? = some q ∧ ws[i]? = some (q, e) ∧ rt_sl e x.2.1 = some v ∧ rt_gT K ad x.2.2 v) → ∃ (τ' : List Int) (ν' : List Nat) (lm' : List Int64), τ <+: τ' ∧ ν <+: ν' ∧ lm <+: lm' ∧ rt_okN K ad (rt_psl rm xs n ov).1 τ' ν' lm' ∧ ∀ o ∈ (rt_psl rm xs n ov).2, rt_gO τ' ν' lm' K ad ws o := by
  intro xs
  induction xs with
  | nil =>
    intro n ov τ ν lm hN hov _
    exact ⟨τ, ν, lm, List.prefix_refl _, List.prefix_refl _, List.prefix_refl _, hN, hov⟩
  | cons x xs ih =>
    intro n ov τ ν lm hN hov hx
    have tl := fun y hy => hx y (List.mem_cons_of_mem _ hy)
    have e0 : rt_psl rm (x :: xs) n ov = (match ri_nth rm x.1 with
      | none => rt_psl rm xs n ov
      | some 0 => rt_psl rm xs n ov
      | some (Nat.succ w) => rt_psl rm xs (rt_vT n x.2.2).1 ((Nat.succ w, (0, .ofNat x.2.1), (rt_vT n x.2.2).2) :: ov)) := rfl
    rw [e0, ri_nth_eq]
    rcases hw : rm[x.1]? with _ | _ | w
    · exact ih hN hov tl
    · exact ih hN hov tl
    · obtain ⟨q, i, e, v, h1, h2, h3, h4⟩ := hx x List.mem_cons_self w hw
      obtain ⟨τ1, ν1, lm1, p1, p2, p3, hN1, hv1⟩ := rt_vT_ok hN h4
      have hov1 : ∀ o ∈ ((Nat.succ w, (0, (x.2.1 : Int)), (rt_vT n x.2.2).2) :: ov : List rt_O), rt_gO τ1 ν1 lm1 K ad ws o := by
        intro o ho
        rcases List.mem_cons.mp ho with rfl | ho
        · refine ⟨w, q, i, e, 0, v, rfl, rt_px p2 h1, h2, rfl, ?_, ?_, hv1⟩
          · show 0 ≤ 0 + (x.2.1 : Int)
            omega
          · show rt_sl e (0 + (x.2.1 : Int)).toNat = some v
            have e5 : (0 + (x.2.1 : Int)).toNat = x.2.1 := by omega
            rw [e5]
            exact h3
        · exact rt_gO_mono p1 p2 p3 (hov o ho)
      obtain ⟨τ2, ν2, lm2, r1, r2, r3, f1, f2⟩ := ih hN1 hov1 (fun y hy w' hw' => by
        obtain ⟨q', i', e', v', g1, g2, g3, g4⟩ := tl y hy w' hw'
        exact ⟨q', i', e', v', rt_px p2 g1, g2, g3, g4⟩)
      exact ⟨τ2, ν2, lm2, p1.trans r1, p2.trans r2, p3.trans r3, f1, f2⟩
end RT56
