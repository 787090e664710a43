/-! A run of the interpreter is a run of the machine -/
theorem ri_body2_cases {E : ri_E} {D : ri_D} {mt : List ri_M} {f : Nat → Nat → ri_S → Option (List ri_O)} {d mi : Nat} {r : ri_R} {S : ri_S} {outs : List ri_O} (h : ri_body2 E D mt f d mi r S = some outs) : (r.1 = .ireturn ∧ ri_ret E r S = some outs) ∨ (r.1 = .return_ ∧ ri_retv S = some outs) ∨ (((∃ j, r.1 = .invokevirtual j) ∨ (∃ j, r.1 = .invokespecial j) ∨ ∃ j, r.1 = .invokestatic j) ∧ ri_call E mt f d mi r S = some outs) ∨ ∃ L, ri_step E D r S = some L ∧ ri_go (f d mi) L = some outs := by
  unfold ri_body2 at h
  split at h
  · exact Or.inl ⟨by assumption, h⟩
  · exact Or.inr (Or.inl ⟨by assumption, h⟩)
  · exact Or.inr (Or.inr (Or.inl ⟨Or.inl ⟨_, by assumption⟩, h⟩))
  · exact Or.inr (Or.inr (Or.inl ⟨Or.inr (Or.inl ⟨_, by assumption⟩), h⟩))
  · exact Or.inr (Or.inr (Or.inl ⟨Or.inr (Or.inr ⟨_, by assumption⟩), h⟩))
  · split at h
    · cases h
    · rename_i L hL
      exact Or.inr (Or.inr (Or.inr ⟨L, hL, h⟩))
theorem ri_ret_out {E : ri_E} {r : ri_R} {S : ri_S} {outs : List ri_O} (h : ri_ret E r S = some outs) : ∃ x, S.2.2.1 = [.inl x] ∧ outs = [.inl (some (.inl x), S.2.2.2)] ∧ (r.2.2.1 = 0 ∨ ri_fit E 1 (.inl x) = true) := by
  unfold ri_ret at h
  split at h
  · rename_i x st hst
    split at h
    · obtain ⟨c1, h⟩ := ri_cond h rfl
      cases h
      refine ⟨x, hst, rfl, ?_⟩
      cases hr : r.2.2.1 with
      | zero => exact Or.inl rfl
      | succ n =>
        rw [hr] at c1
        exact Or.inr c1
    · cases h
  · cases h
theorem ri_retv_out {S : ri_S} {outs : List ri_O} (h : ri_retv S = some outs) : S.2.2.1 = [] ∧ outs = [.inl (none, S.2.2.2)] := by
  unfold ri_retv at h
  split at h
  · rename_i hst
    cases h
    exact ⟨hst, rfl⟩
  · cases h
/-- the three kinds of calls -/
theorem ri_call_cases {E : ri_E} {mt : List ri_M} {f : Nat → Nat → ri_S → Option (List ri_O)} {d mi : Nat} {r : ri_R} {S : ri_S} {outs : List ri_O} (h : ri_call E mt f d mi r S = some outs) : ∃ d1, d = d1 + 1 ∧ ((r.2.2.1 = 1 ∧ ri_call1 f d mi r S = some outs) ∨ (r.2.2.1 = 2 ∧ ri_call2 E f d mi r S = some outs) ∨ (r.2.2.1 ≠ 1 ∧ r.2.2.1 ≠ 2 ∧ ri_call0 mt f d1 d mi r S = some outs)) := by
  unfold ri_call at h
  cases d with
  | zero => cases h
  | succ d1 =>
    refine ⟨d1, rfl, ?_⟩
    have h : cond (Nat.beq r.2.2.1 1) (ri_call1 f (d1 + 1) mi r S) (cond (Nat.beq r.2.2.1 2) (ri_call2 E f (d1 + 1) mi r S) (ri_call0 mt f d1 (d1 + 1) mi r S)) = some outs := h
    cases c1 : Nat.beq r.2.2.1 1 with
    | true =>
      rw [c1] at h
      exact Or.inl ⟨Nat.eq_of_beq_eq_true c1, h⟩
    | false =>
      cases c2 : Nat.beq r.2.2.1 2 with
      | true =>
        rw [c1, c2] at h
        exact Or.inr (Or.inl ⟨Nat.eq_of_beq_eq_true c2, h⟩)
      | false =>
        rw [c1, c2] at h
        exact Or.inr (Or.inr ⟨(fun q => by rw [q] at c1; cases c1), (fun q => by rw [q] at c2; cases c2), h⟩)
theorem ri_call1_out {f : Nat → Nat → ri_S → Option (List ri_O)} {d mi : Nat} {r : ri_R} {S : ri_S} {outs : List ri_O} (h : ri_call1 f d mi r S = some outs) : ∃ a st, S.2.2.1 = .inr (.inl (some a)) :: st ∧ st.length ≤ 4 ∧ f d mi (S.1 + r.2.1, S.2.1, st, S.2.2.2) = some outs := by
  unfold ri_call1 at h
  split at h
  · rename_i a st hst
    obtain ⟨c1, h⟩ := ri_cond h rfl
    rw [ri_len_eq] at c1
    exact ⟨a, st, hst, Nat.le_of_ble_eq_true c1, h⟩
  · cases h
theorem ri_call2_out {E : ri_E} {f : Nat → Nat → ri_S → Option (List ri_O)} {d mi : Nat} {r : ri_R} {S : ri_S} {outs : List ri_O} (h : ri_call2 E f d mi r S = some outs) : S.2.2.1.length ≤ 8 ∧ ∃ L, ri_m2 E r S = some L ∧ ri_go (f d mi) L = some outs := by
  unfold ri_call2 at h
  obtain ⟨c1, h⟩ := ri_cond h rfl
  rw [ri_len_eq] at c1
  refine ⟨Nat.le_of_ble_eq_true c1, ?_⟩
  split at h
  · cases h
  · rename_i L hL
    exact ⟨L, hL, h⟩
theorem ri_call0_out {mt : List ri_M} {f : Nat → Nat → ri_S → Option (List ri_O)} {d1 d mi : Nat} {r : ri_R} {S : ri_S} {outs : List ri_O} (h : ri_call0 mt f d1 d mi r S = some outs) : ∃ (q : ri_M) (a : List (Option ri_V) × List ri_V) (o : Option ri_V × List ri_C × Nat × Nat) (t : List ri_O), mt[r.2.2.2.1]? = some q ∧ ri_take (Int.toNat r.2.2.2.2) S.2.2.1 [] = some a ∧ a.2.length ≤ 4 ∧ ri_recv r.2.2.1 S.2.2.2.1 a.1 = true ∧ f d1 r.2.2.2.1 (0, ri_pad (q.2 - Int.toNat r.2.2.2.2) a.1, [], S.2.2.2) = some (.inl o :: t) ∧ ri_each (f d mi) (S.1 + r.2.1) S.2.1 a.2 o.2.2.1 o.2.2.2 (.inl o :: t) = some outs := by
  unfold ri_call0 at h
  rw [ri_nth_eq] at h
  split at h
  · cases h
  · rename_i q hq
    split at h
    · cases h
    · rename_i a ha
      obtain ⟨c1, h⟩ := ri_cond h rfl
      obtain ⟨c2, h⟩ := ri_cond h rfl
      rw [ri_len_eq] at c1
      split at h
      · cases h
      · rename_i outs' hf
        split at h
        · rename_i o t
          exact ⟨q, a, o, t, hq, ha, Nat.le_of_ble_eq_true c1, c2, hf, h⟩
        · cases h
theorem ri_run_body {E : ri_E} {D : ri_D} {mt : List ri_M} {stop : Nat × Nat} {n d mi : Nat} {S : ri_S} {outs : List ri_O} (h : ri_run E D mt stop (n + 1) d mi S = some outs) : outs = [.inr S] ∨ ∃ r, ri_fetch mt mi S.1 = some r ∧ ri_body2 E D mt (ri_run E D mt stop n) d mi r S = some outs := by
  have h : cond (Nat.beq mi stop.1) (cond (Nat.beq S.1 stop.2) (some [.inr S]) (ri_body E D mt (ri_run E D mt stop n) d mi S)) (ri_body E D mt (ri_run E D mt stop n) d mi S) = some outs := h
  have body : ri_body E D mt (ri_run E D mt stop n) d mi S = some outs → ∃ r, ri_fetch mt mi S.1 = some r ∧ ri_body2 E D mt (ri_run E D mt stop n) d mi r S = some outs := fun h => by
    unfold ri_body at h
    split at h
    · cases h
    · rename_i r hr
      exact ⟨r, hr, h⟩
  rcases ri_cond2 h with h | h
  · rcases ri_cond2 h with h | h
    · exact Or.inl (Option.some.inj h).symm
    · exact Or.inr (body h)
  · exact Or.inr (body h)
theorem ri_run_mo {E : ri_E} {D : ri_D} {mt : List ri_M} {stop : Nat × Nat} : ∀ (n : Nat) {d mi : Nat} {S : ri_S} {outs : List ri_O}, ri_run E D mt stop n d mi S = some outs → ri_ge S.2.2.2.2.1 S.2.2.2.2.2 outs
  | 0, d, mi, S, outs, h => by cases h
  | n + 1, d, mi, S, outs, h => by
    have gogo : ∀ {L : List ri_S}, ri_mo S L → ri_go (ri_run E D mt stop n d mi) L = some outs → ri_ge S.2.2.2.2.1 S.2.2.2.2.2 outs := fun {L} hm hg => by
      obtain ⟨g1, g2⟩ := ri_go_ok hg
      obtain ⟨m1, m2⟩ := hm
      refine ⟨fun q => ?_, fun o ho => ?_⟩
      · cases L with
        | nil => exact m1 rfl
        | cons S' t =>
          obtain ⟨o', e1, e2⟩ := g1 S' List.mem_cons_self
          have := (ri_run_mo n e1).1
          cases o' with
          | nil => exact this rfl
          | cons x _ =>
            have := e2 x List.mem_cons_self
            rw [q] at this
            cases this
      · obtain ⟨S', hS', o', e1, e2⟩ := g2 o ho
        have := (ri_run_mo n e1).2 o e2
        have := m2 S' hS'
        omega
    rcases ri_run_body h with rfl | ⟨r, hr, h⟩
    · exact ⟨by simp, fun o ho => by rw [List.mem_singleton.mp ho]; exact ⟨Nat.le_refl _, Nat.le_refl _⟩⟩
    · rcases ri_body2_cases h with ⟨-, h⟩ | ⟨-, h⟩ | ⟨-, h⟩ | ⟨L, h1, h2⟩
      · obtain ⟨x, -, rfl, -⟩ := ri_ret_out h
        exact ⟨by simp, fun o ho => by rw [List.mem_singleton.mp ho]; exact ⟨Nat.le_refl _, Nat.le_refl _⟩⟩
      · obtain ⟨-, rfl⟩ := ri_retv_out h
        exact ⟨by simp, fun o ho => by rw [List.mem_singleton.mp ho]; exact ⟨Nat.le_refl _, Nat.le_refl _⟩⟩
      · obtain ⟨d1, -, ⟨-, h⟩ | ⟨-, h⟩ | ⟨-, -, h⟩⟩ := ri_call_cases h
        · obtain ⟨a, st, -, -, h⟩ := ri_call1_out h
          have := ri_run_mo n h
          exact this
        · obtain ⟨-, L, h1, h2⟩ := ri_call2_out h
          exact gogo (mo_m2 h1) h2
        · obtain ⟨q, a, o, t, -, -, -, -, h1, h2⟩ := ri_call0_out h
          have m1 := ri_run_mo n h1
          obtain ⟨e1, e2⟩ := ri_each_ok h2
          have mo : S.2.2.2.2.1 ≤ o.2.2.1 ∧ S.2.2.2.2.2 ≤ o.2.2.2 := m1.2 (.inl o) List.mem_cons_self
          refine ⟨fun q => ?_, fun x hx => ?_⟩
          · obtain ⟨q', -, -, -, o', e4, e5⟩ := e1 (.inl o) List.mem_cons_self
            have := (ri_run_mo n e4).1
            cases o' with
            | nil => exact this rfl
            | cons x _ =>
              have := e5 x List.mem_cons_self
              rw [q] at this
              cases this
          · obtain ⟨q', hq', o', e4, e5⟩ := e2 x hx
            obtain ⟨q'', e6, e7, e8, -⟩ := e1 _ hq'
            cases e6
            have := (ri_run_mo n e4).2 x e5
            have this : q'.2.2.1 ≤ ri_oN x ∧ q'.2.2.2 ≤ ri_oZ x := this
            omega
      · exact gogo (mo_step h1) h2
