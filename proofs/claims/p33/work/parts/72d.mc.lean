/-! The places in the class that are gone past by hand: String constants -/
theorem dX4_advance_161 : decode cX4_advance 161 = .ok (.ldc 67, 2) := by decide +kernel
theorem dX4_advance_168 : decode cX4_advance 168 = .ok (.invokevirtual 69, 3) := by decide +kernel
theorem dX4_wordNumber_9 : decode cX4_wordNumber 9 = .ok (.ldc 77, 2) := by decide +kernel
theorem dX4_wordNumber_11 : decode cX4_wordNumber 11 = .ok (.invokevirtual 79, 3) := by decide +kernel
theorem dX4_wordNumber_17 : decode cX4_wordNumber 17 = .ok (.ldc 77, 2) := by decide +kernel
theorem dX4_wordNumber_21 : decode cX4_wordNumber 21 = .ok (.invokevirtual 82, 3) := by decide +kernel
section MC
variable {l : Launch} {κ : Nat → ClassId} {D : va_G}
theorem mc_all : rt_MCok l D κ [(32, 161, 0), (38, 9, 1), (38, 17, 2)] := by
  intro mi pc k hf y cc nL ret hm p e s m args below meth c ws B Q d a hd hpc hst
  obtain ⟨a1, V, st, w⟩ := a
  have hpc : a1 = pc := hpc
  subst hpc
  have hst : st.length ≤ 2 := hst
  have Z : rc_Z D ws s := B.2.2.2.2.2.2.2.2.2.2
  have h1 : 1 ≤ d := by omega
  have hf : cond (Nat.beq 32 mi) (cond (Nat.beq 161 a1) (some 0) (cond (Nat.beq 38 mi) (cond (Nat.beq 9 a1) (some 1) (cond (Nat.beq 38 mi) (cond (Nat.beq 17 a1) (some 2) none) none)) (cond (Nat.beq 38 mi) (cond (Nat.beq 17 a1) (some 2) none) none))) (cond (Nat.beq 38 mi) (cond (Nat.beq 9 a1) (some 1) (cond (Nat.beq 38 mi) (cond (Nat.beq 17 a1) (some 2) none) none)) (cond (Nat.beq 38 mi) (cond (Nat.beq 17 a1) (some 2) none) none)) = some k := hf
  have key : (mi = 32 ∧ a1 = 161 ∧ k = 0) ∨ (mi = 38 ∧ a1 = 9 ∧ k = 1) ∨ (mi = 38 ∧ a1 = 17 ∧ k = 2) := by
    cases c1 : Nat.beq 32 mi with
    | true =>
      have e1 := Nat.eq_of_beq_eq_true c1
      subst e1
      rw [c1] at hf
      cases c2 : Nat.beq 161 a1 with
      | true =>
        have e2 := Nat.eq_of_beq_eq_true c2
        rw [c2] at hf
        cases hf
        exact Or.inl ⟨rfl, e2.symm, rfl⟩
      | false =>
        rw [c2] at hf
        cases hf
    | false =>
      rw [c1] at hf
      cases c2 : Nat.beq 38 mi with
      | false =>
        rw [c2] at hf
        cases hf
      | true =>
        have e1 := Nat.eq_of_beq_eq_true c2
        rw [c2] at hf
        cases c3 : Nat.beq 9 a1 with
        | true =>
          have e2 := Nat.eq_of_beq_eq_true c3
          rw [c3] at hf
          cases hf
          exact Or.inr (Or.inl ⟨e1.symm, e2.symm, rfl⟩)
        | false =>
          rw [c3] at hf
          cases c4 : Nat.beq 17 a1 with
          | true =>
            have e2 := Nat.eq_of_beq_eq_true c4
            rw [c4] at hf
            cases hf
            exact Or.inr (Or.inr ⟨e1.symm, e2.symm, rfl⟩)
          | false =>
            rw [c4] at hf
            cases hf
  rcases key with ⟨rfl, rfl, rfl⟩ | ⟨rfl, rfl, rfl⟩ | ⟨rfl, rfl, rfl⟩
  · rintro ⟨q, kk, vs, z, v1, v2, v3⟩ hk
    have hrow := ((tab_all 32 y cc nL ret hm).2.2.2.2.2 164 (.getfield 64, 3, 4, 5, 0) rfl).resolve_left (fun h => by cases h)
    have em : mT[32]? = some (yX4_advance, cX4_advance, 1, none) := rfl
    rw [em] at hm
    cases hm
    refine rj_ldcS B Z.2.1 dX4_advance_161 ?_
    refine rj_aload_n B h1 (i := 0) dX4_advance_163 rfl v1 ?_
    refine rj_stp B h1 (r := (.getfield 64, 3, 4, 5, 0)) (K := fun b => b = (167, V, .int z :: .ref (D.2 100 0) :: st, w)) hrow ⟨q, kk, vs, .int z, _, rfl, v2, v3, rfl⟩ (fun b hb => ?_)
    rw [hb]
    refine rj_i2c B h1 dX4_advance_167 ?_
    refine rj_callV B (d1 := 4) (i := 0) (As := [.int ((z.toUInt32 % 65536).toInt32)]) (rst := st) (by decide) (by omega) (by decide) rfl jw_indexOf1_code jw_indexOf1_init jl_advance_168 jw_indexOf1_inst jw_indexOf1_sel jy_indexOf1_ok dX4_advance_168 rfl rfl (by omega) (jm_indexOf1 (by decide)) ⟨_, rfl⟩ (fun ov hov => ?_)
    obtain ⟨z', rfl⟩ := hov
    exact hk z'
  · intro hk
    have em : mT[38]? = some (yX4_wordNumber, cX4_wordNumber, 7, some .int) := rfl
    rw [em] at hm
    cases hm
    refine rj_ldcS B Z.2.2.1 dX4_wordNumber_9 ?_
    refine rj_callV B (d1 := 2) (i := 1) (As := []) (rst := st) (by decide) (by omega) (by decide) rfl jw_length_code jw_length_init jl_wordNumber_11 jw_length_inst jw_length_sel jy_length_ok dX4_wordNumber_11 rfl rfl (by omega) (jm_length (by decide)) rfl (fun ov hov => ?_)
    subst hov
    exact hk
  · rintro ⟨z, v1, v2, v3⟩ hk
    have em : mT[38]? = some (yX4_wordNumber, cX4_wordNumber, 7, some .int) := rfl
    rw [em] at hm
    cases hm
    refine rj_ldcS B Z.2.2.1 dX4_wordNumber_17 ?_
    refine rj_iload B h1 dX4_wordNumber_19 (by decide) v1 ?_
    refine rj_callV B (d1 := 4) (i := 1) (As := [.int z]) (rst := st) (by decide) (by omega) (by decide) rfl jw_charAt_code jw_charAt_init jl_wordNumber_21 jw_charAt_inst jw_charAt_sel jy_charAt_ok dX4_wordNumber_21 rfl rfl (by omega) (jm_charAt (by decide)) ⟨z, rfl, v2, by show z.toInt < (151 : Nat); omega⟩ (fun ov hov => ?_)
    obtain ⟨b, rfl⟩ := hov
    exact hk _
theorem mc_none : rt_MCok l D κ [] := by
  intro mi pc k hf
  cases hf
end MC
