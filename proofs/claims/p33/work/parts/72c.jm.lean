/-! The JDK's own String methods, at the two constants -/
section JM
variable {l : Launch} {κ : Nat → ClassId} {D : va_G}
theorem jm_coder {i : Nat} (hi : i < 2) : rj_Met l κ D 1 jy_coder jc_coder 1 (some .byte) (fun vs => vs = [.ref (D.2 100 i)]) (fun _ ov => ov = some (.int 0)) := by
  refine rj_body (by decide) (fun vs h => by subst h; exact Nat.le_refl 1) ?_
  rintro ws vs rfl p e s m below meth c B
  have Z : rc_Z D ws s := B.2.2.2.2.2.2.2.2.2.2
  refine rj_gets B Z.2.2.2.1 jl_coder_0 jd_coder_0 ?_
  refine rj_if B (Nat.le_refl 1) (t := 13) jd_coder_3 (by decide) (fun h => absurd h (show ¬ (1 : Int32).toInt = 0 by decide)) (fun _ => ?_)
  refine rj_aload_n B (Nat.le_refl 1) (i := 0) jd_coder_6 rfl rfl ?_
  refine rj_getS B (Z.1.1 i hi).2.1 jl_coder_7 jd_coder_7 ?_
  refine rj_goto B (Nat.le_refl 1) (t := 14) jd_coder_10 (by decide) ?_
  exact rj_retn B (by decide) jd_coder_14 rfl rfl ⟨rfl, rfl⟩
theorem jm_isLatin1 {i : Nat} (hi : i < 2) : rj_Met l κ D 1 jy_isLatin1 jc_isLatin1 1 (some .boolean) (fun vs => vs = [.ref (D.2 100 i)]) (fun _ ov => ov = some (.int 1)) := by
  refine rj_body (by decide) (fun vs h => by subst h; exact Nat.le_refl 1) ?_
  rintro ws vs rfl p e s m below meth c B
  have Z : rc_Z D ws s := B.2.2.2.2.2.2.2.2.2.2
  refine rj_gets B Z.2.2.2.1 jl_isLatin1_0 jd_isLatin1_0 ?_
  refine rj_if B (Nat.le_refl 1) (t := 17) jd_isLatin1_3 (by decide) (fun h => absurd h (show ¬ (1 : Int32).toInt = 0 by decide)) (fun _ => ?_)
  refine rj_aload_n B (Nat.le_refl 1) (i := 0) jd_isLatin1_6 rfl rfl ?_
  refine rj_getS B (Z.1.1 i hi).2.1 jl_isLatin1_7 jd_isLatin1_7 ?_
  refine rj_if B (Nat.le_refl 1) (t := 17) jd_isLatin1_10 (by decide) (fun h => absurd rfl h) (fun _ => ?_)
  refine rj_iconst B (Nat.le_refl 1) (z := 1) jd_isLatin1_13 rfl ?_
  refine rj_goto B (Nat.le_refl 1) (t := 18) jd_isLatin1_14 (by decide) ?_
  exact rj_retn B (by decide) jd_isLatin1_18 rfl rfl ⟨rfl, rfl⟩
theorem jLen_lt {i : Nat} (hi : i < 2) : jLen.getD i 0 < 2 ^ 31 := by
  rcases (show i = 0 ∨ i = 1 by omega) with rfl | rfl <;> decide
theorem jm_length {i : Nat} (hi : i < 2) : rj_Met l κ D 2 jy_length jc_length 1 (some .int) (fun vs => vs = [.ref (D.2 100 i)]) (fun _ ov => ov = some (.int (Int32.ofNat (jLen.getD i 0)))) := by
  refine rj_body (by decide) (fun vs h => by subst h; exact Nat.le_refl 1) ?_
  rintro ws vs rfl p e s m below meth c B
  have Z : rc_Z D ws s := B.2.2.2.2.2.2.2.2.2.2
  have h1 : 1 ≤ 2 := by omega
  refine rj_aload_n B h1 (i := 0) jd_length_0 rfl rfl ?_
  refine rj_getS B (Z.1.1 i hi).2.2.1 jl_length_1 jd_length_1 ?_
  refine rj_alen B (Z.1.1 i hi).2.2.2 jd_length_4 ?_
  refine rj_aload_n B h1 (i := 0) jd_length_5 rfl rfl ?_
  refine rj_callV B (d1 := 1) (i := i) (As := []) (rst := [.int (Int32.ofNat (jLen.getD i 0))]) hi (by omega) (by decide) rfl jw_coder_code jw_coder_init jl_length_6 jw_coder_inst jw_coder_sel jy_coder_ok jd_length_6 rfl rfl (by show 1 ≤ 4; decide) (jm_coder hi) rfl (fun ov hov => ?_)
  subst hov
  refine rj_ishr B h1 jd_length_9 ?_
  refine rc_reti B jd_length_10 rfl rfl ⟨rfl, ?_⟩
  exact congrArg (fun z => some (Value.int z)) (sc_shr0 (jLen_lt hi))
theorem jm_pcheckIx : rj_Met l κ D 1 jy_pcheckIx jc_pcheckIx 3 (some .int) (fun vs => ∃ (a b : Int32) (v : Value), (v = .null ∨ ∃ q : Nat, v = .ref q) ∧ vs = [.int a, .int b, v] ∧ 0 ≤ a.toInt ∧ a.toInt < b.toInt) (fun _ ov => ∃ z : Int32, ov = some (.int z)) := by
  refine rj_body (by decide) (fun vs h => by
    obtain ⟨a, b, v, hv, rfl, -⟩ := h
    rcases hv with rfl | ⟨q, rfl⟩
    · exact Nat.le_refl 3
    · exact Nat.le_refl 3) ?_
  rintro ws vs ⟨a, b, v, hv, rfl, ha, hb⟩ p e s m below meth c B
  have h1 : 1 ≤ 1 := Nat.le_refl 1
  refine rj_iload_n B h1 (i := 0) jd_pcheckIx_0 rfl rfl ?_
  refine rj_if B h1 (t := 9) jd_pcheckIx_1 (by decide) (fun h => ?_) (fun _ => ?_)
  · have h : a.toInt < 0 := h
    omega
  · refine rj_iload_n B h1 (i := 0) jd_pcheckIx_4 rfl rfl ?_
    refine rj_iload_n B h1 (i := 1) jd_pcheckIx_5 rfl rfl ?_
    refine rj_icmp B h1 (t := 16) jd_pcheckIx_6 (by decide) (fun _ => ?_) (fun h => absurd hb h)
    refine rj_iload_n B h1 (i := 0) jd_pcheckIx_16 rfl rfl ?_
    exact rc_reti B jd_pcheckIx_17 rfl rfl ⟨rfl, a, rfl⟩
theorem jm_checkIx : rj_Met l κ D 2 jy_checkIx jc_checkIx 2 none (fun vs => ∃ a b : Int32, vs = [.int a, .int b] ∧ 0 ≤ a.toInt ∧ a.toInt < b.toInt) (fun _ ov => ov = none) := by
  refine rj_body (by decide) (fun vs h => by obtain ⟨a, b, rfl, -⟩ := h; exact Nat.le_refl 2) ?_
  rintro ws vs ⟨a, b, rfl, ha, hb⟩ p e s m below meth c B
  have Z : rc_Z D ws s := B.2.2.2.2.2.2.2.2.2.2
  have h1 : 1 ≤ 2 := by omega
  refine rj_iload_n B h1 (i := 0) jd_checkIx_0 rfl rfl ?_
  refine rj_iload_n B h1 (i := 1) jd_checkIx_1 rfl rfl ?_
  refine rj_gets B Z.2.2.2.2 jl_checkIx_2 jd_checkIx_2 ?_
  refine rj_callS B (d1 := 1) (As := [.int a, .int b, rc_fv D]) (rst := []) (by omega) (by decide) jw_pcheckIx_code jw_pcheckIx_init jl_checkIx_5 jw_pcheckIx_static jy_pcheckIx_ok jd_checkIx_5 rfl rfl (by decide) jm_pcheckIx ⟨a, b, _, rc_fv_ok D, rfl, ha, hb⟩ (fun ov hov => ?_)
  obtain ⟨z, rfl⟩ := hov
  refine rj_pop B h1 jd_checkIx_8 ?_
  exact rc_retv B jd_checkIx_9 rfl rfl ⟨rfl, rfl⟩
theorem jm_lcharAt {i : Nat} (hi : i < 2) : rj_Met l κ D 3 jy_lcharAt jc_lcharAt 2 (some .char) (fun vs => ∃ a : Int32, vs = [.ref (D.2 101 i), .int a] ∧ 0 ≤ a.toInt ∧ a.toInt < jLen.getD i 0) (fun _ ov => ∃ b : Int32, ov = some (.int (b &&& 255))) := by
  refine rj_body (by decide) (fun vs h => by obtain ⟨a, rfl, -⟩ := h; exact Nat.le_refl 2) ?_
  rintro ws vs ⟨a, rfl, ha, hb⟩ p e s m below meth c B
  have Z : rc_Z D ws s := B.2.2.2.2.2.2.2.2.2.2
  have h1 : 1 ≤ 3 := by omega
  have hT := (Z.1.1 i hi).2.2.2
  refine rj_iload_n B h1 (i := 1) jd_lcharAt_0 rfl rfl ?_
  refine rj_aload_n B h1 (i := 0) jd_lcharAt_1 rfl rfl ?_
  refine rj_alen B hT jd_lcharAt_2 ?_
  have hl := jLen_lt hi
  have ez : (Int32.ofNat (jLen.getD i 0)).toInt = (jLen.getD i 0 : Nat) := Int32.toInt_ofNat_of_lt hl
  refine rj_callS B (d1 := 2) (As := [.int a, .int (Int32.ofNat (jLen.getD i 0))]) (rst := []) (by omega) (by decide) jw_checkIx_code jw_checkIx_init jl_lcharAt_3 jw_checkIx_static jy_checkIx_ok jd_lcharAt_3 rfl rfl (by decide) jm_checkIx ⟨a, _, rfl, ha, by rw [ez]; exact hb⟩ (fun ov hov => ?_)
  subst hov
  refine rj_aload_n B h1 (i := 0) jd_lcharAt_6 rfl rfl ?_
  refine rj_iload_n B h1 (i := 1) jd_lcharAt_7 rfl rfl ?_
  refine rj_bald B hT ha hb rfl jd_lcharAt_8 ?_
  refine rj_sipush B h1 (z := 255) jd_lcharAt_9 (by decide) ?_
  refine rj_iand B h1 jd_lcharAt_12 ?_
  refine rj_i2c B h1 jd_lcharAt_13 ?_
  rw [sc_c2]
  exact rj_retn B (sc_nar _) jd_lcharAt_14 rfl rfl ⟨rfl, _, rfl⟩
theorem jm_charAt {i : Nat} (hi : i < 2) : rj_Met l κ D 4 jy_charAt jc_charAt 2 (some .char) (fun vs => ∃ a : Int32, vs = [.ref (D.2 100 i), .int a] ∧ 0 ≤ a.toInt ∧ a.toInt < jLen.getD i 0) (fun _ ov => ∃ b : Int32, ov = some (.int (b &&& 255))) := by
  refine rj_body (by decide) (fun vs h => by obtain ⟨a, rfl, -⟩ := h; exact Nat.le_refl 2) ?_
  rintro ws vs ⟨a, rfl, ha, hb⟩ p e s m below meth c B
  have Z : rc_Z D ws s := B.2.2.2.2.2.2.2.2.2.2
  have h1 : 1 ≤ 4 := by omega
  refine rj_aload_n B h1 (i := 0) jd_charAt_0 rfl rfl ?_
  refine rj_callV B (d1 := 1) (i := i) (As := []) (rst := []) hi (by omega) (by decide) rfl jw_isLatin1_code jw_isLatin1_init jl_charAt_1 jw_isLatin1_inst jw_isLatin1_sel jy_isLatin1_ok jd_charAt_1 rfl rfl (by decide) (jm_isLatin1 hi) rfl (fun ov hov => ?_)
  subst hov
  refine rj_if B h1 (t := 16) jd_charAt_4 (by decide) (fun h => absurd h (show ¬ (1 : Int32).toInt = 0 by decide)) (fun _ => ?_)
  refine rj_aload_n B h1 (i := 0) jd_charAt_7 rfl rfl ?_
  refine rj_getS B (Z.1.1 i hi).2.2.1 jl_charAt_8 jd_charAt_8 ?_
  refine rj_iload_n B h1 (i := 1) jd_charAt_11 rfl rfl ?_
  refine rj_callS B (d1 := 3) (As := [.ref (D.2 101 i), .int a]) (rst := []) (by omega) (by decide) jw_lcharAt_code jw_lcharAt_init jl_charAt_12 jw_lcharAt_static jy_lcharAt_ok jd_charAt_12 rfl rfl (by decide) (jm_lcharAt hi) ⟨a, rfl, ha, hb⟩ (fun ov hov => ?_)
  obtain ⟨b, rfl⟩ := hov
  exact rj_retn B (sc_nar _) jd_charAt_15 rfl rfl ⟨rfl, b, rfl⟩
theorem jm_canEncode : rj_Met l κ D 1 jy_canEncode jc_canEncode 1 (some .boolean) (fun vs => ∃ a : Int32, vs = [.int a]) (fun _ ov => ∃ z : Int32, ov = some (.int z)) := by
  refine rj_body (by decide) (fun vs h => by obtain ⟨a, rfl⟩ := h; exact Nat.le_refl 1) ?_
  rintro ws vs ⟨a, rfl⟩ p e s m below meth c B
  have h1 : 1 ≤ 1 := Nat.le_refl 1
  have f0 : rc_AB p l e s m [Value.int a].toArray below meth c 1 D ws (MQ below (rc_Q D ws s.heap.size (fun ov ws' => ws' = ws ∧ ∃ z : Int32, ov = some (.int z))) [Value.int a].toArray s 0 0 (va_A ws s.heap.size)) 1 (15, rc_en [.int a], [], ws) := by
    refine rj_iconst B h1 (z := 0) jd_canEncode_15 rfl ?_
    exact rj_retn B (by decide) jd_canEncode_16 rfl rfl ⟨rfl, 0, rfl⟩
  refine rj_iload_n B h1 (i := 0) jd_canEncode_0 rfl rfl ?_
  refine rj_if B h1 (t := 15) jd_canEncode_1 (by decide) (fun _ => f0) (fun _ => ?_)
  refine rj_iload_n B h1 (i := 0) jd_canEncode_4 rfl rfl ?_
  refine rj_sipush B h1 (z := 255) jd_canEncode_5 (by decide) ?_
  refine rj_icmp B h1 (t := 15) jd_canEncode_8 (by decide) (fun _ => f0) (fun _ => ?_)
  refine rj_iconst B h1 (z := 1) jd_canEncode_11 rfl ?_
  refine rj_goto B h1 (t := 16) jd_canEncode_12 (by decide) ?_
  exact rj_retn B (by decide) jd_canEncode_16 rfl rfl ⟨rfl, 1, rfl⟩
theorem jm_indexOfChar {i : Nat} (hi : i < 2) : rj_Met l κ D 1 jy_indexOfChar jc_indexOfChar 6 (some .int) (fun vs => ∃ a f t : Int32, vs = [.ref (D.2 101 i), .int a, .int f, .int t] ∧ 0 ≤ f.toInt ∧ t.toInt ≤ jLen.getD i 0) (fun _ ov => ∃ z : Int32, ov = some (.int z)) := by
  refine rj_body (by decide) (fun vs h => by obtain ⟨a, f, t, rfl, -⟩ := h; exact (by decide : 4 ≤ 6)) ?_
  rintro ws vs ⟨a, f, t, rfl, hf, ht⟩ p e s m below meth c B
  have Z : rc_Z D ws s := B.2.2.2.2.2.2.2.2.2.2
  have h1 : 1 ≤ 1 := Nat.le_refl 1
  have hT := (Z.1.1 i hi).2.2.2
  have hl := jLen_lt hi
  have loop : ∀ (n : Nat) (x b : Int32), (t.toInt - x.toInt).toNat ≤ n → 0 ≤ x.toInt → rc_AB p l e s m [Value.ref (D.2 101 i), .int a, .int f, .int t].toArray below meth c 6 D ws (MQ below (rc_Q D ws s.heap.size (fun ov ws' => ws' = ws ∧ ∃ z : Int32, ov = some (.int z))) [Value.ref (D.2 101 i), .int a, .int f, .int t].toArray s 0 0 (va_A ws s.heap.size)) 1 (7, [some (.ref (D.2 101 i)), some (.int a), some (.int f), some (.int t), some (.int b), some (.int x)], [], ws) := by
    intro n
    induction n with
    | zero =>
      intro x b hx hx0
      refine rj_iload B h1 jd_indexOfChar_7 (by decide) rfl ?_
      refine rj_iload_n B h1 (i := 3) jd_indexOfChar_9 rfl rfl ?_
      refine rj_icmp B h1 (t := 31) jd_indexOfChar_10 (by decide) (fun _ => ?_) (fun h => ?_)
      · refine rj_iconst B h1 (z := -1) jd_indexOfChar_31 rfl ?_
        exact rc_reti B jd_indexOfChar_32 rfl rfl ⟨rfl, _, rfl⟩
      · have h : ¬ t.toInt ≤ x.toInt := h
        omega
    | succ n ih =>
      intro x b hx hx0
      refine rj_iload B h1 jd_indexOfChar_7 (by decide) rfl ?_
      refine rj_iload_n B h1 (i := 3) jd_indexOfChar_9 rfl rfl ?_
      refine rj_icmp B h1 (t := 31) jd_indexOfChar_10 (by decide) (fun _ => ?_) (fun h => ?_)
      · refine rj_iconst B h1 (z := -1) jd_indexOfChar_31 rfl ?_
        exact rc_reti B jd_indexOfChar_32 rfl rfl ⟨rfl, _, rfl⟩
      · have h : ¬ t.toInt ≤ x.toInt := h
        refine rj_aload_n B h1 (i := 0) jd_indexOfChar_13 rfl rfl ?_
        refine rj_iload B h1 jd_indexOfChar_14 (by decide) rfl ?_
        refine rj_bald B hT hx0 (by omega) rfl jd_indexOfChar_16 ?_
        refine rj_iload B h1 jd_indexOfChar_17 (by decide) rfl ?_
        refine rj_icmp B h1 (t := 25) jd_indexOfChar_19 (by decide) (fun _ => ?_) (fun _ => ?_)
        · refine rj_iinc B h1 jd_indexOfChar_25 (by decide) (by decide) rfl (fun j v hj hv => ?_) ?_
          · have : j = 4 := by omega
            subst this
            cases hv
            exact fun q => by cases q
          · refine rj_goto B h1 (t := 7) jd_indexOfChar_28 (by decide) ?_
            have hb := Int32.toInt_lt t
            have ex : (x + Int32.ofInt 1).toInt = x.toInt + 1 := by
              rw [Int32.toInt_add, show (Int32.ofInt 1).toInt = 1 by decide]
              exact Int.bmod_eq_of_le (by omega) (by omega)
            exact ih (x + Int32.ofInt 1) b (by omega) (by omega)
        · refine rj_iload B h1 jd_indexOfChar_22 (by decide) rfl ?_
          exact rc_reti B jd_indexOfChar_24 rfl rfl ⟨rfl, _, rfl⟩
  refine rc_At_loc (V := [some (.ref (D.2 101 i)), some (.int a), some (.int f), some (.int t), none, none]) (fun j v hj hv => ?_) ?_
  · match j, hv with
    | 0, hv => exact hv
    | 1, hv => exact hv
    | 2, hv => exact hv
    | 3, hv => exact hv
    | 4, hv => cases hv
    | 5, hv => cases hv
    | j + 6, hv => cases hv
  · refine rj_iload_n B h1 (i := 1) jd_indexOfChar_0 rfl rfl ?_
    refine rj_i2b B h1 jd_indexOfChar_1 ?_
    refine rj_istore B h1 jd_indexOfChar_2 (by decide) (fun j v hj hv => ?_) ?_
    · have : j = 3 := by omega
      subst this
      cases hv
      exact fun q => by cases q
    · refine rj_iload_n B h1 (i := 2) jd_indexOfChar_4 rfl rfl ?_
      refine rj_istore B h1 jd_indexOfChar_5 (by decide) (fun j v hj hv => ?_) ?_
      · have : j = 4 := by omega
        subst this
        cases hv
        exact fun q => by cases q
      · exact loop _ f _ (Nat.le_refl _) hf
theorem jm_lindexOf {i : Nat} (hi : i < 2) : rj_Met l κ D 2 jy_lindexOf jc_lindexOf 4 (some .int) (fun vs => ∃ a f t : Int32, vs = [.ref (D.2 101 i), .int a, .int f, .int t]) (fun _ ov => ∃ z : Int32, ov = some (.int z)) := by
  refine rj_body (by decide) (fun vs h => by obtain ⟨a, f, t, rfl⟩ := h; exact (by decide : 4 ≤ 4)) ?_
  rintro ws vs ⟨a, f, t, rfl⟩ p e s m below meth c B
  have Z : rc_Z D ws s := B.2.2.2.2.2.2.2.2.2.2
  have h1 : 1 ≤ 2 := by omega
  have hT := (Z.1.1 i hi).2.2.2
  have hl := jLen_lt hi
  have ez : (Int32.ofNat (jLen.getD i 0)).toInt = (jLen.getD i 0 : Nat) := Int32.toInt_ofNat_of_lt hl
  have e0 : (0 : Int32).toInt = 0 := by decide
  refine rj_iload_n B h1 (i := 1) jd_lindexOf_0 rfl rfl ?_
  refine rj_callS B (d1 := 1) (As := [.int a]) (rst := []) (by omega) (by decide) jw_canEncode_code jw_canEncode_init jl_lindexOf_1 jw_canEncode_static jy_canEncode_ok jd_lindexOf_1 rfl rfl (by decide) jm_canEncode ⟨a, rfl⟩ (fun ov hov => ?_)
  obtain ⟨z, rfl⟩ := hov
  refine rj_if B h1 (t := 9) jd_lindexOf_4 (by decide) (fun _ => ?_) (fun _ => ?_)
  · refine rj_iload_n B h1 (i := 2) jd_lindexOf_9 rfl rfl ?_
    refine rj_iconst B h1 (z := 0) jd_lindexOf_10 rfl ?_
    refine rj_stp B h1 (r := (.invokestatic 92, 3, 2, 1, 0)) (K := fun b => b = (14, rc_en [.ref (D.2 101 i), .int a, .int f, .int t], [.int (if f < 0 then 0 else f)], ws)) ⟨jd_lindexOf_11, rfl, Or.inl ⟨rfl, Or.inr (Or.inl ⟨rfl, jl_lindexOf_11⟩)⟩⟩ ⟨rfl, Or.inr (Or.inl ⟨rfl, f, 0, [], rfl, by decide, rfl⟩)⟩ (fun b hb => ?_)
    rw [hb]
    refine rj_istore_n B h1 (i := 2) jd_lindexOf_14 rfl (by decide) (fun j v hj hv => ?_) ?_
    · have : j = 1 := by omega
      subst this
      cases hv
      exact fun q => by cases q
    · have hf0 : 0 ≤ (if f < 0 then (0 : Int32) else f).toInt := by
        split
        · omega
        · rename_i g
          have := Int32.le_iff_toInt_le.mp (Int32.not_lt.mp g)
          omega
      generalize (if f < 0 then (0 : Int32) else f) = g at hf0
      refine rj_iload_n B h1 (i := 3) jd_lindexOf_15 rfl rfl ?_
      refine rj_aload_n B h1 (i := 0) jd_lindexOf_16 rfl rfl ?_
      refine rj_alen B hT jd_lindexOf_17 ?_
      refine rj_stp B h1 (r := (.invokestatic 38, 3, 2, 2, 0)) (K := fun b => b = (21, (rc_en [.ref (D.2 101 i), .int a, .int f, .int t]).set 2 (some (.int g)), [.int (if (Int32.ofNat (jLen.getD i 0)) < t then (Int32.ofNat (jLen.getD i 0)) else t)], ws)) ⟨jd_lindexOf_18, rfl, Or.inl ⟨rfl, Or.inr (Or.inr (Or.inl ⟨rfl, jl_lindexOf_18⟩))⟩⟩ ⟨rfl, Or.inr (Or.inr (Or.inl ⟨rfl, t, Int32.ofNat (jLen.getD i 0), [], rfl, by decide, rfl⟩))⟩ (fun b hb => ?_)
      rw [hb]
      refine rj_istore_n B h1 (i := 3) jd_lindexOf_21 rfl (by decide) (fun j v hj hv => ?_) ?_
      · have : j = 2 := by omega
        subst this
        cases hv
        exact fun q => by cases q
      · have ht0 : (if (Int32.ofNat (jLen.getD i 0)) < t then (Int32.ofNat (jLen.getD i 0)) else t).toInt ≤ jLen.getD i 0 := by
          split
          · omega
          · rename_i g
            have := Int32.le_iff_toInt_le.mp (Int32.not_lt.mp g)
            omega
        generalize (if (Int32.ofNat (jLen.getD i 0)) < t then (Int32.ofNat (jLen.getD i 0)) else t) = u at ht0
        refine rj_iload_n B h1 (i := 2) jd_lindexOf_22 rfl rfl ?_
        refine rj_iload_n B h1 (i := 3) jd_lindexOf_23 rfl rfl ?_
        refine rj_icmp B h1 (t := 29) jd_lindexOf_24 (by decide) (fun _ => ?_) (fun _ => ?_)
        · refine rj_aload_n B h1 (i := 0) jd_lindexOf_29 rfl rfl ?_
          refine rj_iload_n B h1 (i := 1) jd_lindexOf_30 rfl rfl ?_
          refine rj_iload_n B h1 (i := 2) jd_lindexOf_31 rfl rfl ?_
          refine rj_iload_n B h1 (i := 3) jd_lindexOf_32 rfl rfl ?_
          refine rj_callS B (d1 := 1) (As := [.ref (D.2 101 i), .int a, .int g, .int u]) (rst := []) (by omega) (by decide) jw_indexOfChar_code jw_indexOfChar_init jl_lindexOf_33 jw_indexOfChar_static jy_indexOfChar_ok jd_lindexOf_33 rfl rfl (by decide) (jm_indexOfChar hi) ⟨a, g, u, rfl, hf0, ht0⟩ (fun ov hov => ?_)
          obtain ⟨z, rfl⟩ := hov
          exact rc_reti B jd_lindexOf_36 rfl rfl ⟨rfl, _, rfl⟩
        · refine rj_iconst B h1 (z := -1) jd_lindexOf_27 rfl ?_
          exact rc_reti B jd_lindexOf_28 rfl rfl ⟨rfl, _, rfl⟩
  · refine rj_iconst B h1 (z := -1) jd_lindexOf_7 rfl ?_
    exact rc_reti B jd_lindexOf_8 rfl rfl ⟨rfl, _, rfl⟩
theorem jm_indexOf2 {i : Nat} (hi : i < 2) : rj_Met l κ D 3 jy_indexOf2 jc_indexOf2 3 (some .int) (fun vs => ∃ a f : Int32, vs = [.ref (D.2 100 i), .int a, .int f]) (fun _ ov => ∃ z : Int32, ov = some (.int z)) := by
  refine rj_body (by decide) (fun vs h => by obtain ⟨a, f, rfl⟩ := h; exact (by decide : 3 ≤ 3)) ?_
  rintro ws vs ⟨a, f, rfl⟩ p e s m below meth c B
  have Z : rc_Z D ws s := B.2.2.2.2.2.2.2.2.2.2
  have h1 : 1 ≤ 3 := by omega
  refine rj_aload_n B h1 (i := 0) jd_indexOf2_0 rfl rfl ?_
  refine rj_callV B (d1 := 1) (i := i) (As := []) (rst := []) hi (by omega) (by decide) rfl jw_isLatin1_code jw_isLatin1_init jl_indexOf2_1 jw_isLatin1_inst jw_isLatin1_sel jy_isLatin1_ok jd_indexOf2_1 rfl rfl (by decide) (jm_isLatin1 hi) rfl (fun ov hov => ?_)
  subst hov
  refine rj_if B h1 (t := 23) jd_indexOf2_4 (by decide) (fun h => absurd h (show ¬ (1 : Int32).toInt = 0 by decide)) (fun _ => ?_)
  refine rj_aload_n B h1 (i := 0) jd_indexOf2_7 rfl rfl ?_
  refine rj_getS B (Z.1.1 i hi).2.2.1 jl_indexOf2_8 jd_indexOf2_8 ?_
  refine rj_iload_n B h1 (i := 1) jd_indexOf2_11 rfl rfl ?_
  refine rj_iload_n B h1 (i := 2) jd_indexOf2_12 rfl rfl ?_
  refine rj_aload_n B h1 (i := 0) jd_indexOf2_13 rfl rfl ?_
  refine rj_callV B (d1 := 2) (i := i) (As := []) (rst := [.int f, .int a, .ref (D.2 101 i)]) hi (by omega) (by decide) rfl jw_length_code jw_length_init jl_indexOf2_14 jw_length_inst jw_length_sel jy_length_ok jd_indexOf2_14 rfl rfl (by show 3 ≤ 4; decide) (jm_length hi) rfl (fun ov hov => ?_)
  subst hov
  refine rj_callS B (d1 := 2) (As := [.ref (D.2 101 i), .int a, .int f, .int (Int32.ofNat (jLen.getD i 0))]) (rst := []) (by omega) (by decide) jw_lindexOf_code jw_lindexOf_init jl_indexOf2_17 jw_lindexOf_static jy_lindexOf_ok jd_indexOf2_17 rfl rfl (by decide) (jm_lindexOf hi) ⟨a, f, _, rfl⟩ (fun ov hov => ?_)
  obtain ⟨z, rfl⟩ := hov
  refine rj_goto B h1 (t := 36) jd_indexOf2_20 (by decide) ?_
  exact rc_reti B jd_indexOf2_36 rfl rfl ⟨rfl, _, rfl⟩
theorem jm_indexOf1 {i : Nat} (hi : i < 2) : rj_Met l κ D 4 jy_indexOf1 jc_indexOf1 2 (some .int) (fun vs => ∃ a : Int32, vs = [.ref (D.2 100 i), .int a]) (fun _ ov => ∃ z : Int32, ov = some (.int z)) := by
  refine rj_body (by decide) (fun vs h => by obtain ⟨a, rfl⟩ := h; exact (by decide : 2 ≤ 2)) ?_
  rintro ws vs ⟨a, rfl⟩ p e s m below meth c B
  have h1 : 1 ≤ 4 := by omega
  refine rj_aload_n B h1 (i := 0) jd_indexOf1_0 rfl rfl ?_
  refine rj_iload_n B h1 (i := 1) jd_indexOf1_1 rfl rfl ?_
  refine rj_iconst B h1 (z := 0) jd_indexOf1_2 rfl ?_
  refine rj_callV B (d1 := 3) (i := i) (As := [.int a, .int 0]) (rst := []) hi (by omega) (by decide) rfl jw_indexOf2_code jw_indexOf2_init jl_indexOf1_3 jw_indexOf2_inst jw_indexOf2_sel jy_indexOf2_ok jd_indexOf1_3 rfl rfl (by decide) (jm_indexOf2 hi) ⟨a, 0, rfl⟩ (fun ov hov => ?_)
  obtain ⟨z, rfl⟩ := hov
  exact rc_reti B jd_indexOf1_6 rfl rfl ⟨rfl, _, rfl⟩
end JM
