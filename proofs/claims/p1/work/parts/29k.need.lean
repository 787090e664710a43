theorem bX_coasts_0 : ri_chkR (0, (-2), (-2)) (ri_run ([], []) rD mt (999, 0) 29 20 57 (0, ri_ent [(0, (-2147483648), (-1)), (0, (-2147483648), 2147483647), (0, (-2147483648), 2147483647)] 0, [], hX, 0, 0)) = true := by decide +kernel
theorem bM_coasts_0 : ri_chkR (0, (-2), (-2)) (ri_run ([], []) rD mt (999, 0) 35 20 104 (0, ri_ent [(0, (-2147483648), (-1)), (0, (-2147483648), 2147483647), (0, (-2147483648), 2147483647)] 0, [], hM, 0, 0)) = true := by decide +kernel
theorem bX_coasts_1 : ri_chkR (0, (-2), (-2)) (ri_run ([], []) rD mt (999, 0) 32 20 57 (0, ri_ent [(0, 60, 2147483647), (0, (-2147483648), 2147483647), (0, (-2147483648), 2147483647)] 0, [], hX, 0, 0)) = true := by decide +kernel
theorem bM_coasts_1 : ri_chkR (0, (-2), (-2)) (ri_run ([], []) rD mt (999, 0) 38 20 104 (0, ri_ent [(0, 60, 2147483647), (0, (-2147483648), 2147483647), (0, (-2147483648), 2147483647)] 0, [], hM, 0, 0)) = true := by decide +kernel
theorem bX_coasts_2 : ri_chkR (0, (-2), (-2)) (ri_run ([], []) rD mt (999, 0) 36 20 57 (0, ri_ent [(0, 0, 59), (0, (-2147483648), (-61)), (0, (-2147483648), 2147483647)] 0, [], hX, 0, 0)) = true := by decide +kernel
theorem bM_coasts_2 : ri_chkR (0, (-2), (-2)) (ri_run ([], []) rD mt (999, 0) 49 20 104 (0, ri_ent [(0, 0, 59), (0, (-2147483648), (-61)), (0, (-2147483648), 2147483647)] 0, [], hM, 0, 0)) = true := by decide +kernel
theorem bX_coasts_3 : ri_chkR (0, (-2), (-2)) (ri_run ([], []) rD mt (999, 0) 39 20 57 (0, ri_ent [(0, 0, 59), (0, 61, 2147483647), (0, (-2147483648), 2147483647)] 0, [], hX, 0, 0)) = true := by decide +kernel
theorem bM_coasts_3 : ri_chkR (0, (-2), (-2)) (ri_run ([], []) rD mt (999, 0) 52 20 104 (0, ri_ent [(0, 0, 59), (0, 61, 2147483647), (0, (-2147483648), 2147483647)] 0, [], hM, 0, 0)) = true := by decide +kernel
theorem bM_coasts_7 : ri_chkR (0, (-2), (-2)) (ri_run ([], []) rD mt (999, 0) 63 20 104 (0, ri_ent [(0, 0, 59), (0, (-60), 60), (0, (-2147483648), (-1))] 0, [], hM, 0, 0)) = true := by decide +kernel
theorem bM_coasts_8 : ri_chkR (0, (-2), (-2)) (ri_run ([], []) rD mt (999, 0) 66 20 104 (0, ri_ent [(0, 0, 59), (0, (-60), 60), (0, 3, 2147483647)] 0, [], hM, 0, 0)) = true := by decide +kernel
theorem ag_coasts (a1 : Int32) (a2 : Int32) (a3 : Int32) : ri_agree 57 104 [a1, a2, a3] := by
  have b1 := ri_i32 a1
  unfold ri_lo ri_hi at b1
  have b2 := ri_i32 a2
  unfold ri_lo ri_hi at b2
  have b3 := ri_i32 a3
  unfold ri_lo ri_hi at b3
  rcases (show ((-2147483648) ≤ a1.toInt ∧ a1.toInt ≤ (-1) ∧ (-2147483648) ≤ a2.toInt ∧ a2.toInt ≤ 2147483647 ∧ (-2147483648) ≤ a3.toInt ∧ a3.toInt ≤ 2147483647) ∨ (60 ≤ a1.toInt ∧ a1.toInt ≤ 2147483647 ∧ (-2147483648) ≤ a2.toInt ∧ a2.toInt ≤ 2147483647 ∧ (-2147483648) ≤ a3.toInt ∧ a3.toInt ≤ 2147483647) ∨ (0 ≤ a1.toInt ∧ a1.toInt ≤ 59 ∧ (-2147483648) ≤ a2.toInt ∧ a2.toInt ≤ (-61) ∧ (-2147483648) ≤ a3.toInt ∧ a3.toInt ≤ 2147483647) ∨ (0 ≤ a1.toInt ∧ a1.toInt ≤ 59 ∧ 61 ≤ a2.toInt ∧ a2.toInt ≤ 2147483647 ∧ (-2147483648) ≤ a3.toInt ∧ a3.toInt ≤ 2147483647) ∨ (0 ≤ a1.toInt ∧ a1.toInt ≤ 59 ∧ (-60) ≤ a2.toInt ∧ a2.toInt ≤ 60 ∧ 0 ≤ a3.toInt ∧ a3.toInt ≤ 0) ∨ (0 ≤ a1.toInt ∧ a1.toInt ≤ 59 ∧ (-60) ≤ a2.toInt ∧ a2.toInt ≤ 60 ∧ 1 ≤ a3.toInt ∧ a3.toInt ≤ 1) ∨ (0 ≤ a1.toInt ∧ a1.toInt ≤ 59 ∧ (-60) ≤ a2.toInt ∧ a2.toInt ≤ 60 ∧ 2 ≤ a3.toInt ∧ a3.toInt ≤ 2) ∨ (0 ≤ a1.toInt ∧ a1.toInt ≤ 59 ∧ (-60) ≤ a2.toInt ∧ a2.toInt ≤ 60 ∧ (-2147483648) ≤ a3.toInt ∧ a3.toInt ≤ (-1)) ∨ (0 ≤ a1.toInt ∧ a1.toInt ≤ 59 ∧ (-60) ≤ a2.toInt ∧ a2.toInt ≤ 60 ∧ 3 ≤ a3.toInt ∧ a3.toInt ≤ 2147483647) by omega) with h | h | h | h | h | h | h | h | h
  · exact ri_agree_of (xs := [(0, (-2147483648), (-1)), (0, (-2147483648), 2147483647), (0, (-2147483648), 2147483647)]) (c := (-2)) (z := (-2)) ⟨ri_gI_0.mpr (by omega), ⟨ri_gI_0.mpr (by omega), ⟨ri_gI_0.mpr (by omega), trivial⟩⟩⟩ (by decide +kernel) bX_coasts_0 bM_coasts_0 (fun q hq => by rw [mT_57] at hq; cases hq; exact Nat.le_of_ble_eq_true rfl) (fun q hq => by rw [mT_104] at hq; cases hq; exact Nat.le_of_ble_eq_true rfl)
  · exact ri_agree_of (xs := [(0, 60, 2147483647), (0, (-2147483648), 2147483647), (0, (-2147483648), 2147483647)]) (c := (-2)) (z := (-2)) ⟨ri_gI_0.mpr (by omega), ⟨ri_gI_0.mpr (by omega), ⟨ri_gI_0.mpr (by omega), trivial⟩⟩⟩ (by decide +kernel) bX_coasts_1 bM_coasts_1 (fun q hq => by rw [mT_57] at hq; cases hq; exact Nat.le_of_ble_eq_true rfl) (fun q hq => by rw [mT_104] at hq; cases hq; exact Nat.le_of_ble_eq_true rfl)
  · exact ri_agree_of (xs := [(0, 0, 59), (0, (-2147483648), (-61)), (0, (-2147483648), 2147483647)]) (c := (-2)) (z := (-2)) ⟨ri_gI_0.mpr (by omega), ⟨ri_gI_0.mpr (by omega), ⟨ri_gI_0.mpr (by omega), trivial⟩⟩⟩ (by decide +kernel) bX_coasts_2 bM_coasts_2 (fun q hq => by rw [mT_57] at hq; cases hq; exact Nat.le_of_ble_eq_true rfl) (fun q hq => by rw [mT_104] at hq; cases hq; exact Nat.le_of_ble_eq_true rfl)
  · exact ri_agree_of (xs := [(0, 0, 59), (0, 61, 2147483647), (0, (-2147483648), 2147483647)]) (c := (-2)) (z := (-2)) ⟨ri_gI_0.mpr (by omega), ⟨ri_gI_0.mpr (by omega), ⟨ri_gI_0.mpr (by omega), trivial⟩⟩⟩ (by decide +kernel) bX_coasts_3 bM_coasts_3 (fun q hq => by rw [mT_57] at hq; cases hq; exact Nat.le_of_ble_eq_true rfl) (fun q hq => by rw [mT_104] at hq; cases hq; exact Nat.le_of_ble_eq_true rfl)
  · have hg := co_G_rng (a := a1.toInt) (b := a2.toInt) ⟨by omega, by omega⟩ ⟨by omega, by omega⟩
    obtain ⟨z, hz⟩ := ri_ofInt (n := (co_G a1.toInt a2.toInt).1) (by omega) (by omega)
    exact ⟨z, co_X_0 hz ⟨by omega, by omega⟩ ⟨by omega, by omega⟩ ⟨by omega, by omega⟩, co_M_0 hz ⟨by omega, by omega⟩ ⟨by omega, by omega⟩ ⟨by omega, by omega⟩⟩
  · exact ⟨0, co_X_1 ⟨by omega, by omega⟩ ⟨by omega, by omega⟩ ⟨by omega, by omega⟩, co_M_1 ⟨by omega, by omega⟩ ⟨by omega, by omega⟩ ⟨by omega, by omega⟩⟩
  · have hg := co_G_rng (a := a1.toInt) (b := a2.toInt) ⟨by omega, by omega⟩ ⟨by omega, by omega⟩
    obtain ⟨z, hz⟩ := ri_ofInt (n := (co_G a1.toInt a2.toInt).2) (by omega) (by omega)
    exact ⟨z, co_X_2 hz ⟨by omega, by omega⟩ ⟨by omega, by omega⟩ ⟨by omega, by omega⟩, co_M_2 hz ⟨by omega, by omega⟩ ⟨by omega, by omega⟩ ⟨by omega, by omega⟩⟩
  · exact ⟨-2, co_X_3 ⟨by omega, by omega⟩ ⟨by omega, by omega⟩ ⟨by omega, by omega⟩, ri_con_of (xs := [(0, 0, 59), (0, (-60), 60), (0, (-2147483648), (-1))]) (τ := fun _ => 0) (ri_okE0 _) ⟨ri_gI_0.mpr (by omega), ⟨ri_gI_0.mpr (by omega), ⟨ri_gI_0.mpr (by omega), trivial⟩⟩⟩ (ri_zz (by decide +kernel)) bM_coasts_7 (fun q hq => by rw [mT_104] at hq; cases hq; exact Nat.le_of_ble_eq_true rfl)⟩
  · exact ⟨-2, co_X_4 ⟨by omega, by omega⟩ ⟨by omega, by omega⟩ ⟨by omega, by omega⟩, ri_con_of (xs := [(0, 0, 59), (0, (-60), 60), (0, 3, 2147483647)]) (τ := fun _ => 0) (ri_okE0 _) ⟨ri_gI_0.mpr (by omega), ⟨ri_gI_0.mpr (by omega), ⟨ri_gI_0.mpr (by omega), trivial⟩⟩⟩ (ri_zz (by decide +kernel)) bM_coasts_8 (fun q hq => by rw [mT_104] at hq; cases hq; exact Nat.le_of_ble_eq_true rfl)⟩
noncomputable def snX : ri_S := ((12, [some (.inr (.inl (some 68))), some (.inr (.inl (some 8))), some (.inl (1, 0, 0)), some (.inl (2, 0, 0))], [.inl (2, 0, 0), .inl (1, 0, 0), .inr (.inl (some 8)), .inr (.inl (some 68))], hXg, 0, 0) : ri_S)
noncomputable def snM : ri_S := ((20, [some (.inr (.inl (some 0))), some (.inl (1, 0, 0)), some (.inl (2, 0, 0))], [.inl (2, 0, 0), .inl (1, 0, 0), .inr (.inl (some 0))], hMg, 0, 0) : ri_S)
theorem nE_X : ri_k1 (ri_fl cL1) snX (ri_run cEs rD mt (17, 12) 40 19 17 (0, [some (.inr (.inl (some 68))), some (.inr (.inl (some 8))), some (.inl (1, 0, 0)), none], [], hXg, 0, 0)) = true := by decide +kernel
theorem nA_X : ri_k1 (ri_fl cLv) snX (ri_run cEv rD mt (17, 12) 40 19 17 ((15, [some (.inr (.inl (some 68))), some (.inr (.inl (some 8))), some (.inl (1, 0, 0)), some (.inl (2, 0, 0))], [], hXg, 0, 0) : ri_S)) = true := by decide +kernel
theorem nB_X : ri_ko ri_f0 (some (0, -1, -1)) hXg (ri_run cEw rD mt (999, 0) 40 19 17 ((15, [some (.inr (.inl (some 68))), some (.inr (.inl (some 8))), some (.inl (1, 0, 0)), some (.inl (2, 0, 0))], [], hXg, 0, 0) : ri_S)) = true := by decide +kernel
theorem nE_M : ri_k1 (ri_fl cL1) snM (ri_run cEs rD mt (136, 20) 60 20 136 (0, [some (.inr (.inl (some 0))), some (.inl (1, 0, 0)), none], [], hM, 0, 0)) = true := by decide +kernel
theorem nA_M : ri_k1 (ri_fl cLv) snM (ri_run cEv rD mt (136, 20) 60 20 136 ((23, [some (.inr (.inl (some 0))), some (.inl (1, 0, 0)), some (.inl (2, 0, 0))], [], hMg, 0, 0) : ri_S)) = true := by decide +kernel
theorem nB_M : ri_chkR (0, -1, -1) (ri_run cEw rD mt (999, 0) 60 20 136 ((23, [some (.inr (.inl (some 0))), some (.inl (1, 0, 0)), some (.inl (2, 0, 0))], [], hMg, 0, 0) : ri_S)) = true := by decide +kernel
theorem need_X (l : Launch) {κ : Nat → ClassId} {D : va_G} {ws : va_W} (sz : Nat) {a : Int} {vs : List Value} (hH : ri_gH (co_S a 1) κ hXg ws) (hr : ri_rel (co_S a 1) (ri_ad ws) [some (.inr (.inl (some 68))), some (.inr (.inl (some 8))), some (.inl (1, 0, 0))] vs) (ha : 0 ≤ a ∧ a ≤ 59) {y : MethodName} {cc : ByteArray} {nL : Nat} {ret : Option FieldType} (hm : mT[17]? = some (y, cc, nL, ret)) : Met l y (.code y cc nL ret :: gU) (ri_rm 19 0 0) (ri_Pc κ D ws sz vs) (ri_Qo (co_S a 1) κ D ws sz (some (0, -1, -1)) hXg) 0 0 (va_A ws sz) := by
  have hm0 := hm
  rw [mT_17] at hm
  cases hm
  have hlen : vs.length ≤ 4 := by
    have := hr.1
    have e : ([some (.inr (.inl (some 68))), some (.inr (.inl (some 8))), some (.inl (1, 0, 0))] : List (Option ri_V)).length = 3 := rfl
    omega
  refine ri_body_met (d := 19) hm0 l sz (A0 := [some (.inr (.inl (some 68))), some (.inr (.inl (some 8))), some (.inl (1, 0, 0)), none]) (Qc := fun sz => ri_Qo (co_S a 1) κ D ws sz (some (0, -1, -1)) hXg) hH hr.2.2 hlen (ri_rel_ent (k := 1) hr (ri_fl_ok co_li) (by decide +kernel)) (fun p e s m below meth c B => ?_)
  refine AB_k1 hm0 B (ok_cEs ha) (ri_fl_ok ok_cL1) ⟨rfl, rfl⟩ nE_X ?_
  have loop : ∀ (j : Nat) (b : Int), 1 ≤ b → b + (j : Int) = 60 → ri_AB p l e s m vs.toArray below meth c 4 κ D ws (MQ below (ri_Qo (co_S a 1) κ D ws s.heap.size (some (0, -1, -1)) hXg) vs.toArray s 0 0 (va_A ws s.heap.size)) 19 (co_S a b) snX := by
    intro j
    induction j with
    | zero =>
      intro b h1 h2
      refine ri_At_call hm0 B (d1 := 18) (j := 51) (ci := 3) (mj := 14) (np := 3) (a := ([some (.inr (.inl (some 68))), some (.inr (.inl (some 8))), some (.inl (1, 0, 0)), some (.inl (2, 0, 0))], [])) (h' := hXg) (st' := []) (lo' := [some (.inr (.inl (some 68))), some (.inr (.inl (some 8))), some (.inl (1, 0, 0)), some (.inl (2, 0, 0))]) (o := none) (f := ri_fl cLi) (τ' := co_S a b) (by decide) (((tab_all 17 _ _ _ _ mT_17).2.2.2.2.2 12 (.invokevirtual 51, 3, 7, 14, 4) rfl).resolve_left (fun h => by cases h)) rfl (by decide) (by decide +kernel) ⟨rfl, rfl⟩ (ri_fl_ok co_li) (by decide +kernel) (by decide +kernel) (fun yy cc' nL' ret' ws1 sz1 top hmm hg hrel => co_wk_X l sz1 hg hrel ha (by omega) hmm) ?_
      exact AB_ko hm0 B (ok_cEw ha (by omega)) ri_f0_ok nB_X
    | succ j ih =>
      intro b h1 h2
      refine ri_At_call hm0 B (d1 := 18) (j := 51) (ci := 3) (mj := 14) (np := 3) (a := ([some (.inr (.inl (some 68))), some (.inr (.inl (some 8))), some (.inl (1, 0, 0)), some (.inl (2, 0, 0))], [])) (h' := hXg) (st' := []) (lo' := [some (.inr (.inl (some 68))), some (.inr (.inl (some 8))), some (.inl (1, 0, 0)), some (.inl (2, 0, 0))]) (o := none) (f := ri_fl cLi) (τ' := co_S a b) (by decide) (((tab_all 17 _ _ _ _ mT_17).2.2.2.2.2 12 (.invokevirtual 51, 3, 7, 14, 4) rfl).resolve_left (fun h => by cases h)) rfl (by decide) (by decide +kernel) ⟨rfl, rfl⟩ (ri_fl_ok co_li) (by decide +kernel) (by decide +kernel) (fun yy cc' nL' ret' ws1 sz1 top hmm hg hrel => co_wk_X l sz1 hg hrel ha (by omega) hmm) ?_
      exact AB_k1 hm0 B (ok_cEv ha (by omega)) (ri_fl_ok ok_cLv) ⟨rfl, rfl⟩ nA_X (ih (b + 1) (by omega) (by omega))
  exact loop 59 1 (by omega) (by omega)
theorem nF_X : ri_k1 (ri_fl cL1) ((16, [some (.inr (.inl (some 0))), some (.inl (1, 0, 0))], [.inl (1, 0, 0), .inr (.inl (some 8)), .inr (.inl (some 68))], hXg, 0, 0) : ri_S) (ri_run cEs rD mt (74, 16) 60 20 74 (0, [some (.inr (.inl (some 0))), some (.inl (1, 0, 0))], [], hX, 0, 0)) = true := by decide +kernel
theorem nG_X : ri_chkR (0, -1, -1) (ri_run ([], []) rD mt (999, 0) 40 20 74 ((19, [some (.inr (.inl (some 0))), none], [.inl (0, (-1), (-1))], hXg, 0, 0) : ri_S)) = true := by decide +kernel
theorem nc_X {a1 : Int32} (h1 : 0 ≤ a1.toInt ∧ a1.toInt ≤ 59) : ri_con 74 hX [a1] (-1) := by
  intro l κ D ws sz q0 y cc nL ret hm hH hq0
  have hm0 := hm
  rw [mT_74] at hm
  cases hm
  refine ri_body_met (d := 20) hm0 l sz (τ := co_S a1.toInt 1) (A0 := [some (.inr (.inl (some 0))), some (.inl (1, 0, 0))]) (Qc := fun sz => ri_Qz ws sz (-1)) (hH _) (fun v hv => by
    rcases List.mem_cons.mp hv with rfl | hv
    · rfl
    · obtain ⟨w, -, rfl⟩ := List.mem_map.mp hv
      rfl) (Nat.le_of_ble_eq_true rfl) (fun i x hx => by
    rcases i with _ | _ | i
    · cases hx
      exact ⟨.ref q0, rfl, q0, hq0, rfl⟩
    · cases hx
      exact ⟨.int a1, rfl, a1, rfl, (by show a1.toInt + 0 ≤ a1.toInt ∧ a1.toInt ≤ a1.toInt + 0; omega)⟩
    · simp at hx) (fun p e s m below meth c B => ?_)
  refine AB_k1 hm0 B (ok_cEs h1) (ri_fl_ok ok_cL1) ⟨rfl, rfl⟩ nF_X ?_
  refine ri_At_call hm0 B (d1 := 19) (j := 255) (ci := 3) (mj := 17) (np := 2) (a := ([some (.inr (.inl (some 68))), some (.inr (.inl (some 8))), some (.inl (1, 0, 0))], [])) (h' := hXg) (st' := []) (lo' := [some (.inr (.inl (some 0))), none]) (o := some (0, -1, -1)) (f := ri_f0) (τ' := co_S a1.toInt 1) (by decide) (((tab_all 74 _ _ _ _ mT_74).2.2.2.2.2 16 (.invokevirtual 255, 3, 7, 17, 3) rfl).resolve_left (fun h => by cases h)) rfl (by decide) (by decide +kernel) ⟨rfl, rfl⟩ ri_f0_ok (by decide +kernel) (by decide +kernel) (fun yy cc' nL' ret' ws1 sz1 top hmm hg hrel => need_X l sz1 hg hrel h1 hmm) ?_
  exact AB_r hm0 B (ri_okE0 _) (ri_zz (by decide +kernel)) nG_X
theorem nc_M {a1 : Int32} (h1 : 0 ≤ a1.toInt ∧ a1.toInt ≤ 59) : ri_con 136 hM [a1] (-1) := by
  intro l κ D ws sz q0 y cc nL ret hm hH hq0
  have hm0 := hm
  rw [mT_136] at hm
  cases hm
  refine ri_body_met (d := 20) hm0 l sz (τ := co_S a1.toInt 1) (A0 := [some (.inr (.inl (some 0))), some (.inl (1, 0, 0)), none]) (Qc := fun sz => ri_Qz ws sz (-1)) (hH _) (fun v hv => by
    rcases List.mem_cons.mp hv with rfl | hv
    · rfl
    · obtain ⟨w, -, rfl⟩ := List.mem_map.mp hv
      rfl) (Nat.le_of_ble_eq_true rfl) (fun i x hx => by
    rcases i with _ | _ | _ | i
    · cases hx
      exact ⟨.ref q0, rfl, q0, hq0, rfl⟩
    · cases hx
      exact ⟨.int a1, rfl, a1, rfl, (by show a1.toInt + 0 ≤ a1.toInt ∧ a1.toInt ≤ a1.toInt + 0; omega)⟩
    · cases hx
    · simp at hx) (fun p e s m below meth c B => ?_)
  refine AB_k1 hm0 B (ok_cEs h1) (ri_fl_ok ok_cL1) ⟨rfl, rfl⟩ nE_M ?_
  have loop : ∀ (j : Nat) (b : Int), 1 ≤ b → b + (j : Int) = 60 → ri_AB p l e s m (Value.ref q0 :: [a1].map .int).toArray below meth c 3 κ D ws (MQ below (ri_Qz ws s.heap.size (-1)) (Value.ref q0 :: [a1].map .int).toArray s 0 0 (va_A ws s.heap.size)) 20 (co_S a1.toInt b) snM := by
    intro j
    induction j with
    | zero =>
      intro b h2 h3
      refine ri_At_call hm0 B (d1 := 18) (j := 666) (ci := 12) (mj := 102) (np := 2) (a := ([some (.inr (.inl (some 0))), some (.inl (1, 0, 0)), some (.inl (2, 0, 0))], [])) (h' := hMg) (st' := []) (lo' := [some (.inr (.inl (some 0))), some (.inl (1, 0, 0)), some (.inl (2, 0, 0))]) (o := none) (f := ri_fl cLi) (τ' := co_S a1.toInt b) (by decide) (((tab_all 136 _ _ _ _ mT_136).2.2.2.2.2 20 (.invokevirtual 666, 3, 16, 102, 3) rfl).resolve_left (fun h => by cases h)) rfl (by decide) (by decide +kernel) ⟨rfl, rfl⟩ (ri_fl_ok co_li) (by decide +kernel) (by decide +kernel) (fun yy cc' nL' ret' ws1 sz1 top hmm hg hrel => co_wk_M l sz1 hg hrel h1 (by omega) hmm) ?_
      exact AB_r hm0 B (ok_cEw h1 (by omega)) (ri_zz (by decide +kernel)) nB_M
    | succ j ih =>
      intro b h2 h3
      refine ri_At_call hm0 B (d1 := 18) (j := 666) (ci := 12) (mj := 102) (np := 2) (a := ([some (.inr (.inl (some 0))), some (.inl (1, 0, 0)), some (.inl (2, 0, 0))], [])) (h' := hMg) (st' := []) (lo' := [some (.inr (.inl (some 0))), some (.inl (1, 0, 0)), some (.inl (2, 0, 0))]) (o := none) (f := ri_fl cLi) (τ' := co_S a1.toInt b) (by decide) (((tab_all 136 _ _ _ _ mT_136).2.2.2.2.2 20 (.invokevirtual 666, 3, 16, 102, 3) rfl).resolve_left (fun h => by cases h)) rfl (by decide) (by decide +kernel) ⟨rfl, rfl⟩ (ri_fl_ok co_li) (by decide +kernel) (by decide +kernel) (fun yy cc' nL' ret' ws1 sz1 top hmm hg hrel => co_wk_M l sz1 hg hrel h1 (by omega) hmm) ?_
      exact AB_k1 hm0 B (ok_cEv h1 (by omega)) (ri_fl_ok ok_cLv) ⟨rfl, rfl⟩ nA_M (ih (b + 1) (by omega) (by omega))
  exact loop 59 1 (by omega) (by omega)
theorem bX_need_0 : ri_chkR (0, (-1), (-1)) (ri_run ([], []) rD mt (999, 0) 29 20 74 (0, ri_ent [(0, (-2147483648), (-1))] 0, [], hX, 0, 0)) = true := by decide +kernel
theorem bM_need_0 : ri_chkR (0, (-1), (-1)) (ri_run ([], []) rD mt (999, 0) 35 20 136 (0, ri_ent [(0, (-2147483648), (-1))] 1, [], hM, 0, 0)) = true := by decide +kernel
theorem bX_need_1 : ri_chkR (0, (-1), (-1)) (ri_run ([], []) rD mt (999, 0) 32 20 74 (0, ri_ent [(0, 60, 2147483647)] 0, [], hX, 0, 0)) = true := by decide +kernel
theorem bM_need_1 : ri_chkR (0, (-1), (-1)) (ri_run ([], []) rD mt (999, 0) 38 20 136 (0, ri_ent [(0, 60, 2147483647)] 1, [], hM, 0, 0)) = true := by decide +kernel
theorem ag_need (a1 : Int32) : ri_agree 74 136 [a1] := by
  have b1 := ri_i32 a1
  unfold ri_lo ri_hi at b1
  rcases (show ((-2147483648) ≤ a1.toInt ∧ a1.toInt ≤ (-1)) ∨ (60 ≤ a1.toInt ∧ a1.toInt ≤ 2147483647) ∨ (0 ≤ a1.toInt ∧ a1.toInt ≤ 59) by omega) with h | h | h
  · exact ri_agree_of (xs := [(0, (-2147483648), (-1))]) (c := (-1)) (z := (-1)) ⟨ri_gI_0.mpr (by omega), trivial⟩ (by decide +kernel) bX_need_0 bM_need_0 (fun q hq => by rw [mT_74] at hq; cases hq; exact Nat.le_of_ble_eq_true rfl) (fun q hq => by rw [mT_136] at hq; cases hq; exact Nat.le_of_ble_eq_true rfl)
  · exact ri_agree_of (xs := [(0, 60, 2147483647)]) (c := (-1)) (z := (-1)) ⟨ri_gI_0.mpr (by omega), trivial⟩ (by decide +kernel) bX_need_1 bM_need_1 (fun q hq => by rw [mT_74] at hq; cases hq; exact Nat.le_of_ble_eq_true rfl) (fun q hq => by rw [mT_136] at hq; cases hq; exact Nat.le_of_ble_eq_true rfl)
  · exact ⟨-1, nc_X h, nc_M h⟩
