theorem bX_judge_0 : ri_chkR (0, (-1), (-1)) (ri_run ([], []) rD mt (999, 0) 24 20 70 (0, ri_ent [(0, (-2147483648), (-1)), (0, (-2147483648), 2147483647)] 0, [], hX, 0, 0)) = true := by decide +kernel
theorem bM_judge_0 : ri_chkR (0, (-1), (-1)) (ri_run ([], []) rD mt (999, 0) 32 20 129 (0, ri_ent [(0, (-2147483648), (-1)), (0, (-2147483648), 2147483647)] 3, [], hM, 0, 0)) = true := by decide +kernel
theorem bX_judge_1 : ri_chkR (0, 0, 0) (ri_run ([], []) rD mt (999, 0) 18155 20 70 (0, ri_ent [(0, 0, 0), (0, (-2147483648), 2147483647)] 0, [], hX, 0, 0)) = true := by decide +kernel
theorem bM_judge_1 : ri_chkR (0, 0, 0) (ri_run ([], []) rD mt (999, 0) 17561 20 129 (0, ri_ent [(0, 0, 0), (0, (-2147483648), 2147483647)] 3, [], hM, 0, 0)) = true := by decide +kernel
theorem bX_judge_2 : ri_chkR (0, (-1), (-1)) (ri_run ([], []) rD mt (999, 0) 18152 20 70 (0, ri_ent [(0, 1, 1), (0, (-2147483648), 2147483647)] 0, [], hX, 0, 0)) = true := by decide +kernel
theorem bM_judge_2 : ri_chkR (0, (-1), (-1)) (ri_run ([], []) rD mt (999, 0) 17560 20 129 (0, ri_ent [(0, 1, 1), (0, (-2147483648), 2147483647)] 3, [], hM, 0, 0)) = true := by decide +kernel
theorem bX_judge_3 : ri_chkR (0, (-1), (-1)) (ri_run ([], []) rD mt (999, 0) 27 20 70 (0, ri_ent [(0, 2, 2147483647), (0, (-2147483648), 2147483647)] 0, [], hX, 0, 0)) = true := by decide +kernel
theorem bM_judge_3 : ri_chkR (0, (-1), (-1)) (ri_run ([], []) rD mt (999, 0) 35 20 129 (0, ri_ent [(0, 2, 2147483647), (0, (-2147483648), 2147483647)] 3, [], hM, 0, 0)) = true := by decide +kernel
theorem ag_judge (a1 : Int32) (a2 : Int32) : ri_agree 70 129 [a1, a2] := by
  have b1 := ri_i32 a1
  unfold ri_lo ri_hi at b1
  have b2 := ri_i32 a2
  unfold ri_lo ri_hi at b2
  rcases (show ((-2147483648) ≤ a1.toInt ∧ a1.toInt ≤ (-1) ∧ (-2147483648) ≤ a2.toInt ∧ a2.toInt ≤ 2147483647) ∨ (0 ≤ a1.toInt ∧ a1.toInt ≤ 0 ∧ (-2147483648) ≤ a2.toInt ∧ a2.toInt ≤ 2147483647) ∨ (1 ≤ a1.toInt ∧ a1.toInt ≤ 1 ∧ (-2147483648) ≤ a2.toInt ∧ a2.toInt ≤ 2147483647) ∨ (2 ≤ a1.toInt ∧ a1.toInt ≤ 2147483647 ∧ (-2147483648) ≤ a2.toInt ∧ a2.toInt ≤ 2147483647) by omega) with h | h | h | h
  · exact ri_agree_of (xs := [(0, (-2147483648), (-1)), (0, (-2147483648), 2147483647)]) (c := (-1)) (z := (-1)) ⟨ri_gI_0.mpr (by omega), ⟨ri_gI_0.mpr (by omega), trivial⟩⟩ (by decide +kernel) bX_judge_0 bM_judge_0 (fun q hq => by rw [mT_70] at hq; cases hq; exact Nat.le_of_ble_eq_true rfl) (fun q hq => by rw [mT_129] at hq; cases hq; exact Nat.le_of_ble_eq_true rfl)
  · exact ri_agree_of (xs := [(0, 0, 0), (0, (-2147483648), 2147483647)]) (c := 0) (z := 0) ⟨ri_gI_0.mpr (by omega), ⟨ri_gI_0.mpr (by omega), trivial⟩⟩ (by decide +kernel) bX_judge_1 bM_judge_1 (fun q hq => by rw [mT_70] at hq; cases hq; exact Nat.le_of_ble_eq_true rfl) (fun q hq => by rw [mT_129] at hq; cases hq; exact Nat.le_of_ble_eq_true rfl)
  · exact ri_agree_of (xs := [(0, 1, 1), (0, (-2147483648), 2147483647)]) (c := (-1)) (z := (-1)) ⟨ri_gI_0.mpr (by omega), ⟨ri_gI_0.mpr (by omega), trivial⟩⟩ (by decide +kernel) bX_judge_2 bM_judge_2 (fun q hq => by rw [mT_70] at hq; cases hq; exact Nat.le_of_ble_eq_true rfl) (fun q hq => by rw [mT_129] at hq; cases hq; exact Nat.le_of_ble_eq_true rfl)
  · exact ri_agree_of (xs := [(0, 2, 2147483647), (0, (-2147483648), 2147483647)]) (c := (-1)) (z := (-1)) ⟨ri_gI_0.mpr (by omega), ⟨ri_gI_0.mpr (by omega), trivial⟩⟩ (by decide +kernel) bX_judge_3 bM_judge_3 (fun q hq => by rw [mT_70] at hq; cases hq; exact Nat.le_of_ble_eq_true rfl) (fun q hq => by rw [mT_129] at hq; cases hq; exact Nat.le_of_ble_eq_true rfl)
