theorem bX_due_0 : ri_chkR (0, (-1), (-1)) (ri_run ([], []) rD mt (999, 0) 435 20 60 (0, ri_ent [(0, (-2147483648), (-1))] 0, [], hX, 0, 0)) = true := by decide +kernel
theorem bM_due_0 : ri_chkR (0, (-1), (-1)) (ri_run ([], []) rD mt (999, 0) 38 20 108 (0, ri_ent [(0, (-2147483648), (-1))] 2, [], hM, 0, 0)) = true := by decide +kernel
theorem bX_due_1 : ri_chkR (0, (-1), (-1)) (ri_run ([], []) rD mt (999, 0) 439 20 60 (0, ri_ent [(0, 0, 2147483647)] 0, [], hX, 0, 0)) = true := by decide +kernel
theorem bM_due_1 : ri_chkR (0, (-1), (-1)) (ri_run ([], []) rD mt (999, 0) 41 20 108 (0, ri_ent [(0, 0, 2147483647)] 2, [], hM, 0, 0)) = true := by decide +kernel
theorem ag_due (a1 : Int32) : ri_agree 60 108 [a1] := by
  have b1 := ri_i32 a1
  unfold ri_lo ri_hi at b1
  rcases (show ((-2147483648) ≤ a1.toInt ∧ a1.toInt ≤ (-1)) ∨ (0 ≤ a1.toInt ∧ a1.toInt ≤ 2147483647) by omega) with h | h
  · exact ri_agree_of (xs := [(0, (-2147483648), (-1))]) (c := (-1)) (z := (-1)) ⟨ri_gI_0.mpr (by omega), trivial⟩ (by decide +kernel) bX_due_0 bM_due_0 (fun q hq => by rw [mT_60] at hq; cases hq; exact Nat.le_of_ble_eq_true rfl) (fun q hq => by rw [mT_108] at hq; cases hq; exact Nat.le_of_ble_eq_true rfl)
  · exact ri_agree_of (xs := [(0, 0, 2147483647)]) (c := (-1)) (z := (-1)) ⟨ri_gI_0.mpr (by omega), trivial⟩ (by decide +kernel) bX_due_1 bM_due_1 (fun q hq => by rw [mT_60] at hq; cases hq; exact Nat.le_of_ble_eq_true rfl) (fun q hq => by rw [mT_108] at hq; cases hq; exact Nat.le_of_ble_eq_true rfl)
