theorem bX_image_0 : ri_chkR (0, (-1), (-1)) (ri_run ([], []) rD mt (999, 0) 24 20 68 (0, ri_ent [(0, (-2147483648), (-1))] 0, [], hX, 0, 0)) = true := by decide +kernel
theorem bM_image_0 : ri_chkR (0, (-1), (-1)) (ri_run ([], []) rD mt (999, 0) 32 20 122 (0, ri_ent [(0, (-2147483648), (-1))] 0, [], hM, 0, 0)) = true := by decide +kernel
theorem bX_image_1 : ri_chkR (0, 0, 0) (ri_run ([], []) rD mt (999, 0) 418 20 68 (0, ri_ent [(0, 0, 0)] 0, [], hX, 0, 0)) = true := by decide +kernel
theorem bM_image_1 : ri_chkR (0, 0, 0) (ri_run ([], []) rD mt (999, 0) 818 20 122 (0, ri_ent [(0, 0, 0)] 0, [], hM, 0, 0)) = true := by decide +kernel
theorem bX_image_2 : ri_chkR (0, 0, 0) (ri_run ([], []) rD mt (999, 0) 418 20 68 (0, ri_ent [(0, 1, 1)] 0, [], hX, 0, 0)) = true := by decide +kernel
theorem bM_image_2 : ri_chkR (0, 0, 0) (ri_run ([], []) rD mt (999, 0) 818 20 122 (0, ri_ent [(0, 1, 1)] 0, [], hM, 0, 0)) = true := by decide +kernel
theorem bX_image_3 : ri_chkR (0, 0, 0) (ri_run ([], []) rD mt (999, 0) 418 20 68 (0, ri_ent [(0, 2, 2)] 0, [], hX, 0, 0)) = true := by decide +kernel
theorem bM_image_3 : ri_chkR (0, 0, 0) (ri_run ([], []) rD mt (999, 0) 818 20 122 (0, ri_ent [(0, 2, 2)] 0, [], hM, 0, 0)) = true := by decide +kernel
theorem bX_image_4 : ri_chkR (0, (-1), (-1)) (ri_run ([], []) rD mt (999, 0) 27 20 68 (0, ri_ent [(0, 3, 2147483647)] 0, [], hX, 0, 0)) = true := by decide +kernel
theorem bM_image_4 : ri_chkR (0, (-1), (-1)) (ri_run ([], []) rD mt (999, 0) 35 20 122 (0, ri_ent [(0, 3, 2147483647)] 0, [], hM, 0, 0)) = true := by decide +kernel
theorem ag_image (a1 : Int32) : ri_agree 68 122 [a1] := by
  have b1 := ri_i32 a1
  unfold ri_lo ri_hi at b1
  rcases (show ((-2147483648) ≤ a1.toInt ∧ a1.toInt ≤ (-1)) ∨ (0 ≤ a1.toInt ∧ a1.toInt ≤ 0) ∨ (1 ≤ a1.toInt ∧ a1.toInt ≤ 1) ∨ (2 ≤ a1.toInt ∧ a1.toInt ≤ 2) ∨ (3 ≤ a1.toInt ∧ a1.toInt ≤ 2147483647) by omega) with h | h | h | h | h
  · exact ri_agree_of (xs := [(0, (-2147483648), (-1))]) (c := (-1)) (z := (-1)) ⟨ri_gI_0.mpr (by omega), trivial⟩ (by decide +kernel) bX_image_0 bM_image_0 (fun q hq => by rw [mT_68] at hq; cases hq; exact Nat.le_of_ble_eq_true rfl) (fun q hq => by rw [mT_122] at hq; cases hq; exact Nat.le_of_ble_eq_true rfl)
  · exact ri_agree_of (xs := [(0, 0, 0)]) (c := 0) (z := 0) ⟨ri_gI_0.mpr (by omega), trivial⟩ (by decide +kernel) bX_image_1 bM_image_1 (fun q hq => by rw [mT_68] at hq; cases hq; exact Nat.le_of_ble_eq_true rfl) (fun q hq => by rw [mT_122] at hq; cases hq; exact Nat.le_of_ble_eq_true rfl)
  · exact ri_agree_of (xs := [(0, 1, 1)]) (c := 0) (z := 0) ⟨ri_gI_0.mpr (by omega), trivial⟩ (by decide +kernel) bX_image_2 bM_image_2 (fun q hq => by rw [mT_68] at hq; cases hq; exact Nat.le_of_ble_eq_true rfl) (fun q hq => by rw [mT_122] at hq; cases hq; exact Nat.le_of_ble_eq_true rfl)
  · exact ri_agree_of (xs := [(0, 2, 2)]) (c := 0) (z := 0) ⟨ri_gI_0.mpr (by omega), trivial⟩ (by decide +kernel) bX_image_3 bM_image_3 (fun q hq => by rw [mT_68] at hq; cases hq; exact Nat.le_of_ble_eq_true rfl) (fun q hq => by rw [mT_122] at hq; cases hq; exact Nat.le_of_ble_eq_true rfl)
  · exact ri_agree_of (xs := [(0, 3, 2147483647)]) (c := (-1)) (z := (-1)) ⟨ri_gI_0.mpr (by omega), trivial⟩ (by decide +kernel) bX_image_4 bM_image_4 (fun q hq => by rw [mT_68] at hq; cases hq; exact Nat.le_of_ble_eq_true rfl) (fun q hq => by rw [mT_122] at hq; cases hq; exact Nat.le_of_ble_eq_true rfl)
