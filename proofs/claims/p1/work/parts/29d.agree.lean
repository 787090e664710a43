theorem bX_run_0 : ri_chkR (0, (-1), (-1)) (ri_run ([], []) rD mt (999, 0) 24 20 80 (0, ri_ent [(0, (-2147483648), (-1))] 1, [], hX, 0, 0)) = true := by decide +kernel
theorem bM_run_0 : ri_chkR (0, (-1), (-1)) (ri_run ([], []) rD mt (999, 0) 32 20 142 (0, ri_ent [(0, (-2147483648), (-1))] 1, [], hM, 0, 0)) = true := by decide +kernel
theorem bX_run_2 : ri_chkR (0, (-1), (-1)) (ri_run ([], []) rD mt (999, 0) 27 20 80 (0, ri_ent [(0, 501, 2147483647)] 1, [], hX, 0, 0)) = true := by decide +kernel
theorem bM_run_2 : ri_chkR (0, (-1), (-1)) (ri_run ([], []) rD mt (999, 0) 35 20 142 (0, ri_ent [(0, 501, 2147483647)] 1, [], hM, 0, 0)) = true := by decide +kernel
theorem ag_run (a1 : Int32) : ri_agree 80 142 [a1] := by
  have b1 := ri_i32 a1
  unfold ri_lo ri_hi at b1
  rcases (show ((-2147483648) ≤ a1.toInt ∧ a1.toInt ≤ (-1)) ∨ (0 ≤ a1.toInt ∧ a1.toInt ≤ 500) ∨ (501 ≤ a1.toInt ∧ a1.toInt ≤ 2147483647) by omega) with h | h | h
  · exact ri_agree_of (xs := [(0, (-2147483648), (-1))]) (c := (-1)) (z := (-1)) ⟨ri_gI_0.mpr (by omega), trivial⟩ (by decide +kernel) bX_run_0 bM_run_0 (fun q hq => by rw [mT_80] at hq; cases hq; exact Nat.le_of_ble_eq_true rfl) (fun q hq => by rw [mT_142] at hq; cases hq; exact Nat.le_of_ble_eq_true rfl)
  · exact ⟨0, lc_X_run a1 h, lc_M_run a1 h⟩
  · exact ri_agree_of (xs := [(0, 501, 2147483647)]) (c := (-1)) (z := (-1)) ⟨ri_gI_0.mpr (by omega), trivial⟩ (by decide +kernel) bX_run_2 bM_run_2 (fun q hq => by rw [mT_80] at hq; cases hq; exact Nat.le_of_ble_eq_true rfl) (fun q hq => by rw [mT_142] at hq; cases hq; exact Nat.le_of_ble_eq_true rfl)
theorem bX_head_0 : ri_chkR (0, (-1), (-1)) (ri_run ([], []) rD mt (999, 0) 30 20 67 (0, ri_ent [(0, (-2147483648), 0)] 0, [], hX, 0, 0)) = true := by decide +kernel
theorem bM_head_0 : ri_chkR (0, (-1), (-1)) (ri_run ([], []) rD mt (999, 0) 32 20 120 (0, ri_ent [(0, (-2147483648), 0)] 1, [], hM, 0, 0)) = true := by decide +kernel
theorem bX_head_2 : ri_chkR (0, (-1), (-1)) (ri_run ([], []) rD mt (999, 0) 33 20 67 (0, ri_ent [(0, 301, 2147483647)] 0, [], hX, 0, 0)) = true := by decide +kernel
theorem bM_head_2 : ri_chkR (0, (-1), (-1)) (ri_run ([], []) rD mt (999, 0) 35 20 120 (0, ri_ent [(0, 301, 2147483647)] 1, [], hM, 0, 0)) = true := by decide +kernel
theorem ag_head (a1 : Int32) : ri_agree 67 120 [a1] := by
  have b1 := ri_i32 a1
  unfold ri_lo ri_hi at b1
  rcases (show ((-2147483648) ≤ a1.toInt ∧ a1.toInt ≤ 0) ∨ (1 ≤ a1.toInt ∧ a1.toInt ≤ 300) ∨ (301 ≤ a1.toInt ∧ a1.toInt ≤ 2147483647) by omega) with h | h | h
  · exact ri_agree_of (xs := [(0, (-2147483648), 0)]) (c := (-1)) (z := (-1)) ⟨ri_gI_0.mpr (by omega), trivial⟩ (by decide +kernel) bX_head_0 bM_head_0 (fun q hq => by rw [mT_67] at hq; cases hq; exact Nat.le_of_ble_eq_true rfl) (fun q hq => by rw [mT_120] at hq; cases hq; exact Nat.le_of_ble_eq_true rfl)
  · exact ⟨-1, ri_con_of (xs := [(0, 1, 300)]) (τ := fun _ => 0) (ri_okE0 _) ⟨ri_gI_0.mpr (by omega), trivial⟩ (ri_zz (by decide +kernel)) bX_head_1 (fun q hq => by rw [mT_67] at hq; cases hq; exact Nat.le_of_ble_eq_true rfl), hc_M_head a1 h⟩
  · exact ri_agree_of (xs := [(0, 301, 2147483647)]) (c := (-1)) (z := (-1)) ⟨ri_gI_0.mpr (by omega), trivial⟩ (by decide +kernel) bX_head_2 bM_head_2 (fun q hq => by rw [mT_67] at hq; cases hq; exact Nat.le_of_ble_eq_true rfl) (fun q hq => by rw [mT_120] at hq; cases hq; exact Nat.le_of_ble_eq_true rfl)
theorem bX_power_0 : ri_chkR (0, (-1), (-1)) (ri_run ([], []) rD mt (999, 0) 30 20 76 (0, ri_ent [(0, (-2147483648), 0), (0, (-2147483648), (-1))] 0, [], hX, 0, 0)) = true := by decide +kernel
theorem bM_power_0 : ri_chkR (0, (-1), (-1)) (ri_run ([], []) rD mt (999, 0) 32 20 138 (0, ri_ent [(0, (-2147483648), 0), (0, (-2147483648), (-1))] 5, [], hM, 0, 0)) = true := by decide +kernel
theorem bX_power_1 : ri_chkR (0, (-1), (-1)) (ri_run ([], []) rD mt (999, 0) 30 20 76 (0, ri_ent [(0, (-2147483648), 0), (0, 0, 1)] 0, [], hX, 0, 0)) = true := by decide +kernel
theorem bM_power_1 : ri_chkR (0, (-1), (-1)) (ri_run ([], []) rD mt (999, 0) 32 20 138 (0, ri_ent [(0, (-2147483648), 0), (0, 0, 1)] 5, [], hM, 0, 0)) = true := by decide +kernel
theorem bX_power_2 : ri_chkR (0, (-1), (-1)) (ri_run ([], []) rD mt (999, 0) 30 20 76 (0, ri_ent [(0, (-2147483648), 0), (0, 2, 2147483647)] 0, [], hX, 0, 0)) = true := by decide +kernel
theorem bM_power_2 : ri_chkR (0, (-1), (-1)) (ri_run ([], []) rD mt (999, 0) 32 20 138 (0, ri_ent [(0, (-2147483648), 0), (0, 2, 2147483647)] 5, [], hM, 0, 0)) = true := by decide +kernel
theorem bX_power_3 : ri_chkR (0, (-1), (-1)) (ri_run ([], []) rD mt (999, 0) 36 20 76 (0, ri_ent [(0, 1, 300), (0, (-2147483648), (-1))] 0, [], hX, 0, 0)) = true := by decide +kernel
theorem bM_power_3 : ri_chkR (0, (-1), (-1)) (ri_run ([], []) rD mt (999, 0) 46 20 138 (0, ri_ent [(0, 1, 300), (0, (-2147483648), (-1))] 5, [], hM, 0, 0)) = true := by decide +kernel
theorem bX_power_5 : ri_chkR (0, (-1), (-1)) (ri_run ([], []) rD mt (999, 0) 39 20 76 (0, ri_ent [(0, 1, 300), (0, 2, 2147483647)] 0, [], hX, 0, 0)) = true := by decide +kernel
theorem bM_power_5 : ri_chkR (0, (-1), (-1)) (ri_run ([], []) rD mt (999, 0) 49 20 138 (0, ri_ent [(0, 1, 300), (0, 2, 2147483647)] 5, [], hM, 0, 0)) = true := by decide +kernel
theorem bX_power_6 : ri_chkR (0, (-1), (-1)) (ri_run ([], []) rD mt (999, 0) 33 20 76 (0, ri_ent [(0, 301, 2147483647), (0, (-2147483648), (-1))] 0, [], hX, 0, 0)) = true := by decide +kernel
theorem bM_power_6 : ri_chkR (0, (-1), (-1)) (ri_run ([], []) rD mt (999, 0) 35 20 138 (0, ri_ent [(0, 301, 2147483647), (0, (-2147483648), (-1))] 5, [], hM, 0, 0)) = true := by decide +kernel
theorem bX_power_7 : ri_chkR (0, (-1), (-1)) (ri_run ([], []) rD mt (999, 0) 33 20 76 (0, ri_ent [(0, 301, 2147483647), (0, 0, 1)] 0, [], hX, 0, 0)) = true := by decide +kernel
theorem bM_power_7 : ri_chkR (0, (-1), (-1)) (ri_run ([], []) rD mt (999, 0) 35 20 138 (0, ri_ent [(0, 301, 2147483647), (0, 0, 1)] 5, [], hM, 0, 0)) = true := by decide +kernel
theorem bX_power_8 : ri_chkR (0, (-1), (-1)) (ri_run ([], []) rD mt (999, 0) 33 20 76 (0, ri_ent [(0, 301, 2147483647), (0, 2, 2147483647)] 0, [], hX, 0, 0)) = true := by decide +kernel
theorem bM_power_8 : ri_chkR (0, (-1), (-1)) (ri_run ([], []) rD mt (999, 0) 35 20 138 (0, ri_ent [(0, 301, 2147483647), (0, 2, 2147483647)] 5, [], hM, 0, 0)) = true := by decide +kernel
theorem ag_power (a1 : Int32) (a2 : Int32) : ri_agree 76 138 [a1, a2] := by
  have b1 := ri_i32 a1
  unfold ri_lo ri_hi at b1
  have b2 := ri_i32 a2
  unfold ri_lo ri_hi at b2
  rcases (show ((-2147483648) ≤ a1.toInt ∧ a1.toInt ≤ 0 ∧ (-2147483648) ≤ a2.toInt ∧ a2.toInt ≤ (-1)) ∨ ((-2147483648) ≤ a1.toInt ∧ a1.toInt ≤ 0 ∧ 0 ≤ a2.toInt ∧ a2.toInt ≤ 1) ∨ ((-2147483648) ≤ a1.toInt ∧ a1.toInt ≤ 0 ∧ 2 ≤ a2.toInt ∧ a2.toInt ≤ 2147483647) ∨ (1 ≤ a1.toInt ∧ a1.toInt ≤ 300 ∧ (-2147483648) ≤ a2.toInt ∧ a2.toInt ≤ (-1)) ∨ (1 ≤ a1.toInt ∧ a1.toInt ≤ 300 ∧ 0 ≤ a2.toInt ∧ a2.toInt ≤ 1) ∨ (1 ≤ a1.toInt ∧ a1.toInt ≤ 300 ∧ 2 ≤ a2.toInt ∧ a2.toInt ≤ 2147483647) ∨ (301 ≤ a1.toInt ∧ a1.toInt ≤ 2147483647 ∧ (-2147483648) ≤ a2.toInt ∧ a2.toInt ≤ (-1)) ∨ (301 ≤ a1.toInt ∧ a1.toInt ≤ 2147483647 ∧ 0 ≤ a2.toInt ∧ a2.toInt ≤ 1) ∨ (301 ≤ a1.toInt ∧ a1.toInt ≤ 2147483647 ∧ 2 ≤ a2.toInt ∧ a2.toInt ≤ 2147483647) by omega) with h | h | h | h | h | h | h | h | h
  · exact ri_agree_of (xs := [(0, (-2147483648), 0), (0, (-2147483648), (-1))]) (c := (-1)) (z := (-1)) ⟨ri_gI_0.mpr (by omega), ⟨ri_gI_0.mpr (by omega), trivial⟩⟩ (by decide +kernel) bX_power_0 bM_power_0 (fun q hq => by rw [mT_76] at hq; cases hq; exact Nat.le_of_ble_eq_true rfl) (fun q hq => by rw [mT_138] at hq; cases hq; exact Nat.le_of_ble_eq_true rfl)
  · exact ri_agree_of (xs := [(0, (-2147483648), 0), (0, 0, 1)]) (c := (-1)) (z := (-1)) ⟨ri_gI_0.mpr (by omega), ⟨ri_gI_0.mpr (by omega), trivial⟩⟩ (by decide +kernel) bX_power_1 bM_power_1 (fun q hq => by rw [mT_76] at hq; cases hq; exact Nat.le_of_ble_eq_true rfl) (fun q hq => by rw [mT_138] at hq; cases hq; exact Nat.le_of_ble_eq_true rfl)
  · exact ri_agree_of (xs := [(0, (-2147483648), 0), (0, 2, 2147483647)]) (c := (-1)) (z := (-1)) ⟨ri_gI_0.mpr (by omega), ⟨ri_gI_0.mpr (by omega), trivial⟩⟩ (by decide +kernel) bX_power_2 bM_power_2 (fun q hq => by rw [mT_76] at hq; cases hq; exact Nat.le_of_ble_eq_true rfl) (fun q hq => by rw [mT_138] at hq; cases hq; exact Nat.le_of_ble_eq_true rfl)
  · exact ri_agree_of (xs := [(0, 1, 300), (0, (-2147483648), (-1))]) (c := (-1)) (z := (-1)) ⟨ri_gI_0.mpr (by omega), ⟨ri_gI_0.mpr (by omega), trivial⟩⟩ (by decide +kernel) bX_power_3 bM_power_3 (fun q hq => by rw [mT_76] at hq; cases hq; exact Nat.le_of_ble_eq_true rfl) (fun q hq => by rw [mT_138] at hq; cases hq; exact Nat.le_of_ble_eq_true rfl)
  · exact ⟨0, ri_con_of (xs := [(0, 1, 300), (0, 0, 1)]) (τ := fun _ => 0) (ri_okE0 _) ⟨ri_gI_0.mpr (by omega), ri_gI_0.mpr (by omega), trivial⟩ (ri_zz (by decide +kernel)) bX_power_4 (fun q hq => by rw [mT_76] at hq; cases hq; exact Nat.le_of_ble_eq_true rfl), lc_M_power a1 a2 ⟨by omega, by omega⟩ ⟨by omega, by omega⟩⟩
  · exact ri_agree_of (xs := [(0, 1, 300), (0, 2, 2147483647)]) (c := (-1)) (z := (-1)) ⟨ri_gI_0.mpr (by omega), ⟨ri_gI_0.mpr (by omega), trivial⟩⟩ (by decide +kernel) bX_power_5 bM_power_5 (fun q hq => by rw [mT_76] at hq; cases hq; exact Nat.le_of_ble_eq_true rfl) (fun q hq => by rw [mT_138] at hq; cases hq; exact Nat.le_of_ble_eq_true rfl)
  · exact ri_agree_of (xs := [(0, 301, 2147483647), (0, (-2147483648), (-1))]) (c := (-1)) (z := (-1)) ⟨ri_gI_0.mpr (by omega), ⟨ri_gI_0.mpr (by omega), trivial⟩⟩ (by decide +kernel) bX_power_6 bM_power_6 (fun q hq => by rw [mT_76] at hq; cases hq; exact Nat.le_of_ble_eq_true rfl) (fun q hq => by rw [mT_138] at hq; cases hq; exact Nat.le_of_ble_eq_true rfl)
  · exact ri_agree_of (xs := [(0, 301, 2147483647), (0, 0, 1)]) (c := (-1)) (z := (-1)) ⟨ri_gI_0.mpr (by omega), ⟨ri_gI_0.mpr (by omega), trivial⟩⟩ (by decide +kernel) bX_power_7 bM_power_7 (fun q hq => by rw [mT_76] at hq; cases hq; exact Nat.le_of_ble_eq_true rfl) (fun q hq => by rw [mT_138] at hq; cases hq; exact Nat.le_of_ble_eq_true rfl)
  · exact ri_agree_of (xs := [(0, 301, 2147483647), (0, 2, 2147483647)]) (c := (-1)) (z := (-1)) ⟨ri_gI_0.mpr (by omega), ⟨ri_gI_0.mpr (by omega), trivial⟩⟩ (by decide +kernel) bX_power_8 bM_power_8 (fun q hq => by rw [mT_76] at hq; cases hq; exact Nat.le_of_ble_eq_true rfl) (fun q hq => by rw [mT_138] at hq; cases hq; exact Nat.le_of_ble_eq_true rfl)
