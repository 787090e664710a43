theorem ri_gI_self (a : Int32) : ri_gI (fun _ => a.toInt) (1, 0, 0) a := by
  show a.toInt + 0 ≤ a.toInt ∧ a.toInt ≤ a.toInt + 0
  omega
theorem ri_self {a w : Int32} (h : ri_gI (fun _ => a.toInt) (1, 0, 0) w) : w = a := by
  have h : a.toInt + 0 ≤ w.toInt ∧ w.toInt ≤ a.toInt + 0 := h
  exact Int32.toInt_inj.mp (by omega)
theorem ri_okE1 {a : Int32} {lo hi : Int} (h1 : lo ≤ a.toInt) (h2 : a.toInt ≤ hi) : ri_okE ([(lo, hi)], []) (fun _ => a.toInt) := ⟨fun k b h => by
  cases k with
  | zero =>
    cases h
    exact ⟨h1, h2⟩
  | succ k => simp at h, fun q hq => by cases hq⟩

theorem bX_end_0 : ri_chkR (0, (-1), (-1)) (ri_run ([], []) rD mt (999, 0) 24 20 61 (0, ri_ent [(0, (-2147483648), (-1))] 0, [], hX, 0, 0)) = true := by decide +kernel
theorem bM_end_0 : ri_chkR (0, (-1), (-1)) (ri_run ([], []) rD mt (999, 0) 24 20 109 (0, ri_ent [(0, (-2147483648), (-1))] 0, [], hM, 0, 0)) = true := by decide +kernel
theorem bX_end_1 : ri_chkR (0, 0, 0) (ri_run ([], []) rD mt (999, 0) 31 20 61 (0, ri_ent [(0, 0, 0)] 0, [], hX, 0, 0)) = true := by decide +kernel
theorem bM_end_1 : ri_chkR (0, 0, 0) (ri_run ([], []) rD mt (999, 0) 31 20 109 (0, ri_ent [(0, 0, 0)] 0, [], hM, 0, 0)) = true := by decide +kernel
theorem bX_end_2 : ri_chkR (0, (-1), (-1)) (ri_run ([], []) rD mt (999, 0) 28 20 61 (0, ri_ent [(0, 1, 2147483647)] 0, [], hX, 0, 0)) = true := by decide +kernel
theorem bM_end_2 : ri_chkR (0, (-1), (-1)) (ri_run ([], []) rD mt (999, 0) 28 20 109 (0, ri_ent [(0, 1, 2147483647)] 0, [], hM, 0, 0)) = true := by decide +kernel
theorem ag_end (a1 : Int32) : ri_agree 61 109 [a1] := by
  have b1 := ri_i32 a1
  unfold ri_lo ri_hi at b1
  rcases (show ((-2147483648) ≤ a1.toInt ∧ a1.toInt ≤ (-1)) ∨ (0 ≤ a1.toInt ∧ a1.toInt ≤ 0) ∨ (1 ≤ a1.toInt ∧ a1.toInt ≤ 2147483647) by omega) with h | h | h
  · exact ri_agree_of (xs := [(0, (-2147483648), (-1))]) (c := (-1)) (z := (-1)) ⟨ri_gI_0.mpr (by omega), trivial⟩ (by decide +kernel) bX_end_0 bM_end_0 (fun q hq => by rw [mT_61] at hq; cases hq; exact Nat.le_of_ble_eq_true rfl) (fun q hq => by rw [mT_109] at hq; cases hq; exact Nat.le_of_ble_eq_true rfl)
  · exact ri_agree_of (xs := [(0, 0, 0)]) (c := 0) (z := 0) ⟨ri_gI_0.mpr (by omega), trivial⟩ (by decide +kernel) bX_end_1 bM_end_1 (fun q hq => by rw [mT_61] at hq; cases hq; exact Nat.le_of_ble_eq_true rfl) (fun q hq => by rw [mT_109] at hq; cases hq; exact Nat.le_of_ble_eq_true rfl)
  · exact ri_agree_of (xs := [(0, 1, 2147483647)]) (c := (-1)) (z := (-1)) ⟨ri_gI_0.mpr (by omega), trivial⟩ (by decide +kernel) bX_end_2 bM_end_2 (fun q hq => by rw [mT_61] at hq; cases hq; exact Nat.le_of_ble_eq_true rfl) (fun q hq => by rw [mT_109] at hq; cases hq; exact Nat.le_of_ble_eq_true rfl)
theorem bX_fault_0 : ri_chkR (0, (-1), (-1)) (ri_run ([], []) rD mt (999, 0) 27 20 63 (0, ri_ent [(0, (-2147483648), (-1))] 0, [], hX, 0, 0)) = true := by decide +kernel
theorem bM_fault_0 : ri_chkR (0, (-1), (-1)) (ri_run ([], []) rD mt (999, 0) 27 20 111 (0, ri_ent [(0, (-2147483648), (-1))] 0, [], hM, 0, 0)) = true := by decide +kernel
theorem bX_fault_1 : ri_chkR (0, 0, 0) (ri_run ([], []) rD mt (999, 0) 26 20 63 (0, ri_ent [(0, 0, 0)] 0, [], hX, 0, 0)) = true := by decide +kernel
theorem bM_fault_1 : ri_chkR (0, 0, 0) (ri_run ([], []) rD mt (999, 0) 26 20 111 (0, ri_ent [(0, 0, 0)] 0, [], hM, 0, 0)) = true := by decide +kernel
theorem bX_fault_2 : ri_chkR (0, (-1), (-1)) (ri_run ([], []) rD mt (999, 0) 30 20 63 (0, ri_ent [(0, 1, 1)] 0, [], hX, 0, 0)) = true := by decide +kernel
theorem bM_fault_2 : ri_chkR (0, (-1), (-1)) (ri_run ([], []) rD mt (999, 0) 29 20 111 (0, ri_ent [(0, 1, 1)] 0, [], hM, 0, 0)) = true := by decide +kernel
theorem bX_fault_3 : ri_chkR (0, (-1), (-1)) (ri_run ([], []) rD mt (999, 0) 27 20 63 (0, ri_ent [(0, 2, 2147483647)] 0, [], hX, 0, 0)) = true := by decide +kernel
theorem bM_fault_3 : ri_chkR (0, (-1), (-1)) (ri_run ([], []) rD mt (999, 0) 27 20 111 (0, ri_ent [(0, 2, 2147483647)] 0, [], hM, 0, 0)) = true := by decide +kernel
theorem ag_fault (a1 : Int32) : ri_agree 63 111 [a1] := by
  have b1 := ri_i32 a1
  unfold ri_lo ri_hi at b1
  rcases (show ((-2147483648) ≤ a1.toInt ∧ a1.toInt ≤ (-1)) ∨ (0 ≤ a1.toInt ∧ a1.toInt ≤ 0) ∨ (1 ≤ a1.toInt ∧ a1.toInt ≤ 1) ∨ (2 ≤ a1.toInt ∧ a1.toInt ≤ 2147483647) by omega) with h | h | h | h
  · exact ri_agree_of (xs := [(0, (-2147483648), (-1))]) (c := (-1)) (z := (-1)) ⟨ri_gI_0.mpr (by omega), trivial⟩ (by decide +kernel) bX_fault_0 bM_fault_0 (fun q hq => by rw [mT_63] at hq; cases hq; exact Nat.le_of_ble_eq_true rfl) (fun q hq => by rw [mT_111] at hq; cases hq; exact Nat.le_of_ble_eq_true rfl)
  · exact ri_agree_of (xs := [(0, 0, 0)]) (c := 0) (z := 0) ⟨ri_gI_0.mpr (by omega), trivial⟩ (by decide +kernel) bX_fault_1 bM_fault_1 (fun q hq => by rw [mT_63] at hq; cases hq; exact Nat.le_of_ble_eq_true rfl) (fun q hq => by rw [mT_111] at hq; cases hq; exact Nat.le_of_ble_eq_true rfl)
  · exact ri_agree_of (xs := [(0, 1, 1)]) (c := (-1)) (z := (-1)) ⟨ri_gI_0.mpr (by omega), trivial⟩ (by decide +kernel) bX_fault_2 bM_fault_2 (fun q hq => by rw [mT_63] at hq; cases hq; exact Nat.le_of_ble_eq_true rfl) (fun q hq => by rw [mT_111] at hq; cases hq; exact Nat.le_of_ble_eq_true rfl)
  · exact ri_agree_of (xs := [(0, 2, 2147483647)]) (c := (-1)) (z := (-1)) ⟨ri_gI_0.mpr (by omega), trivial⟩ (by decide +kernel) bX_fault_3 bM_fault_3 (fun q hq => by rw [mT_63] at hq; cases hq; exact Nat.le_of_ble_eq_true rfl) (fun q hq => by rw [mT_111] at hq; cases hq; exact Nat.le_of_ble_eq_true rfl)
theorem bX_car_0 : ri_chkR (0, (-1), (-1)) (ri_run ([], []) rD mt (999, 0) 31 20 56 (0, ri_ent [(0, (-2147483648), (-1)), (0, (-2147483648), 2147483647)] 1, [], hX, 0, 0)) = true := by decide +kernel
theorem bM_car_0 : ri_chkR (0, (-1), (-1)) (ri_run ([], []) rD mt (999, 0) 45 20 99 (0, ri_ent [(0, (-2147483648), (-1)), (0, (-2147483648), 2147483647)] 0, [], hM, 0, 0)) = true := by decide +kernel
theorem bX_car_1 : ri_chkR (0, (-1), (-1)) (ri_run ([], []) rD mt (999, 0) 35 20 56 (0, ri_ent [(0, 0, 2147483647), (0, (-2147483648), 2147483647)] 1, [], hX, 0, 0)) = true := by decide +kernel
theorem bM_car_1 : ri_chkR (0, (-1), (-1)) (ri_run ([], []) rD mt (999, 0) 48 20 99 (0, ri_ent [(0, 0, 2147483647), (0, (-2147483648), 2147483647)] 0, [], hM, 0, 0)) = true := by decide +kernel
theorem ag_car (a1 : Int32) (a2 : Int32) : ri_agree 56 99 [a1, a2] := by
  have b1 := ri_i32 a1
  unfold ri_lo ri_hi at b1
  have b2 := ri_i32 a2
  unfold ri_lo ri_hi at b2
  rcases (show ((-2147483648) ≤ a1.toInt ∧ a1.toInt ≤ (-1) ∧ (-2147483648) ≤ a2.toInt ∧ a2.toInt ≤ 2147483647) ∨ (0 ≤ a1.toInt ∧ a1.toInt ≤ 2147483647 ∧ (-2147483648) ≤ a2.toInt ∧ a2.toInt ≤ 2147483647) by omega) with h | h
  · exact ri_agree_of (xs := [(0, (-2147483648), (-1)), (0, (-2147483648), 2147483647)]) (c := (-1)) (z := (-1)) ⟨ri_gI_0.mpr (by omega), ⟨ri_gI_0.mpr (by omega), trivial⟩⟩ (by decide +kernel) bX_car_0 bM_car_0 (fun q hq => by rw [mT_56] at hq; cases hq; exact Nat.le_of_ble_eq_true rfl) (fun q hq => by rw [mT_99] at hq; cases hq; exact Nat.le_of_ble_eq_true rfl)
  · exact ri_agree_of (xs := [(0, 0, 2147483647), (0, (-2147483648), 2147483647)]) (c := (-1)) (z := (-1)) ⟨ri_gI_0.mpr (by omega), ⟨ri_gI_0.mpr (by omega), trivial⟩⟩ (by decide +kernel) bX_car_1 bM_car_1 (fun q hq => by rw [mT_56] at hq; cases hq; exact Nat.le_of_ble_eq_true rfl) (fun q hq => by rw [mT_99] at hq; cases hq; exact Nat.le_of_ble_eq_true rfl)
theorem bX_speed_0 : ri_chkR (0, (-1000), (-1000)) (ri_run ([], []) rD mt (999, 0) 31 20 82 (0, ri_ent [(0, (-2147483648), (-1))] 0, [], hX, 0, 0)) = true := by decide +kernel
theorem bM_speed_0 : ri_chkR (0, (-1000), (-1000)) (ri_run ([], []) rD mt (999, 0) 45 20 146 (0, ri_ent [(0, (-2147483648), (-1))] 0, [], hM, 0, 0)) = true := by decide +kernel
theorem bX_speed_1 : ri_chkR (0, (-1000), (-1000)) (ri_run ([], []) rD mt (999, 0) 35 20 82 (0, ri_ent [(0, 0, 2147483647)] 0, [], hX, 0, 0)) = true := by decide +kernel
theorem bM_speed_1 : ri_chkR (0, (-1000), (-1000)) (ri_run ([], []) rD mt (999, 0) 48 20 146 (0, ri_ent [(0, 0, 2147483647)] 0, [], hM, 0, 0)) = true := by decide +kernel
theorem ag_speed (a1 : Int32) : ri_agree 82 146 [a1] := by
  have b1 := ri_i32 a1
  unfold ri_lo ri_hi at b1
  rcases (show ((-2147483648) ≤ a1.toInt ∧ a1.toInt ≤ (-1)) ∨ (0 ≤ a1.toInt ∧ a1.toInt ≤ 2147483647) by omega) with h | h
  · exact ri_agree_of (xs := [(0, (-2147483648), (-1))]) (c := (-1000)) (z := (-1000)) ⟨ri_gI_0.mpr (by omega), trivial⟩ (by decide +kernel) bX_speed_0 bM_speed_0 (fun q hq => by rw [mT_82] at hq; cases hq; exact Nat.le_of_ble_eq_true rfl) (fun q hq => by rw [mT_146] at hq; cases hq; exact Nat.le_of_ble_eq_true rfl)
  · exact ri_agree_of (xs := [(0, 0, 2147483647)]) (c := (-1000)) (z := (-1000)) ⟨ri_gI_0.mpr (by omega), trivial⟩ (by decide +kernel) bX_speed_1 bM_speed_1 (fun q hq => by rw [mT_82] at hq; cases hq; exact Nat.le_of_ble_eq_true rfl) (fun q hq => by rw [mT_146] at hq; cases hq; exact Nat.le_of_ble_eq_true rfl)
theorem bX_rope_0 : ri_chkR (0, (-1), (-1)) (ri_run ([], []) rD mt (999, 0) 31 20 79 (0, ri_ent [(0, (-2147483648), (-1)), (0, (-2147483648), 2147483647)] 0, [], hX, 0, 0)) = true := by decide +kernel
theorem bM_rope_0 : ri_chkR (0, (-1), (-1)) (ri_run ([], []) rD mt (999, 0) 42 20 140 (0, ri_ent [(0, (-2147483648), (-1)), (0, (-2147483648), 2147483647)] 0, [], hM, 0, 0)) = true := by decide +kernel
theorem bX_rope_1 : ri_chkR (0, (-1), (-1)) (ri_run ([], []) rD mt (999, 0) 35 20 79 (0, ri_ent [(0, 0, 2147483647), (0, (-2147483648), 2147483647)] 0, [], hX, 0, 0)) = true := by decide +kernel
theorem bM_rope_1 : ri_chkR (0, (-1), (-1)) (ri_run ([], []) rD mt (999, 0) 45 20 140 (0, ri_ent [(0, 0, 2147483647), (0, (-2147483648), 2147483647)] 0, [], hM, 0, 0)) = true := by decide +kernel
theorem ag_rope (a1 : Int32) (a2 : Int32) : ri_agree 79 140 [a1, a2] := by
  have b1 := ri_i32 a1
  unfold ri_lo ri_hi at b1
  have b2 := ri_i32 a2
  unfold ri_lo ri_hi at b2
  rcases (show ((-2147483648) ≤ a1.toInt ∧ a1.toInt ≤ (-1) ∧ (-2147483648) ≤ a2.toInt ∧ a2.toInt ≤ 2147483647) ∨ (0 ≤ a1.toInt ∧ a1.toInt ≤ 2147483647 ∧ (-2147483648) ≤ a2.toInt ∧ a2.toInt ≤ 2147483647) by omega) with h | h
  · exact ri_agree_of (xs := [(0, (-2147483648), (-1)), (0, (-2147483648), 2147483647)]) (c := (-1)) (z := (-1)) ⟨ri_gI_0.mpr (by omega), ⟨ri_gI_0.mpr (by omega), trivial⟩⟩ (by decide +kernel) bX_rope_0 bM_rope_0 (fun q hq => by rw [mT_79] at hq; cases hq; exact Nat.le_of_ble_eq_true rfl) (fun q hq => by rw [mT_140] at hq; cases hq; exact Nat.le_of_ble_eq_true rfl)
  · exact ri_agree_of (xs := [(0, 0, 2147483647), (0, (-2147483648), 2147483647)]) (c := (-1)) (z := (-1)) ⟨ri_gI_0.mpr (by omega), ⟨ri_gI_0.mpr (by omega), trivial⟩⟩ (by decide +kernel) bX_rope_1 bM_rope_1 (fun q hq => by rw [mT_79] at hq; cases hq; exact Nat.le_of_ble_eq_true rfl) (fun q hq => by rw [mT_140] at hq; cases hq; exact Nat.le_of_ble_eq_true rfl)
theorem bX_count_0 : ri_chkR (0, (-1), (-1)) (ri_run ([], []) rD mt (999, 0) 24 20 59 (0, ri_ent [(0, (-2147483648), (-1))] 0, [], hX, 0, 0)) = true := by decide +kernel
theorem bM_count_0 : ri_chkR (0, (-1), (-1)) (ri_run ([], []) rD mt (999, 0) 24 20 106 (0, ri_ent [(0, (-2147483648), (-1))] 0, [], hM, 0, 0)) = true := by decide +kernel
theorem bX_count_1 : ri_chkR (0, 0, 0) (ri_run ([], []) rD mt (999, 0) 33 20 59 (0, ri_ent [(0, 0, 0)] 0, [], hX, 0, 0)) = true := by decide +kernel
theorem bM_count_1 : ri_chkR (0, 0, 0) (ri_run ([], []) rD mt (999, 0) 25 20 106 (0, ri_ent [(0, 0, 0)] 0, [], hM, 0, 0)) = true := by decide +kernel
theorem bX_count_2 : ri_chkR (0, 0, 0) (ri_run ([], []) rD mt (999, 0) 33 20 59 (0, ri_ent [(0, 1, 1)] 0, [], hX, 0, 0)) = true := by decide +kernel
theorem bM_count_2 : ri_chkR (0, 0, 0) (ri_run ([], []) rD mt (999, 0) 25 20 106 (0, ri_ent [(0, 1, 1)] 0, [], hM, 0, 0)) = true := by decide +kernel
theorem bX_count_3 : ri_chkR (0, 0, 0) (ri_run ([], []) rD mt (999, 0) 33 20 59 (0, ri_ent [(0, 2, 2)] 0, [], hX, 0, 0)) = true := by decide +kernel
theorem bM_count_3 : ri_chkR (0, 0, 0) (ri_run ([], []) rD mt (999, 0) 25 20 106 (0, ri_ent [(0, 2, 2)] 0, [], hM, 0, 0)) = true := by decide +kernel
theorem bX_count_4 : ri_chkR (0, 0, 0) (ri_run ([], []) rD mt (999, 0) 33 20 59 (0, ri_ent [(0, 3, 3)] 0, [], hX, 0, 0)) = true := by decide +kernel
theorem bM_count_4 : ri_chkR (0, 0, 0) (ri_run ([], []) rD mt (999, 0) 25 20 106 (0, ri_ent [(0, 3, 3)] 0, [], hM, 0, 0)) = true := by decide +kernel
theorem bX_count_5 : ri_chkR (0, 0, 0) (ri_run ([], []) rD mt (999, 0) 33 20 59 (0, ri_ent [(0, 4, 4)] 0, [], hX, 0, 0)) = true := by decide +kernel
theorem bM_count_5 : ri_chkR (0, 0, 0) (ri_run ([], []) rD mt (999, 0) 25 20 106 (0, ri_ent [(0, 4, 4)] 0, [], hM, 0, 0)) = true := by decide +kernel
theorem bX_count_6 : ri_chkR (0, 0, 0) (ri_run ([], []) rD mt (999, 0) 33 20 59 (0, ri_ent [(0, 5, 5)] 0, [], hX, 0, 0)) = true := by decide +kernel
theorem bM_count_6 : ri_chkR (0, 0, 0) (ri_run ([], []) rD mt (999, 0) 25 20 106 (0, ri_ent [(0, 5, 5)] 0, [], hM, 0, 0)) = true := by decide +kernel
theorem bX_count_7 : ri_chkR (0, 0, 0) (ri_run ([], []) rD mt (999, 0) 33 20 59 (0, ri_ent [(0, 6, 6)] 0, [], hX, 0, 0)) = true := by decide +kernel
theorem bM_count_7 : ri_chkR (0, 0, 0) (ri_run ([], []) rD mt (999, 0) 25 20 106 (0, ri_ent [(0, 6, 6)] 0, [], hM, 0, 0)) = true := by decide +kernel
theorem bX_count_8 : ri_chkR (0, 0, 0) (ri_run ([], []) rD mt (999, 0) 33 20 59 (0, ri_ent [(0, 7, 7)] 0, [], hX, 0, 0)) = true := by decide +kernel
theorem bM_count_8 : ri_chkR (0, 0, 0) (ri_run ([], []) rD mt (999, 0) 25 20 106 (0, ri_ent [(0, 7, 7)] 0, [], hM, 0, 0)) = true := by decide +kernel
theorem bX_count_9 : ri_chkR (0, (-1), (-1)) (ri_run ([], []) rD mt (999, 0) 27 20 59 (0, ri_ent [(0, 8, 2147483647)] 0, [], hX, 0, 0)) = true := by decide +kernel
theorem bM_count_9 : ri_chkR (0, (-1), (-1)) (ri_run ([], []) rD mt (999, 0) 24 20 106 (0, ri_ent [(0, 8, 2147483647)] 0, [], hM, 0, 0)) = true := by decide +kernel
theorem ag_count (a1 : Int32) : ri_agree 59 106 [a1] := by
  have b1 := ri_i32 a1
  unfold ri_lo ri_hi at b1
  rcases (show ((-2147483648) ≤ a1.toInt ∧ a1.toInt ≤ (-1)) ∨ (0 ≤ a1.toInt ∧ a1.toInt ≤ 0) ∨ (1 ≤ a1.toInt ∧ a1.toInt ≤ 1) ∨ (2 ≤ a1.toInt ∧ a1.toInt ≤ 2) ∨ (3 ≤ a1.toInt ∧ a1.toInt ≤ 3) ∨ (4 ≤ a1.toInt ∧ a1.toInt ≤ 4) ∨ (5 ≤ a1.toInt ∧ a1.toInt ≤ 5) ∨ (6 ≤ a1.toInt ∧ a1.toInt ≤ 6) ∨ (7 ≤ a1.toInt ∧ a1.toInt ≤ 7) ∨ (8 ≤ a1.toInt ∧ a1.toInt ≤ 2147483647) by omega) with h | h | h | h | h | h | h | h | h | h
  · exact ri_agree_of (xs := [(0, (-2147483648), (-1))]) (c := (-1)) (z := (-1)) ⟨ri_gI_0.mpr (by omega), trivial⟩ (by decide +kernel) bX_count_0 bM_count_0 (fun q hq => by rw [mT_59] at hq; cases hq; exact Nat.le_of_ble_eq_true rfl) (fun q hq => by rw [mT_106] at hq; cases hq; exact Nat.le_of_ble_eq_true rfl)
  · exact ri_agree_of (xs := [(0, 0, 0)]) (c := 0) (z := 0) ⟨ri_gI_0.mpr (by omega), trivial⟩ (by decide +kernel) bX_count_1 bM_count_1 (fun q hq => by rw [mT_59] at hq; cases hq; exact Nat.le_of_ble_eq_true rfl) (fun q hq => by rw [mT_106] at hq; cases hq; exact Nat.le_of_ble_eq_true rfl)
  · exact ri_agree_of (xs := [(0, 1, 1)]) (c := 0) (z := 0) ⟨ri_gI_0.mpr (by omega), trivial⟩ (by decide +kernel) bX_count_2 bM_count_2 (fun q hq => by rw [mT_59] at hq; cases hq; exact Nat.le_of_ble_eq_true rfl) (fun q hq => by rw [mT_106] at hq; cases hq; exact Nat.le_of_ble_eq_true rfl)
  · exact ri_agree_of (xs := [(0, 2, 2)]) (c := 0) (z := 0) ⟨ri_gI_0.mpr (by omega), trivial⟩ (by decide +kernel) bX_count_3 bM_count_3 (fun q hq => by rw [mT_59] at hq; cases hq; exact Nat.le_of_ble_eq_true rfl) (fun q hq => by rw [mT_106] at hq; cases hq; exact Nat.le_of_ble_eq_true rfl)
  · exact ri_agree_of (xs := [(0, 3, 3)]) (c := 0) (z := 0) ⟨ri_gI_0.mpr (by omega), trivial⟩ (by decide +kernel) bX_count_4 bM_count_4 (fun q hq => by rw [mT_59] at hq; cases hq; exact Nat.le_of_ble_eq_true rfl) (fun q hq => by rw [mT_106] at hq; cases hq; exact Nat.le_of_ble_eq_true rfl)
  · exact ri_agree_of (xs := [(0, 4, 4)]) (c := 0) (z := 0) ⟨ri_gI_0.mpr (by omega), trivial⟩ (by decide +kernel) bX_count_5 bM_count_5 (fun q hq => by rw [mT_59] at hq; cases hq; exact Nat.le_of_ble_eq_true rfl) (fun q hq => by rw [mT_106] at hq; cases hq; exact Nat.le_of_ble_eq_true rfl)
  · exact ri_agree_of (xs := [(0, 5, 5)]) (c := 0) (z := 0) ⟨ri_gI_0.mpr (by omega), trivial⟩ (by decide +kernel) bX_count_6 bM_count_6 (fun q hq => by rw [mT_59] at hq; cases hq; exact Nat.le_of_ble_eq_true rfl) (fun q hq => by rw [mT_106] at hq; cases hq; exact Nat.le_of_ble_eq_true rfl)
  · exact ri_agree_of (xs := [(0, 6, 6)]) (c := 0) (z := 0) ⟨ri_gI_0.mpr (by omega), trivial⟩ (by decide +kernel) bX_count_7 bM_count_7 (fun q hq => by rw [mT_59] at hq; cases hq; exact Nat.le_of_ble_eq_true rfl) (fun q hq => by rw [mT_106] at hq; cases hq; exact Nat.le_of_ble_eq_true rfl)
  · exact ri_agree_of (xs := [(0, 7, 7)]) (c := 0) (z := 0) ⟨ri_gI_0.mpr (by omega), trivial⟩ (by decide +kernel) bX_count_8 bM_count_8 (fun q hq => by rw [mT_59] at hq; cases hq; exact Nat.le_of_ble_eq_true rfl) (fun q hq => by rw [mT_106] at hq; cases hq; exact Nat.le_of_ble_eq_true rfl)
  · exact ri_agree_of (xs := [(0, 8, 2147483647)]) (c := (-1)) (z := (-1)) ⟨ri_gI_0.mpr (by omega), trivial⟩ (by decide +kernel) bX_count_9 bM_count_9 (fun q hq => by rw [mT_59] at hq; cases hq; exact Nat.le_of_ble_eq_true rfl) (fun q hq => by rw [mT_106] at hq; cases hq; exact Nat.le_of_ble_eq_true rfl)
theorem bX_strand_0 : ri_chkR (0, 0, 0) (ri_run ([], []) rD mt (999, 0) 38 20 85 (0, ri_ent [(0, (-2147483648), (-1)), (0, (-2147483648), 2147483647)] 0, [], hX, 0, 0)) = true := by decide +kernel
theorem bM_strand_0 : ri_chkR (0, 0, 0) (ri_run ([], []) rD mt (999, 0) 49 20 149 (0, ri_ent [(0, (-2147483648), (-1)), (0, (-2147483648), 2147483647)] 0, [], hM, 0, 0)) = true := by decide +kernel
theorem bX_strand_1 : ri_chkR (0, 0, 0) (ri_run ([], []) rD mt (999, 0) 42 20 85 (0, ri_ent [(0, 0, 2147483647), (0, (-2147483648), 2147483647)] 0, [], hX, 0, 0)) = true := by decide +kernel
theorem bM_strand_1 : ri_chkR (0, 0, 0) (ri_run ([], []) rD mt (999, 0) 52 20 149 (0, ri_ent [(0, 0, 2147483647), (0, (-2147483648), 2147483647)] 0, [], hM, 0, 0)) = true := by decide +kernel
theorem ag_strand (a1 : Int32) (a2 : Int32) : ri_agree 85 149 [a1, a2] := by
  have b1 := ri_i32 a1
  unfold ri_lo ri_hi at b1
  have b2 := ri_i32 a2
  unfold ri_lo ri_hi at b2
  rcases (show ((-2147483648) ≤ a1.toInt ∧ a1.toInt ≤ (-1) ∧ (-2147483648) ≤ a2.toInt ∧ a2.toInt ≤ 2147483647) ∨ (0 ≤ a1.toInt ∧ a1.toInt ≤ 2147483647 ∧ (-2147483648) ≤ a2.toInt ∧ a2.toInt ≤ 2147483647) by omega) with h | h
  · exact ri_agree_of (xs := [(0, (-2147483648), (-1)), (0, (-2147483648), 2147483647)]) (c := 0) (z := 0) ⟨ri_gI_0.mpr (by omega), ⟨ri_gI_0.mpr (by omega), trivial⟩⟩ (by decide +kernel) bX_strand_0 bM_strand_0 (fun q hq => by rw [mT_85] at hq; cases hq; exact Nat.le_of_ble_eq_true rfl) (fun q hq => by rw [mT_149] at hq; cases hq; exact Nat.le_of_ble_eq_true rfl)
  · exact ri_agree_of (xs := [(0, 0, 2147483647), (0, (-2147483648), 2147483647)]) (c := 0) (z := 0) ⟨ri_gI_0.mpr (by omega), ⟨ri_gI_0.mpr (by omega), trivial⟩⟩ (by decide +kernel) bX_strand_1 bM_strand_1 (fun q hq => by rw [mT_85] at hq; cases hq; exact Nat.le_of_ble_eq_true rfl) (fun q hq => by rw [mT_149] at hq; cases hq; exact Nat.le_of_ble_eq_true rfl)
theorem bX_strandNow_0 : ri_chkR (0, (-1), (-1)) (ri_run ([], []) rD mt (999, 0) 27 20 86 (0, ri_ent [(0, (-2147483648), (-1))] 0, [], hX, 0, 0)) = true := by decide +kernel
theorem bM_strandNow_0 : ri_chkR (0, (-1), (-1)) (ri_run ([], []) rD mt (999, 0) 25 20 150 (0, ri_ent [(0, (-2147483648), (-1))] 0, [], hM, 0, 0)) = true := by decide +kernel
theorem bX_strandNow_1 : ri_chkR (0, (-1), (-1)) (ri_run ([], []) rD mt (999, 0) 27 20 86 (0, ri_ent [(0, 0, 2)] 0, [], hX, 0, 0)) = true := by decide +kernel
theorem bM_strandNow_1 : ri_chkR (0, (-1), (-1)) (ri_run ([], []) rD mt (999, 0) 25 20 150 (0, ri_ent [(0, 0, 2)] 0, [], hM, 0, 0)) = true := by decide +kernel
theorem bX_strandNow_2 : ri_chkR (0, (-1), (-1)) (ri_run ([], []) rD mt (999, 0) 27 20 86 (0, ri_ent [(0, 3, 2147483647)] 0, [], hX, 0, 0)) = true := by decide +kernel
theorem bM_strandNow_2 : ri_chkR (0, (-1), (-1)) (ri_run ([], []) rD mt (999, 0) 25 20 150 (0, ri_ent [(0, 3, 2147483647)] 0, [], hM, 0, 0)) = true := by decide +kernel
theorem ag_strandNow (a1 : Int32) : ri_agree 86 150 [a1] := by
  have b1 := ri_i32 a1
  unfold ri_lo ri_hi at b1
  rcases (show ((-2147483648) ≤ a1.toInt ∧ a1.toInt ≤ (-1)) ∨ (0 ≤ a1.toInt ∧ a1.toInt ≤ 2) ∨ (3 ≤ a1.toInt ∧ a1.toInt ≤ 2147483647) by omega) with h | h | h
  · exact ri_agree_of (xs := [(0, (-2147483648), (-1))]) (c := (-1)) (z := (-1)) ⟨ri_gI_0.mpr (by omega), trivial⟩ (by decide +kernel) bX_strandNow_0 bM_strandNow_0 (fun q hq => by rw [mT_86] at hq; cases hq; exact Nat.le_of_ble_eq_true rfl) (fun q hq => by rw [mT_150] at hq; cases hq; exact Nat.le_of_ble_eq_true rfl)
  · exact ri_agree_of (xs := [(0, 0, 2)]) (c := (-1)) (z := (-1)) ⟨ri_gI_0.mpr (by omega), trivial⟩ (by decide +kernel) bX_strandNow_1 bM_strandNow_1 (fun q hq => by rw [mT_86] at hq; cases hq; exact Nat.le_of_ble_eq_true rfl) (fun q hq => by rw [mT_150] at hq; cases hq; exact Nat.le_of_ble_eq_true rfl)
  · exact ri_agree_of (xs := [(0, 3, 2147483647)]) (c := (-1)) (z := (-1)) ⟨ri_gI_0.mpr (by omega), trivial⟩ (by decide +kernel) bX_strandNow_2 bM_strandNow_2 (fun q hq => by rw [mT_86] at hq; cases hq; exact Nat.le_of_ble_eq_true rfl) (fun q hq => by rw [mT_150] at hq; cases hq; exact Nat.le_of_ble_eq_true rfl)
theorem bX_free_0 : ri_chkR (0, 0, 0) (ri_run ([], []) rD mt (999, 0) 31 20 65 (0, ri_ent [(0, (-2147483648), (-1))] 0, [], hX, 0, 0)) = true := by decide +kernel
theorem bM_free_0 : ri_chkR (0, 0, 0) (ri_run ([], []) rD mt (999, 0) 45 20 114 (0, ri_ent [(0, (-2147483648), (-1))] 0, [], hM, 0, 0)) = true := by decide +kernel
theorem bX_free_1 : ri_chkR (0, 0, 0) (ri_run ([], []) rD mt (999, 0) 35 20 65 (0, ri_ent [(0, 0, 2147483647)] 0, [], hX, 0, 0)) = true := by decide +kernel
theorem bM_free_1 : ri_chkR (0, 0, 0) (ri_run ([], []) rD mt (999, 0) 48 20 114 (0, ri_ent [(0, 0, 2147483647)] 0, [], hM, 0, 0)) = true := by decide +kernel
theorem ag_free (a1 : Int32) : ri_agree 65 114 [a1] := by
  have b1 := ri_i32 a1
  unfold ri_lo ri_hi at b1
  rcases (show ((-2147483648) ≤ a1.toInt ∧ a1.toInt ≤ (-1)) ∨ (0 ≤ a1.toInt ∧ a1.toInt ≤ 2147483647) by omega) with h | h
  · exact ri_agree_of (xs := [(0, (-2147483648), (-1))]) (c := 0) (z := 0) ⟨ri_gI_0.mpr (by omega), trivial⟩ (by decide +kernel) bX_free_0 bM_free_0 (fun q hq => by rw [mT_65] at hq; cases hq; exact Nat.le_of_ble_eq_true rfl) (fun q hq => by rw [mT_114] at hq; cases hq; exact Nat.le_of_ble_eq_true rfl)
  · exact ri_agree_of (xs := [(0, 0, 2147483647)]) (c := 0) (z := 0) ⟨ri_gI_0.mpr (by omega), trivial⟩ (by decide +kernel) bX_free_1 bM_free_1 (fun q hq => by rw [mT_65] at hq; cases hq; exact Nat.le_of_ble_eq_true rfl) (fun q hq => by rw [mT_114] at hq; cases hq; exact Nat.le_of_ble_eq_true rfl)
theorem bX_splice_0 : ri_chkR (0, (-1), (-1)) (ri_run ([], []) rD mt (999, 0) 31 20 83 (0, ri_ent [(0, (-2147483648), (-1)), (0, (-2147483648), 2147483647)] 0, [], hX, 0, 0)) = true := by decide +kernel
theorem bM_splice_0 : ri_chkR (0, (-1), (-1)) (ri_run ([], []) rD mt (999, 0) 38 20 147 (0, ri_ent [(0, (-2147483648), (-1)), (0, (-2147483648), 2147483647)] 1, [], hM, 0, 0)) = true := by decide +kernel
theorem bX_splice_1 : ri_chkR (0, (-1), (-1)) (ri_run ([], []) rD mt (999, 0) 35 20 83 (0, ri_ent [(0, 0, 2147483647), (0, (-2147483648), 2147483647)] 0, [], hX, 0, 0)) = true := by decide +kernel
theorem bM_splice_1 : ri_chkR (0, (-1), (-1)) (ri_run ([], []) rD mt (999, 0) 41 20 147 (0, ri_ent [(0, 0, 2147483647), (0, (-2147483648), 2147483647)] 1, [], hM, 0, 0)) = true := by decide +kernel
theorem ag_splice (a1 : Int32) (a2 : Int32) : ri_agree 83 147 [a1, a2] := by
  have b1 := ri_i32 a1
  unfold ri_lo ri_hi at b1
  have b2 := ri_i32 a2
  unfold ri_lo ri_hi at b2
  rcases (show ((-2147483648) ≤ a1.toInt ∧ a1.toInt ≤ (-1) ∧ (-2147483648) ≤ a2.toInt ∧ a2.toInt ≤ 2147483647) ∨ (0 ≤ a1.toInt ∧ a1.toInt ≤ 2147483647 ∧ (-2147483648) ≤ a2.toInt ∧ a2.toInt ≤ 2147483647) by omega) with h | h
  · exact ri_agree_of (xs := [(0, (-2147483648), (-1)), (0, (-2147483648), 2147483647)]) (c := (-1)) (z := (-1)) ⟨ri_gI_0.mpr (by omega), ⟨ri_gI_0.mpr (by omega), trivial⟩⟩ (by decide +kernel) bX_splice_0 bM_splice_0 (fun q hq => by rw [mT_83] at hq; cases hq; exact Nat.le_of_ble_eq_true rfl) (fun q hq => by rw [mT_147] at hq; cases hq; exact Nat.le_of_ble_eq_true rfl)
  · exact ri_agree_of (xs := [(0, 0, 2147483647), (0, (-2147483648), 2147483647)]) (c := (-1)) (z := (-1)) ⟨ri_gI_0.mpr (by omega), ⟨ri_gI_0.mpr (by omega), trivial⟩⟩ (by decide +kernel) bX_splice_1 bM_splice_1 (fun q hq => by rw [mT_83] at hq; cases hq; exact Nat.le_of_ble_eq_true rfl) (fun q hq => by rw [mT_147] at hq; cases hq; exact Nat.le_of_ble_eq_true rfl)
theorem bX_cost_0 : ri_chkR (0, (-1000000), (-1000000)) (ri_run ([], []) rD mt (999, 0) 42 20 58 (0, ri_ent [(0, (-2147483648), (-1)), (0, (-2147483648), 2147483647)] 2, [], hX, 0, 0)) = true := by decide +kernel
theorem bM_cost_0 : ri_chkR (0, (-1000000), (-1000000)) (ri_run ([], []) rD mt (999, 0) 35 20 105 (0, ri_ent [(0, (-2147483648), (-1)), (0, (-2147483648), 2147483647)] 3, [], hM, 0, 0)) = true := by decide +kernel
theorem bX_cost_1 : ri_chkR (0, (-1000000), (-1000000)) (ri_run ([], []) rD mt (999, 0) 52 20 58 (0, ri_ent [(0, 0, 59), (0, (-2147483648), 2147483647)] 2, [], hX, 0, 0)) = true := by decide +kernel
theorem bM_cost_1 : ri_chkR (0, (-1000000), (-1000000)) (ri_run ([], []) rD mt (999, 0) 58 20 105 (0, ri_ent [(0, 0, 59), (0, (-2147483648), 2147483647)] 3, [], hM, 0, 0)) = true := by decide +kernel
theorem bX_cost_2 : ri_chkR (0, (-1000000), (-1000000)) (ri_run ([], []) rD mt (999, 0) 45 20 58 (0, ri_ent [(0, 60, 2147483647), (0, (-2147483648), 2147483647)] 2, [], hX, 0, 0)) = true := by decide +kernel
theorem bM_cost_2 : ri_chkR (0, (-1000000), (-1000000)) (ri_run ([], []) rD mt (999, 0) 38 20 105 (0, ri_ent [(0, 60, 2147483647), (0, (-2147483648), 2147483647)] 3, [], hM, 0, 0)) = true := by decide +kernel
theorem ag_cost (a1 : Int32) (a2 : Int32) : ri_agree 58 105 [a1, a2] := by
  have b1 := ri_i32 a1
  unfold ri_lo ri_hi at b1
  have b2 := ri_i32 a2
  unfold ri_lo ri_hi at b2
  rcases (show ((-2147483648) ≤ a1.toInt ∧ a1.toInt ≤ (-1) ∧ (-2147483648) ≤ a2.toInt ∧ a2.toInt ≤ 2147483647) ∨ (0 ≤ a1.toInt ∧ a1.toInt ≤ 59 ∧ (-2147483648) ≤ a2.toInt ∧ a2.toInt ≤ 2147483647) ∨ (60 ≤ a1.toInt ∧ a1.toInt ≤ 2147483647 ∧ (-2147483648) ≤ a2.toInt ∧ a2.toInt ≤ 2147483647) by omega) with h | h | h
  · exact ri_agree_of (xs := [(0, (-2147483648), (-1)), (0, (-2147483648), 2147483647)]) (c := (-1000000)) (z := (-1000000)) ⟨ri_gI_0.mpr (by omega), ⟨ri_gI_0.mpr (by omega), trivial⟩⟩ (by decide +kernel) bX_cost_0 bM_cost_0 (fun q hq => by rw [mT_58] at hq; cases hq; exact Nat.le_of_ble_eq_true rfl) (fun q hq => by rw [mT_105] at hq; cases hq; exact Nat.le_of_ble_eq_true rfl)
  · exact ri_agree_of (xs := [(0, 0, 59), (0, (-2147483648), 2147483647)]) (c := (-1000000)) (z := (-1000000)) ⟨ri_gI_0.mpr (by omega), ⟨ri_gI_0.mpr (by omega), trivial⟩⟩ (by decide +kernel) bX_cost_1 bM_cost_1 (fun q hq => by rw [mT_58] at hq; cases hq; exact Nat.le_of_ble_eq_true rfl) (fun q hq => by rw [mT_105] at hq; cases hq; exact Nat.le_of_ble_eq_true rfl)
  · exact ri_agree_of (xs := [(0, 60, 2147483647), (0, (-2147483648), 2147483647)]) (c := (-1000000)) (z := (-1000000)) ⟨ri_gI_0.mpr (by omega), ⟨ri_gI_0.mpr (by omega), trivial⟩⟩ (by decide +kernel) bX_cost_2 bM_cost_2 (fun q hq => by rw [mT_58] at hq; cases hq; exact Nat.le_of_ble_eq_true rfl) (fun q hq => by rw [mT_105] at hq; cases hq; exact Nat.le_of_ble_eq_true rfl)
theorem bX_halt_0 : ri_chkR (0, (-1), (-1)) (ri_run ([], []) rD mt (999, 0) 25 20 66 (0, ri_ent [(0, (-2147483648), 0)] 3, [], hX, 0, 0)) = true := by decide +kernel
theorem bM_halt_0 : ri_chkR (0, (-1), (-1)) (ri_run ([], []) rD mt (999, 0) 32 20 118 (0, ri_ent [(0, (-2147483648), 0)] 2, [], hM, 0, 0)) = true := by decide +kernel
theorem bX_halt_1 : ri_chkR (0, 0, 0) (ri_run ([], []) rD mt (999, 0) 37 20 66 (0, ri_ent [(0, 1, 99)] 3, [], hX, 0, 0)) = true := by decide +kernel
theorem bM_halt_1 : ri_chkR (0, 0, 0) (ri_run ([], []) rD mt (999, 0) 50 20 118 (0, ri_ent [(0, 1, 99)] 2, [], hM, 0, 0)) = true := by decide +kernel
theorem bX_halt_2 : ri_chkR (0, (-1), (-1)) (ri_run ([], []) rD mt (999, 0) 28 20 66 (0, ri_ent [(0, 100, 2147483647)] 3, [], hX, 0, 0)) = true := by decide +kernel
theorem bM_halt_2 : ri_chkR (0, (-1), (-1)) (ri_run ([], []) rD mt (999, 0) 35 20 118 (0, ri_ent [(0, 100, 2147483647)] 2, [], hM, 0, 0)) = true := by decide +kernel
theorem ag_halt (a1 : Int32) : ri_agree 66 118 [a1] := by
  have b1 := ri_i32 a1
  unfold ri_lo ri_hi at b1
  rcases (show ((-2147483648) ≤ a1.toInt ∧ a1.toInt ≤ 0) ∨ (1 ≤ a1.toInt ∧ a1.toInt ≤ 99) ∨ (100 ≤ a1.toInt ∧ a1.toInt ≤ 2147483647) by omega) with h | h | h
  · exact ri_agree_of (xs := [(0, (-2147483648), 0)]) (c := (-1)) (z := (-1)) ⟨ri_gI_0.mpr (by omega), trivial⟩ (by decide +kernel) bX_halt_0 bM_halt_0 (fun q hq => by rw [mT_66] at hq; cases hq; exact Nat.le_of_ble_eq_true rfl) (fun q hq => by rw [mT_118] at hq; cases hq; exact Nat.le_of_ble_eq_true rfl)
  · exact ri_agree_of (xs := [(0, 1, 99)]) (c := 0) (z := 0) ⟨ri_gI_0.mpr (by omega), trivial⟩ (by decide +kernel) bX_halt_1 bM_halt_1 (fun q hq => by rw [mT_66] at hq; cases hq; exact Nat.le_of_ble_eq_true rfl) (fun q hq => by rw [mT_118] at hq; cases hq; exact Nat.le_of_ble_eq_true rfl)
  · exact ri_agree_of (xs := [(0, 100, 2147483647)]) (c := (-1)) (z := (-1)) ⟨ri_gI_0.mpr (by omega), trivial⟩ (by decide +kernel) bX_halt_2 bM_halt_2 (fun q hq => by rw [mT_66] at hq; cases hq; exact Nat.le_of_ble_eq_true rfl) (fun q hq => by rw [mT_118] at hq; cases hq; exact Nat.le_of_ble_eq_true rfl)
theorem bX_rolls_0 : ri_chkR (0, 0, 0) (ri_run ([], []) rD mt (999, 0) 31 20 78 (0, ri_ent [] 3, [], hX, 0, 0)) = true := by decide +kernel
theorem bM_rolls_0 : ri_chkR (0, 0, 0) (ri_run ([], []) rD mt (999, 0) 36 20 139 (0, ri_ent [] 2, [], hM, 0, 0)) = true := by decide +kernel
theorem ag_rolls : ri_agree 78 139 [] := by
  exact ri_agree_of (xs := []) (c := 0) (z := 0) trivial (by decide +kernel) bX_rolls_0 bM_rolls_0 (fun q hq => by rw [mT_78] at hq; cases hq; exact Nat.le_of_ble_eq_true rfl) (fun q hq => by rw [mT_139] at hq; cases hq; exact Nat.le_of_ble_eq_true rfl)
theorem bX_trips_0 : ri_chkR (0, (-1), (-1)) (ri_run ([], []) rD mt (999, 0) 31 20 89 (0, ri_ent [(0, (-2147483648), (-1))] 0, [], hX, 0, 0)) = true := by decide +kernel
theorem bM_trips_0 : ri_chkR (0, (-1), (-1)) (ri_run ([], []) rD mt (999, 0) 45 20 154 (0, ri_ent [(0, (-2147483648), (-1))] 0, [], hM, 0, 0)) = true := by decide +kernel
theorem bX_trips_1 : ri_chkR (0, (-1), (-1)) (ri_run ([], []) rD mt (999, 0) 35 20 89 (0, ri_ent [(0, 0, 2147483647)] 0, [], hX, 0, 0)) = true := by decide +kernel
theorem bM_trips_1 : ri_chkR (0, (-1), (-1)) (ri_run ([], []) rD mt (999, 0) 48 20 154 (0, ri_ent [(0, 0, 2147483647)] 0, [], hM, 0, 0)) = true := by decide +kernel
theorem ag_trips (a1 : Int32) : ri_agree 89 154 [a1] := by
  have b1 := ri_i32 a1
  unfold ri_lo ri_hi at b1
  rcases (show ((-2147483648) ≤ a1.toInt ∧ a1.toInt ≤ (-1)) ∨ (0 ≤ a1.toInt ∧ a1.toInt ≤ 2147483647) by omega) with h | h
  · exact ri_agree_of (xs := [(0, (-2147483648), (-1))]) (c := (-1)) (z := (-1)) ⟨ri_gI_0.mpr (by omega), trivial⟩ (by decide +kernel) bX_trips_0 bM_trips_0 (fun q hq => by rw [mT_89] at hq; cases hq; exact Nat.le_of_ble_eq_true rfl) (fun q hq => by rw [mT_154] at hq; cases hq; exact Nat.le_of_ble_eq_true rfl)
  · exact ri_agree_of (xs := [(0, 0, 2147483647)]) (c := (-1)) (z := (-1)) ⟨ri_gI_0.mpr (by omega), trivial⟩ (by decide +kernel) bX_trips_1 bM_trips_1 (fun q hq => by rw [mT_89] at hq; cases hq; exact Nat.le_of_ble_eq_true rfl) (fun q hq => by rw [mT_154] at hq; cases hq; exact Nat.le_of_ble_eq_true rfl)
theorem bX_asks_0 : ri_chkR (0, (-1000000), (-1000000)) (ri_run ([], []) rD mt (999, 0) 35 20 54 (0, ri_ent [(0, (-2147483648), (-1)), (0, (-2147483648), 2147483647)] 1, [], hX, 0, 0)) = true := by decide +kernel
theorem bM_asks_0 : ri_chkR (0, (-1000000), (-1000000)) (ri_run ([], []) rD mt (999, 0) 48 20 94 (0, ri_ent [(0, (-2147483648), (-1)), (0, (-2147483648), 2147483647)] 1, [], hM, 0, 0)) = true := by decide +kernel
theorem bX_asks_1 : ri_chkR (0, (-1000000), (-1000000)) (ri_run ([], []) rD mt (999, 0) 42 20 54 (0, ri_ent [(0, 0, 59), (0, (-2147483648), 2147483647)] 1, [], hX, 0, 0)) = true := by decide +kernel
theorem bM_asks_1 : ri_chkR (0, (-1000000), (-1000000)) (ri_run ([], []) rD mt (999, 0) 48 20 94 (0, ri_ent [(0, 0, 59), (0, (-2147483648), 2147483647)] 1, [], hM, 0, 0)) = true := by decide +kernel
theorem bX_asks_2 : ri_chkR (0, (-1000000), (-1000000)) (ri_run ([], []) rD mt (999, 0) 38 20 54 (0, ri_ent [(0, 60, 2147483647), (0, (-2147483648), 2147483647)] 1, [], hX, 0, 0)) = true := by decide +kernel
theorem bM_asks_2 : ri_chkR (0, (-1000000), (-1000000)) (ri_run ([], []) rD mt (999, 0) 48 20 94 (0, ri_ent [(0, 60, 2147483647), (0, (-2147483648), 2147483647)] 1, [], hM, 0, 0)) = true := by decide +kernel
theorem ag_asks (a1 : Int32) (a2 : Int32) : ri_agree 54 94 [a1, a2] := by
  have b1 := ri_i32 a1
  unfold ri_lo ri_hi at b1
  have b2 := ri_i32 a2
  unfold ri_lo ri_hi at b2
  rcases (show ((-2147483648) ≤ a1.toInt ∧ a1.toInt ≤ (-1) ∧ (-2147483648) ≤ a2.toInt ∧ a2.toInt ≤ 2147483647) ∨ (0 ≤ a1.toInt ∧ a1.toInt ≤ 59 ∧ (-2147483648) ≤ a2.toInt ∧ a2.toInt ≤ 2147483647) ∨ (60 ≤ a1.toInt ∧ a1.toInt ≤ 2147483647 ∧ (-2147483648) ≤ a2.toInt ∧ a2.toInt ≤ 2147483647) by omega) with h | h | h
  · exact ri_agree_of (xs := [(0, (-2147483648), (-1)), (0, (-2147483648), 2147483647)]) (c := (-1000000)) (z := (-1000000)) ⟨ri_gI_0.mpr (by omega), ⟨ri_gI_0.mpr (by omega), trivial⟩⟩ (by decide +kernel) bX_asks_0 bM_asks_0 (fun q hq => by rw [mT_54] at hq; cases hq; exact Nat.le_of_ble_eq_true rfl) (fun q hq => by rw [mT_94] at hq; cases hq; exact Nat.le_of_ble_eq_true rfl)
  · exact ri_agree_of (xs := [(0, 0, 59), (0, (-2147483648), 2147483647)]) (c := (-1000000)) (z := (-1000000)) ⟨ri_gI_0.mpr (by omega), ⟨ri_gI_0.mpr (by omega), trivial⟩⟩ (by decide +kernel) bX_asks_1 bM_asks_1 (fun q hq => by rw [mT_54] at hq; cases hq; exact Nat.le_of_ble_eq_true rfl) (fun q hq => by rw [mT_94] at hq; cases hq; exact Nat.le_of_ble_eq_true rfl)
  · exact ri_agree_of (xs := [(0, 60, 2147483647), (0, (-2147483648), 2147483647)]) (c := (-1000000)) (z := (-1000000)) ⟨ri_gI_0.mpr (by omega), ⟨ri_gI_0.mpr (by omega), trivial⟩⟩ (by decide +kernel) bX_asks_2 bM_asks_2 (fun q hq => by rw [mT_54] at hq; cases hq; exact Nat.le_of_ble_eq_true rfl) (fun q hq => by rw [mT_94] at hq; cases hq; exact Nat.le_of_ble_eq_true rfl)
theorem bX_event_0 : ri_chkR (0, (-1), (-1)) (ri_run ([], []) rD mt (999, 0) 31 20 62 (0, ri_ent [(0, (-2147483648), (-1)), (0, (-2147483648), 2147483647)] 0, [], hX, 0, 0)) = true := by decide +kernel
theorem bM_event_0 : ri_chkR (0, (-1), (-1)) (ri_run ([], []) rD mt (999, 0) 35 20 110 (0, ri_ent [(0, (-2147483648), (-1)), (0, (-2147483648), 2147483647)] 0, [], hM, 0, 0)) = true := by decide +kernel
theorem bX_event_1 : ri_chkR (0, (-1), (-1)) (ri_run ([], []) rD mt (999, 0) 35 20 62 (0, ri_ent [(0, 0, 2147483647), (0, (-2147483648), 2147483647)] 0, [], hX, 0, 0)) = true := by decide +kernel
theorem bM_event_1 : ri_chkR (0, (-1), (-1)) (ri_run ([], []) rD mt (999, 0) 38 20 110 (0, ri_ent [(0, 0, 2147483647), (0, (-2147483648), 2147483647)] 0, [], hM, 0, 0)) = true := by decide +kernel
theorem ag_event (a1 : Int32) (a2 : Int32) : ri_agree 62 110 [a1, a2] := by
  have b1 := ri_i32 a1
  unfold ri_lo ri_hi at b1
  have b2 := ri_i32 a2
  unfold ri_lo ri_hi at b2
  rcases (show ((-2147483648) ≤ a1.toInt ∧ a1.toInt ≤ (-1) ∧ (-2147483648) ≤ a2.toInt ∧ a2.toInt ≤ 2147483647) ∨ (0 ≤ a1.toInt ∧ a1.toInt ≤ 2147483647 ∧ (-2147483648) ≤ a2.toInt ∧ a2.toInt ≤ 2147483647) by omega) with h | h
  · exact ri_agree_of (xs := [(0, (-2147483648), (-1)), (0, (-2147483648), 2147483647)]) (c := (-1)) (z := (-1)) ⟨ri_gI_0.mpr (by omega), ⟨ri_gI_0.mpr (by omega), trivial⟩⟩ (by decide +kernel) bX_event_0 bM_event_0 (fun q hq => by rw [mT_62] at hq; cases hq; exact Nat.le_of_ble_eq_true rfl) (fun q hq => by rw [mT_110] at hq; cases hq; exact Nat.le_of_ble_eq_true rfl)
  · exact ri_agree_of (xs := [(0, 0, 2147483647), (0, (-2147483648), 2147483647)]) (c := (-1)) (z := (-1)) ⟨ri_gI_0.mpr (by omega), ⟨ri_gI_0.mpr (by omega), trivial⟩⟩ (by decide +kernel) bX_event_1 bM_event_1 (fun q hq => by rw [mT_62] at hq; cases hq; exact Nat.le_of_ble_eq_true rfl) (fun q hq => by rw [mT_110] at hq; cases hq; exact Nat.le_of_ble_eq_true rfl)
theorem bX_spread_0 : ri_chkR (0, (-1), (-1)) (ri_run ([], []) rD mt (999, 0) 31 20 84 (0, ri_ent [(0, (-2147483648), (-1)), (0, (-2147483648), 2147483647)] 4, [], hX, 0, 0)) = true := by decide +kernel
theorem bM_spread_0 : ri_chkR (0, (-1), (-1)) (ri_run ([], []) rD mt (999, 0) 45 20 148 (0, ri_ent [(0, (-2147483648), (-1)), (0, (-2147483648), 2147483647)] 4, [], hM, 0, 0)) = true := by decide +kernel
theorem bX_spread_1 : ri_chkR (0, (-1), (-1)) (ri_run ([], []) rD mt (999, 0) 35 20 84 (0, ri_ent [(0, 0, 2147483647), (0, (-2147483648), 2147483647)] 4, [], hX, 0, 0)) = true := by decide +kernel
theorem bM_spread_1 : ri_chkR (0, (-1), (-1)) (ri_run ([], []) rD mt (999, 0) 48 20 148 (0, ri_ent [(0, 0, 2147483647), (0, (-2147483648), 2147483647)] 4, [], hM, 0, 0)) = true := by decide +kernel
theorem ag_spread (a1 : Int32) (a2 : Int32) : ri_agree 84 148 [a1, a2] := by
  have b1 := ri_i32 a1
  unfold ri_lo ri_hi at b1
  have b2 := ri_i32 a2
  unfold ri_lo ri_hi at b2
  rcases (show ((-2147483648) ≤ a1.toInt ∧ a1.toInt ≤ (-1) ∧ (-2147483648) ≤ a2.toInt ∧ a2.toInt ≤ 2147483647) ∨ (0 ≤ a1.toInt ∧ a1.toInt ≤ 2147483647 ∧ (-2147483648) ≤ a2.toInt ∧ a2.toInt ≤ 2147483647) by omega) with h | h
  · exact ri_agree_of (xs := [(0, (-2147483648), (-1)), (0, (-2147483648), 2147483647)]) (c := (-1)) (z := (-1)) ⟨ri_gI_0.mpr (by omega), ⟨ri_gI_0.mpr (by omega), trivial⟩⟩ (by decide +kernel) bX_spread_0 bM_spread_0 (fun q hq => by rw [mT_84] at hq; cases hq; exact Nat.le_of_ble_eq_true rfl) (fun q hq => by rw [mT_148] at hq; cases hq; exact Nat.le_of_ble_eq_true rfl)
  · exact ri_agree_of (xs := [(0, 0, 2147483647), (0, (-2147483648), 2147483647)]) (c := (-1)) (z := (-1)) ⟨ri_gI_0.mpr (by omega), ⟨ri_gI_0.mpr (by omega), trivial⟩⟩ (by decide +kernel) bX_spread_1 bM_spread_1 (fun q hq => by rw [mT_84] at hq; cases hq; exact Nat.le_of_ble_eq_true rfl) (fun q hq => by rw [mT_148] at hq; cases hq; exact Nat.le_of_ble_eq_true rfl)
theorem bX_runaway_0 : ri_chkR (0, (-1), (-1)) (ri_run ([], []) rD mt (999, 0) 31 20 81 (0, ri_ent [(0, (-2147483648), (-1)), (0, (-2147483648), 2147483647)] 0, [], hX, 0, 0)) = true := by decide +kernel
theorem bM_runaway_0 : ri_chkR (0, (-1), (-1)) (ri_run ([], []) rD mt (999, 0) 45 20 143 (0, ri_ent [(0, (-2147483648), (-1)), (0, (-2147483648), 2147483647)] 5, [], hM, 0, 0)) = true := by decide +kernel
theorem bX_runaway_1 : ri_chkR (0, (-1), (-1)) (ri_run ([], []) rD mt (999, 0) 35 20 81 (0, ri_ent [(0, 0, 2147483647), (0, (-2147483648), 2147483647)] 0, [], hX, 0, 0)) = true := by decide +kernel
theorem bM_runaway_1 : ri_chkR (0, (-1), (-1)) (ri_run ([], []) rD mt (999, 0) 48 20 143 (0, ri_ent [(0, 0, 2147483647), (0, (-2147483648), 2147483647)] 5, [], hM, 0, 0)) = true := by decide +kernel
theorem ag_runaway (a1 : Int32) (a2 : Int32) : ri_agree 81 143 [a1, a2] := by
  have b1 := ri_i32 a1
  unfold ri_lo ri_hi at b1
  have b2 := ri_i32 a2
  unfold ri_lo ri_hi at b2
  rcases (show ((-2147483648) ≤ a1.toInt ∧ a1.toInt ≤ (-1) ∧ (-2147483648) ≤ a2.toInt ∧ a2.toInt ≤ 2147483647) ∨ (0 ≤ a1.toInt ∧ a1.toInt ≤ 2147483647 ∧ (-2147483648) ≤ a2.toInt ∧ a2.toInt ≤ 2147483647) by omega) with h | h
  · exact ri_agree_of (xs := [(0, (-2147483648), (-1)), (0, (-2147483648), 2147483647)]) (c := (-1)) (z := (-1)) ⟨ri_gI_0.mpr (by omega), ⟨ri_gI_0.mpr (by omega), trivial⟩⟩ (by decide +kernel) bX_runaway_0 bM_runaway_0 (fun q hq => by rw [mT_81] at hq; cases hq; exact Nat.le_of_ble_eq_true rfl) (fun q hq => by rw [mT_143] at hq; cases hq; exact Nat.le_of_ble_eq_true rfl)
  · exact ri_agree_of (xs := [(0, 0, 2147483647), (0, (-2147483648), 2147483647)]) (c := (-1)) (z := (-1)) ⟨ri_gI_0.mpr (by omega), ⟨ri_gI_0.mpr (by omega), trivial⟩⟩ (by decide +kernel) bX_runaway_1 bM_runaway_1 (fun q hq => by rw [mT_81] at hq; cases hq; exact Nat.le_of_ble_eq_true rfl) (fun q hq => by rw [mT_143] at hq; cases hq; exact Nat.le_of_ble_eq_true rfl)
theorem bX_order_0 : ri_chkR (0, (-1), (-1)) (ri_run ([], []) rD mt (999, 0) 29 20 75 (0, ri_ent [(0, (-2147483648), 2147483647)] 1, [], hX, 0, 0)) = true := by decide +kernel
theorem bM_order_0 : ri_chkR (0, (-1), (-1)) (ri_run ([], []) rD mt (999, 0) 34 20 137 (0, ri_ent [(0, (-2147483648), 2147483647)] 5, [], hM, 0, 0)) = true := by decide +kernel
theorem ag_order (a1 : Int32) : ri_agree 75 137 [a1] := by
  have b1 := ri_i32 a1
  unfold ri_lo ri_hi at b1
  exact ri_agree_of (xs := [(0, (-2147483648), 2147483647)]) (c := (-1)) (z := (-1)) ⟨ri_gI_0.mpr (by omega), trivial⟩ (by decide +kernel) bX_order_0 bM_order_0 (fun q hq => by rw [mT_75] at hq; cases hq; exact Nat.le_of_ble_eq_true rfl) (fun q hq => by rw [mT_137] at hq; cases hq; exact Nat.le_of_ble_eq_true rfl)
theorem bX_where_0 : ri_chkR (0, (-2), (-2)) (ri_run ([], []) rD mt (999, 0) 38 20 91 (0, ri_ent [(0, (-2147483648), (-1)), (0, (-2147483648), 2147483647), (0, (-2147483648), 2147483647)] 1, [], hX, 0, 0)) = true := by decide +kernel
theorem bM_where_0 : ri_chkR (0, (-2), (-2)) (ri_run ([], []) rD mt (999, 0) 49 20 156 (0, ri_ent [(0, (-2147483648), (-1)), (0, (-2147483648), 2147483647), (0, (-2147483648), 2147483647)] 2, [], hM, 0, 0)) = true := by decide +kernel
theorem bX_where_1 : ri_chkR (0, (-2), (-2)) (ri_run ([], []) rD mt (999, 0) 42 20 91 (0, ri_ent [(0, 0, 2147483647), (0, (-2147483648), 2147483647), (0, (-2147483648), 2147483647)] 1, [], hX, 0, 0)) = true := by decide +kernel
theorem bM_where_1 : ri_chkR (0, (-2), (-2)) (ri_run ([], []) rD mt (999, 0) 52 20 156 (0, ri_ent [(0, 0, 2147483647), (0, (-2147483648), 2147483647), (0, (-2147483648), 2147483647)] 2, [], hM, 0, 0)) = true := by decide +kernel
theorem ag_where (a1 : Int32) (a2 : Int32) (a3 : Int32) : ri_agree 91 156 [a1, a2, a3] := by
  have b1 := ri_i32 a1
  unfold ri_lo ri_hi at b1
  have b2 := ri_i32 a2
  unfold ri_lo ri_hi at b2
  have b3 := ri_i32 a3
  unfold ri_lo ri_hi at b3
  rcases (show ((-2147483648) ≤ a1.toInt ∧ a1.toInt ≤ (-1) ∧ (-2147483648) ≤ a2.toInt ∧ a2.toInt ≤ 2147483647 ∧ (-2147483648) ≤ a3.toInt ∧ a3.toInt ≤ 2147483647) ∨ (0 ≤ a1.toInt ∧ a1.toInt ≤ 2147483647 ∧ (-2147483648) ≤ a2.toInt ∧ a2.toInt ≤ 2147483647 ∧ (-2147483648) ≤ a3.toInt ∧ a3.toInt ≤ 2147483647) by omega) with h | h
  · exact ri_agree_of (xs := [(0, (-2147483648), (-1)), (0, (-2147483648), 2147483647), (0, (-2147483648), 2147483647)]) (c := (-2)) (z := (-2)) ⟨ri_gI_0.mpr (by omega), ⟨ri_gI_0.mpr (by omega), ⟨ri_gI_0.mpr (by omega), trivial⟩⟩⟩ (by decide +kernel) bX_where_0 bM_where_0 (fun q hq => by rw [mT_91] at hq; cases hq; exact Nat.le_of_ble_eq_true rfl) (fun q hq => by rw [mT_156] at hq; cases hq; exact Nat.le_of_ble_eq_true rfl)
  · exact ri_agree_of (xs := [(0, 0, 2147483647), (0, (-2147483648), 2147483647), (0, (-2147483648), 2147483647)]) (c := (-2)) (z := (-2)) ⟨ri_gI_0.mpr (by omega), ⟨ri_gI_0.mpr (by omega), ⟨ri_gI_0.mpr (by omega), trivial⟩⟩⟩ (by decide +kernel) bX_where_1 bM_where_1 (fun q hq => by rw [mT_91] at hq; cases hq; exact Nat.le_of_ble_eq_true rfl) (fun q hq => by rw [mT_156] at hq; cases hq; exact Nat.le_of_ble_eq_true rfl)
theorem bX_log_0 : ri_chkR (0, (-1), (-1)) (ri_run ([], []) rD mt (999, 0) 31 20 72 (0, ri_ent [(0, (-2147483648), (-1)), (0, (-2147483648), 2147483647), (0, (-2147483648), 2147483647)] 0, [], hX, 0, 0)) = true := by decide +kernel
theorem bM_log_0 : ri_chkR (0, (-1), (-1)) (ri_run ([], []) rD mt (999, 0) 45 20 133 (0, ri_ent [(0, (-2147483648), (-1)), (0, (-2147483648), 2147483647), (0, (-2147483648), 2147483647)] 0, [], hM, 0, 0)) = true := by decide +kernel
theorem bX_log_1 : ri_chkR (0, (-1), (-1)) (ri_run ([], []) rD mt (999, 0) 35 20 72 (0, ri_ent [(0, 0, 2147483647), (0, (-2147483648), 2147483647), (0, (-2147483648), 2147483647)] 0, [], hX, 0, 0)) = true := by decide +kernel
theorem bM_log_1 : ri_chkR (0, (-1), (-1)) (ri_run ([], []) rD mt (999, 0) 48 20 133 (0, ri_ent [(0, 0, 2147483647), (0, (-2147483648), 2147483647), (0, (-2147483648), 2147483647)] 0, [], hM, 0, 0)) = true := by decide +kernel
theorem ag_log (a1 : Int32) (a2 : Int32) (a3 : Int32) : ri_agree 72 133 [a1, a2, a3] := by
  have b1 := ri_i32 a1
  unfold ri_lo ri_hi at b1
  have b2 := ri_i32 a2
  unfold ri_lo ri_hi at b2
  have b3 := ri_i32 a3
  unfold ri_lo ri_hi at b3
  rcases (show ((-2147483648) ≤ a1.toInt ∧ a1.toInt ≤ (-1) ∧ (-2147483648) ≤ a2.toInt ∧ a2.toInt ≤ 2147483647 ∧ (-2147483648) ≤ a3.toInt ∧ a3.toInt ≤ 2147483647) ∨ (0 ≤ a1.toInt ∧ a1.toInt ≤ 2147483647 ∧ (-2147483648) ≤ a2.toInt ∧ a2.toInt ≤ 2147483647 ∧ (-2147483648) ≤ a3.toInt ∧ a3.toInt ≤ 2147483647) by omega) with h | h
  · exact ri_agree_of (xs := [(0, (-2147483648), (-1)), (0, (-2147483648), 2147483647), (0, (-2147483648), 2147483647)]) (c := (-1)) (z := (-1)) ⟨ri_gI_0.mpr (by omega), ⟨ri_gI_0.mpr (by omega), ⟨ri_gI_0.mpr (by omega), trivial⟩⟩⟩ (by decide +kernel) bX_log_0 bM_log_0 (fun q hq => by rw [mT_72] at hq; cases hq; exact Nat.le_of_ble_eq_true rfl) (fun q hq => by rw [mT_133] at hq; cases hq; exact Nat.le_of_ble_eq_true rfl)
  · exact ri_agree_of (xs := [(0, 0, 2147483647), (0, (-2147483648), 2147483647), (0, (-2147483648), 2147483647)]) (c := (-1)) (z := (-1)) ⟨ri_gI_0.mpr (by omega), ⟨ri_gI_0.mpr (by omega), ⟨ri_gI_0.mpr (by omega), trivial⟩⟩⟩ (by decide +kernel) bX_log_1 bM_log_1 (fun q hq => by rw [mT_72] at hq; cases hq; exact Nat.le_of_ble_eq_true rfl) (fun q hq => by rw [mT_133] at hq; cases hq; exact Nat.le_of_ble_eq_true rfl)
theorem bX_untell_0 : ri_chkR (0, 0, 0) (ri_run ([], []) rD mt (999, 0) 29 20 90 (0, ri_ent [(0, (-2147483648), (-1))] 0, [], hX, 0, 0)) = true := by decide +kernel
theorem bM_untell_0 : ri_chkR (0, 0, 0) (ri_run ([], []) rD mt (999, 0) 35 20 155 (0, ri_ent [(0, (-2147483648), (-1))] 0, [], hM, 0, 0)) = true := by decide +kernel
theorem bX_untell_1 : ri_chkR (0, 0, 0) (ri_run ([], []) rD mt (999, 0) 33 20 90 (0, ri_ent [(0, 0, 2147483647)] 0, [], hX, 0, 0)) = true := by decide +kernel
theorem bM_untell_1 : ri_chkR (0, 0, 0) (ri_run ([], []) rD mt (999, 0) 38 20 155 (0, ri_ent [(0, 0, 2147483647)] 0, [], hM, 0, 0)) = true := by decide +kernel
theorem ag_untell (a1 : Int32) : ri_agree 90 155 [a1] := by
  have b1 := ri_i32 a1
  unfold ri_lo ri_hi at b1
  rcases (show ((-2147483648) ≤ a1.toInt ∧ a1.toInt ≤ (-1)) ∨ (0 ≤ a1.toInt ∧ a1.toInt ≤ 2147483647) by omega) with h | h
  · exact ri_agree_of (xs := [(0, (-2147483648), (-1))]) (c := 0) (z := 0) ⟨ri_gI_0.mpr (by omega), trivial⟩ (by decide +kernel) bX_untell_0 bM_untell_0 (fun q hq => by rw [mT_90] at hq; cases hq; exact Nat.le_of_ble_eq_true rfl) (fun q hq => by rw [mT_155] at hq; cases hq; exact Nat.le_of_ble_eq_true rfl)
  · exact ri_agree_of (xs := [(0, 0, 2147483647)]) (c := 0) (z := 0) ⟨ri_gI_0.mpr (by omega), trivial⟩ (by decide +kernel) bX_untell_1 bM_untell_1 (fun q hq => by rw [mT_90] at hq; cases hq; exact Nat.le_of_ble_eq_true rfl) (fun q hq => by rw [mT_155] at hq; cases hq; exact Nat.le_of_ble_eq_true rfl)
theorem bX_later_0 : ri_chkR (0, (-1), (-1)) (ri_run ([], []) rD mt (999, 0) 24 20 71 (0, ri_ent [(0, (-2147483648), (-1))] 0, [], hX, 0, 0)) = true := by decide +kernel
theorem bM_later_0 : ri_chkR (0, (-1), (-1)) (ri_run ([], []) rD mt (999, 0) 32 20 132 (0, ri_ent [(0, (-2147483648), (-1))] 0, [], hM, 0, 0)) = true := by decide +kernel
theorem bX_later_1 : ri_chkR (1, 0, 0) (ri_run ([(0, 1000)], []) rD mt (999, 0) 43 20 71 (0, ri_ent [(1, 0, 0)] 0, [], hX, 0, 0)) = true := by decide +kernel
theorem bM_later_1 : ri_chkR (1, 0, 0) (ri_run ([(0, 1000)], []) rD mt (999, 0) 49 20 132 (0, ri_ent [(1, 0, 0)] 0, [], hM, 0, 0)) = true := by decide +kernel
theorem bX_later_2 : ri_chkR (0, (-1), (-1)) (ri_run ([], []) rD mt (999, 0) 27 20 71 (0, ri_ent [(0, 1001, 2147483647)] 0, [], hX, 0, 0)) = true := by decide +kernel
theorem bM_later_2 : ri_chkR (0, (-1), (-1)) (ri_run ([], []) rD mt (999, 0) 35 20 132 (0, ri_ent [(0, 1001, 2147483647)] 0, [], hM, 0, 0)) = true := by decide +kernel
theorem ag_later (a1 : Int32) : ri_agree 71 132 [a1] := by
  have b1 := ri_i32 a1
  unfold ri_lo ri_hi at b1
  rcases (show ((-2147483648) ≤ a1.toInt ∧ a1.toInt ≤ (-1)) ∨ (0 ≤ a1.toInt ∧ a1.toInt ≤ 1000) ∨ (1001 ≤ a1.toInt ∧ a1.toInt ≤ 2147483647) by omega) with h | h | h
  · exact ri_agree_of (xs := [(0, (-2147483648), (-1))]) (c := (-1)) (z := (-1)) ⟨ri_gI_0.mpr (by omega), trivial⟩ (by decide +kernel) bX_later_0 bM_later_0 (fun q hq => by rw [mT_71] at hq; cases hq; exact Nat.le_of_ble_eq_true rfl) (fun q hq => by rw [mT_132] at hq; cases hq; exact Nat.le_of_ble_eq_true rfl)
  · exact ⟨a1, ri_con_of (E := ([(0, 1000)], [])) (τ := fun _ => a1.toInt) (xs := [(1, 0, 0)]) (x := (1, 0, 0)) (ri_okE1 (by omega) (by omega)) ⟨ri_gI_self a1, trivial⟩ (fun w hw => ri_self hw) bX_later_1 (fun q hq => by rw [mT_71] at hq; cases hq; exact Nat.le_of_ble_eq_true rfl), ri_con_of (E := ([(0, 1000)], [])) (τ := fun _ => a1.toInt) (xs := [(1, 0, 0)]) (x := (1, 0, 0)) (ri_okE1 (by omega) (by omega)) ⟨ri_gI_self a1, trivial⟩ (fun w hw => ri_self hw) bM_later_1 (fun q hq => by rw [mT_132] at hq; cases hq; exact Nat.le_of_ble_eq_true rfl)⟩
  · exact ri_agree_of (xs := [(0, 1001, 2147483647)]) (c := (-1)) (z := (-1)) ⟨ri_gI_0.mpr (by omega), trivial⟩ (by decide +kernel) bX_later_2 bM_later_2 (fun q hq => by rw [mT_71] at hq; cases hq; exact Nat.le_of_ble_eq_true rfl) (fun q hq => by rw [mT_132] at hq; cases hq; exact Nat.le_of_ble_eq_true rfl)
theorem bX_logged_0 : ri_chkR (0, (-1000), (-1000)) (ri_run ([], []) rD mt (999, 0) 31 20 73 (0, ri_ent [(0, (-2147483648), (-1)), (0, (-2147483648), 2147483647)] 0, [], hX, 0, 0)) = true := by decide +kernel
theorem bM_logged_0 : ri_chkR (0, (-1000), (-1000)) (ri_run ([], []) rD mt (999, 0) 45 20 134 (0, ri_ent [(0, (-2147483648), (-1)), (0, (-2147483648), 2147483647)] 2, [], hM, 0, 0)) = true := by decide +kernel
theorem bX_logged_1 : ri_chkR (0, (-1000), (-1000)) (ri_run ([], []) rD mt (999, 0) 35 20 73 (0, ri_ent [(0, 0, 2147483647), (0, (-2147483648), 2147483647)] 0, [], hX, 0, 0)) = true := by decide +kernel
theorem bM_logged_1 : ri_chkR (0, (-1000), (-1000)) (ri_run ([], []) rD mt (999, 0) 48 20 134 (0, ri_ent [(0, 0, 2147483647), (0, (-2147483648), 2147483647)] 2, [], hM, 0, 0)) = true := by decide +kernel
theorem ag_logged (a1 : Int32) (a2 : Int32) : ri_agree 73 134 [a1, a2] := by
  have b1 := ri_i32 a1
  unfold ri_lo ri_hi at b1
  have b2 := ri_i32 a2
  unfold ri_lo ri_hi at b2
  rcases (show ((-2147483648) ≤ a1.toInt ∧ a1.toInt ≤ (-1) ∧ (-2147483648) ≤ a2.toInt ∧ a2.toInt ≤ 2147483647) ∨ (0 ≤ a1.toInt ∧ a1.toInt ≤ 2147483647 ∧ (-2147483648) ≤ a2.toInt ∧ a2.toInt ≤ 2147483647) by omega) with h | h
  · exact ri_agree_of (xs := [(0, (-2147483648), (-1)), (0, (-2147483648), 2147483647)]) (c := (-1000)) (z := (-1000)) ⟨ri_gI_0.mpr (by omega), ⟨ri_gI_0.mpr (by omega), trivial⟩⟩ (by decide +kernel) bX_logged_0 bM_logged_0 (fun q hq => by rw [mT_73] at hq; cases hq; exact Nat.le_of_ble_eq_true rfl) (fun q hq => by rw [mT_134] at hq; cases hq; exact Nat.le_of_ble_eq_true rfl)
  · exact ri_agree_of (xs := [(0, 0, 2147483647), (0, (-2147483648), 2147483647)]) (c := (-1000)) (z := (-1000)) ⟨ri_gI_0.mpr (by omega), ⟨ri_gI_0.mpr (by omega), trivial⟩⟩ (by decide +kernel) bX_logged_1 bM_logged_1 (fun q hq => by rw [mT_73] at hq; cases hq; exact Nat.le_of_ble_eq_true rfl) (fun q hq => by rw [mT_134] at hq; cases hq; exact Nat.le_of_ble_eq_true rfl)
theorem bX_back_0 : ri_chkR (0, (-1), (-1)) (ri_run ([], []) rD mt (999, 0) 24 20 55 (0, ri_ent [(0, (-2147483648), (-1))] 0, [], hX, 0, 0)) = true := by decide +kernel
theorem bM_back_0 : ri_chkR (0, (-1), (-1)) (ri_run ([], []) rD mt (999, 0) 32 20 95 (0, ri_ent [(0, (-2147483648), (-1))] 0, [], hM, 0, 0)) = true := by decide +kernel
theorem bX_back_1 : ri_chkR (0, (-1), (-1)) (ri_run ([], []) rD mt (999, 0) 32 20 55 (0, ri_ent [(0, 0, 0)] 0, [], hX, 0, 0)) = true := by decide +kernel
theorem bM_back_1 : ri_chkR (0, (-1), (-1)) (ri_run ([], []) rD mt (999, 0) 41 20 95 (0, ri_ent [(0, 0, 0)] 0, [], hM, 0, 0)) = true := by decide +kernel
theorem bX_back_2 : ri_chkR (0, (-1), (-1)) (ri_run ([], []) rD mt (999, 0) 32 20 55 (0, ri_ent [(0, 1, 1)] 0, [], hX, 0, 0)) = true := by decide +kernel
theorem bM_back_2 : ri_chkR (0, (-1), (-1)) (ri_run ([], []) rD mt (999, 0) 41 20 95 (0, ri_ent [(0, 1, 1)] 0, [], hM, 0, 0)) = true := by decide +kernel
theorem bX_back_3 : ri_chkR (0, (-1), (-1)) (ri_run ([], []) rD mt (999, 0) 32 20 55 (0, ri_ent [(0, 2, 2)] 0, [], hX, 0, 0)) = true := by decide +kernel
theorem bM_back_3 : ri_chkR (0, (-1), (-1)) (ri_run ([], []) rD mt (999, 0) 41 20 95 (0, ri_ent [(0, 2, 2)] 0, [], hM, 0, 0)) = true := by decide +kernel
theorem bX_back_4 : ri_chkR (0, (-1), (-1)) (ri_run ([], []) rD mt (999, 0) 27 20 55 (0, ri_ent [(0, 3, 2147483647)] 0, [], hX, 0, 0)) = true := by decide +kernel
theorem bM_back_4 : ri_chkR (0, (-1), (-1)) (ri_run ([], []) rD mt (999, 0) 35 20 95 (0, ri_ent [(0, 3, 2147483647)] 0, [], hM, 0, 0)) = true := by decide +kernel
theorem ag_back (a1 : Int32) : ri_agree 55 95 [a1] := by
  have b1 := ri_i32 a1
  unfold ri_lo ri_hi at b1
  rcases (show ((-2147483648) ≤ a1.toInt ∧ a1.toInt ≤ (-1)) ∨ (0 ≤ a1.toInt ∧ a1.toInt ≤ 0) ∨ (1 ≤ a1.toInt ∧ a1.toInt ≤ 1) ∨ (2 ≤ a1.toInt ∧ a1.toInt ≤ 2) ∨ (3 ≤ a1.toInt ∧ a1.toInt ≤ 2147483647) by omega) with h | h | h | h | h
  · exact ri_agree_of (xs := [(0, (-2147483648), (-1))]) (c := (-1)) (z := (-1)) ⟨ri_gI_0.mpr (by omega), trivial⟩ (by decide +kernel) bX_back_0 bM_back_0 (fun q hq => by rw [mT_55] at hq; cases hq; exact Nat.le_of_ble_eq_true rfl) (fun q hq => by rw [mT_95] at hq; cases hq; exact Nat.le_of_ble_eq_true rfl)
  · exact ri_agree_of (xs := [(0, 0, 0)]) (c := (-1)) (z := (-1)) ⟨ri_gI_0.mpr (by omega), trivial⟩ (by decide +kernel) bX_back_1 bM_back_1 (fun q hq => by rw [mT_55] at hq; cases hq; exact Nat.le_of_ble_eq_true rfl) (fun q hq => by rw [mT_95] at hq; cases hq; exact Nat.le_of_ble_eq_true rfl)
  · exact ri_agree_of (xs := [(0, 1, 1)]) (c := (-1)) (z := (-1)) ⟨ri_gI_0.mpr (by omega), trivial⟩ (by decide +kernel) bX_back_2 bM_back_2 (fun q hq => by rw [mT_55] at hq; cases hq; exact Nat.le_of_ble_eq_true rfl) (fun q hq => by rw [mT_95] at hq; cases hq; exact Nat.le_of_ble_eq_true rfl)
  · exact ri_agree_of (xs := [(0, 2, 2)]) (c := (-1)) (z := (-1)) ⟨ri_gI_0.mpr (by omega), trivial⟩ (by decide +kernel) bX_back_3 bM_back_3 (fun q hq => by rw [mT_55] at hq; cases hq; exact Nat.le_of_ble_eq_true rfl) (fun q hq => by rw [mT_95] at hq; cases hq; exact Nat.le_of_ble_eq_true rfl)
  · exact ri_agree_of (xs := [(0, 3, 2147483647)]) (c := (-1)) (z := (-1)) ⟨ri_gI_0.mpr (by omega), trivial⟩ (by decide +kernel) bX_back_4 bM_back_4 (fun q hq => by rw [mT_55] at hq; cases hq; exact Nat.le_of_ble_eq_true rfl) (fun q hq => by rw [mT_95] at hq; cases hq; exact Nat.le_of_ble_eq_true rfl)
theorem bX_about_0 : ri_chkR (0, (-1), (-1)) (ri_run ([], []) rD mt (999, 0) 24 20 53 (0, ri_ent [(0, (-2147483648), (-1))] 0, [], hX, 0, 0)) = true := by decide +kernel
theorem bM_about_0 : ri_chkR (0, (-1), (-1)) (ri_run ([], []) rD mt (999, 0) 24 20 93 (0, ri_ent [(0, (-2147483648), (-1))] 0, [], hM, 0, 0)) = true := by decide +kernel
theorem bX_about_1 : ri_chkR (0, 0, 0) (ri_run ([], []) rD mt (999, 0) 26 20 53 (0, ri_ent [(0, 0, 0)] 0, [], hX, 0, 0)) = true := by decide +kernel
theorem bM_about_1 : ri_chkR (0, 0, 0) (ri_run ([], []) rD mt (999, 0) 28 20 93 (0, ri_ent [(0, 0, 0)] 0, [], hM, 0, 0)) = true := by decide +kernel
theorem bX_about_2 : ri_chkR (0, 0, 0) (ri_run ([], []) rD mt (999, 0) 26 20 53 (0, ri_ent [(0, 1, 1)] 0, [], hX, 0, 0)) = true := by decide +kernel
theorem bM_about_2 : ri_chkR (0, 0, 0) (ri_run ([], []) rD mt (999, 0) 31 20 93 (0, ri_ent [(0, 1, 1)] 0, [], hM, 0, 0)) = true := by decide +kernel
theorem bX_about_3 : ri_chkR (0, 0, 0) (ri_run ([], []) rD mt (999, 0) 26 20 53 (0, ri_ent [(0, 2, 2)] 0, [], hX, 0, 0)) = true := by decide +kernel
theorem bM_about_3 : ri_chkR (0, 0, 0) (ri_run ([], []) rD mt (999, 0) 28 20 93 (0, ri_ent [(0, 2, 2)] 0, [], hM, 0, 0)) = true := by decide +kernel
theorem bX_about_4 : ri_chkR (0, 0, 0) (ri_run ([], []) rD mt (999, 0) 26 20 53 (0, ri_ent [(0, 3, 3)] 0, [], hX, 0, 0)) = true := by decide +kernel
theorem bM_about_4 : ri_chkR (0, 0, 0) (ri_run ([], []) rD mt (999, 0) 25 20 93 (0, ri_ent [(0, 3, 3)] 0, [], hM, 0, 0)) = true := by decide +kernel
theorem bX_about_5 : ri_chkR (0, 0, 0) (ri_run ([], []) rD mt (999, 0) 26 20 53 (0, ri_ent [(0, 4, 4)] 0, [], hX, 0, 0)) = true := by decide +kernel
theorem bM_about_5 : ri_chkR (0, 0, 0) (ri_run ([], []) rD mt (999, 0) 25 20 93 (0, ri_ent [(0, 4, 4)] 0, [], hM, 0, 0)) = true := by decide +kernel
theorem bX_about_6 : ri_chkR (0, 0, 0) (ri_run ([], []) rD mt (999, 0) 26 20 53 (0, ri_ent [(0, 5, 5)] 0, [], hX, 0, 0)) = true := by decide +kernel
theorem bM_about_6 : ri_chkR (0, 0, 0) (ri_run ([], []) rD mt (999, 0) 25 20 93 (0, ri_ent [(0, 5, 5)] 0, [], hM, 0, 0)) = true := by decide +kernel
theorem bX_about_7 : ri_chkR (0, 0, 0) (ri_run ([], []) rD mt (999, 0) 25 20 53 (0, ri_ent [(0, 6, 6)] 0, [], hX, 0, 0)) = true := by decide +kernel
theorem bM_about_7 : ri_chkR (0, 0, 0) (ri_run ([], []) rD mt (999, 0) 25 20 93 (0, ri_ent [(0, 6, 6)] 0, [], hM, 0, 0)) = true := by decide +kernel
theorem bX_about_8 : ri_chkR (0, 1, 1) (ri_run ([], []) rD mt (999, 0) 26 20 53 (0, ri_ent [(0, 7, 7)] 0, [], hX, 0, 0)) = true := by decide +kernel
theorem bM_about_8 : ri_chkR (0, 1, 1) (ri_run ([], []) rD mt (999, 0) 28 20 93 (0, ri_ent [(0, 7, 7)] 0, [], hM, 0, 0)) = true := by decide +kernel
theorem bX_about_9 : ri_chkR (0, 200, 200) (ri_run ([], []) rD mt (999, 0) 26 20 53 (0, ri_ent [(0, 8, 8)] 0, [], hX, 0, 0)) = true := by decide +kernel
theorem bM_about_9 : ri_chkR (0, 200, 200) (ri_run ([], []) rD mt (999, 0) 28 20 93 (0, ri_ent [(0, 8, 8)] 0, [], hM, 0, 0)) = true := by decide +kernel
theorem bX_about_10 : ri_chkR (0, 0, 0) (ri_run ([], []) rD mt (999, 0) 26 20 53 (0, ri_ent [(0, 9, 9)] 0, [], hX, 0, 0)) = true := by decide +kernel
theorem bM_about_10 : ri_chkR (0, 0, 0) (ri_run ([], []) rD mt (999, 0) 28 20 93 (0, ri_ent [(0, 9, 9)] 0, [], hM, 0, 0)) = true := by decide +kernel
theorem bX_about_11 : ri_chkR (0, 0, 0) (ri_run ([], []) rD mt (999, 0) 27 20 53 (0, ri_ent [(0, 10, 10)] 0, [], hX, 0, 0)) = true := by decide +kernel
theorem bM_about_11 : ri_chkR (0, 0, 0) (ri_run ([], []) rD mt (999, 0) 28 20 93 (0, ri_ent [(0, 10, 10)] 0, [], hM, 0, 0)) = true := by decide +kernel
theorem bX_about_12 : ri_chkR (0, 0, 0) (ri_run ([], []) rD mt (999, 0) 27 20 53 (0, ri_ent [(0, 11, 11)] 0, [], hX, 0, 0)) = true := by decide +kernel
theorem bM_about_12 : ri_chkR (0, 0, 0) (ri_run ([], []) rD mt (999, 0) 28 20 93 (0, ri_ent [(0, 11, 11)] 0, [], hM, 0, 0)) = true := by decide +kernel
theorem bX_about_13 : ri_chkR (0, 0, 0) (ri_run ([], []) rD mt (999, 0) 27 20 53 (0, ri_ent [(0, 12, 12)] 0, [], hX, 0, 0)) = true := by decide +kernel
theorem bM_about_13 : ri_chkR (0, 0, 0) (ri_run ([], []) rD mt (999, 0) 25 20 93 (0, ri_ent [(0, 12, 12)] 0, [], hM, 0, 0)) = true := by decide +kernel
theorem bX_about_14 : ri_chkR (0, (-1), (-1)) (ri_run ([], []) rD mt (999, 0) 26 20 53 (0, ri_ent [(0, 13, 13)] 0, [], hX, 0, 0)) = true := by decide +kernel
theorem bM_about_14 : ri_chkR (0, (-1), (-1)) (ri_run ([], []) rD mt (999, 0) 25 20 93 (0, ri_ent [(0, 13, 13)] 0, [], hM, 0, 0)) = true := by decide +kernel
theorem bX_about_15 : ri_chkR (0, (-1), (-1)) (ri_run ([], []) rD mt (999, 0) 24 20 53 (0, ri_ent [(0, 14, 2147483647)] 0, [], hX, 0, 0)) = true := by decide +kernel
theorem bM_about_15 : ri_chkR (0, (-1), (-1)) (ri_run ([], []) rD mt (999, 0) 24 20 93 (0, ri_ent [(0, 14, 2147483647)] 0, [], hM, 0, 0)) = true := by decide +kernel
theorem ag_about (a1 : Int32) : ri_agree 53 93 [a1] := by
  have b1 := ri_i32 a1
  unfold ri_lo ri_hi at b1
  rcases (show ((-2147483648) ≤ a1.toInt ∧ a1.toInt ≤ (-1)) ∨ (0 ≤ a1.toInt ∧ a1.toInt ≤ 0) ∨ (1 ≤ a1.toInt ∧ a1.toInt ≤ 1) ∨ (2 ≤ a1.toInt ∧ a1.toInt ≤ 2) ∨ (3 ≤ a1.toInt ∧ a1.toInt ≤ 3) ∨ (4 ≤ a1.toInt ∧ a1.toInt ≤ 4) ∨ (5 ≤ a1.toInt ∧ a1.toInt ≤ 5) ∨ (6 ≤ a1.toInt ∧ a1.toInt ≤ 6) ∨ (7 ≤ a1.toInt ∧ a1.toInt ≤ 7) ∨ (8 ≤ a1.toInt ∧ a1.toInt ≤ 8) ∨ (9 ≤ a1.toInt ∧ a1.toInt ≤ 9) ∨ (10 ≤ a1.toInt ∧ a1.toInt ≤ 10) ∨ (11 ≤ a1.toInt ∧ a1.toInt ≤ 11) ∨ (12 ≤ a1.toInt ∧ a1.toInt ≤ 12) ∨ (13 ≤ a1.toInt ∧ a1.toInt ≤ 13) ∨ (14 ≤ a1.toInt ∧ a1.toInt ≤ 2147483647) by omega) with h | h | h | h | h | h | h | h | h | h | h | h | h | h | h | h
  · exact ri_agree_of (xs := [(0, (-2147483648), (-1))]) (c := (-1)) (z := (-1)) ⟨ri_gI_0.mpr (by omega), trivial⟩ (by decide +kernel) bX_about_0 bM_about_0 (fun q hq => by rw [mT_53] at hq; cases hq; exact Nat.le_of_ble_eq_true rfl) (fun q hq => by rw [mT_93] at hq; cases hq; exact Nat.le_of_ble_eq_true rfl)
  · exact ri_agree_of (xs := [(0, 0, 0)]) (c := 0) (z := 0) ⟨ri_gI_0.mpr (by omega), trivial⟩ (by decide +kernel) bX_about_1 bM_about_1 (fun q hq => by rw [mT_53] at hq; cases hq; exact Nat.le_of_ble_eq_true rfl) (fun q hq => by rw [mT_93] at hq; cases hq; exact Nat.le_of_ble_eq_true rfl)
  · exact ri_agree_of (xs := [(0, 1, 1)]) (c := 0) (z := 0) ⟨ri_gI_0.mpr (by omega), trivial⟩ (by decide +kernel) bX_about_2 bM_about_2 (fun q hq => by rw [mT_53] at hq; cases hq; exact Nat.le_of_ble_eq_true rfl) (fun q hq => by rw [mT_93] at hq; cases hq; exact Nat.le_of_ble_eq_true rfl)
  · exact ri_agree_of (xs := [(0, 2, 2)]) (c := 0) (z := 0) ⟨ri_gI_0.mpr (by omega), trivial⟩ (by decide +kernel) bX_about_3 bM_about_3 (fun q hq => by rw [mT_53] at hq; cases hq; exact Nat.le_of_ble_eq_true rfl) (fun q hq => by rw [mT_93] at hq; cases hq; exact Nat.le_of_ble_eq_true rfl)
  · exact ri_agree_of (xs := [(0, 3, 3)]) (c := 0) (z := 0) ⟨ri_gI_0.mpr (by omega), trivial⟩ (by decide +kernel) bX_about_4 bM_about_4 (fun q hq => by rw [mT_53] at hq; cases hq; exact Nat.le_of_ble_eq_true rfl) (fun q hq => by rw [mT_93] at hq; cases hq; exact Nat.le_of_ble_eq_true rfl)
  · exact ri_agree_of (xs := [(0, 4, 4)]) (c := 0) (z := 0) ⟨ri_gI_0.mpr (by omega), trivial⟩ (by decide +kernel) bX_about_5 bM_about_5 (fun q hq => by rw [mT_53] at hq; cases hq; exact Nat.le_of_ble_eq_true rfl) (fun q hq => by rw [mT_93] at hq; cases hq; exact Nat.le_of_ble_eq_true rfl)
  · exact ri_agree_of (xs := [(0, 5, 5)]) (c := 0) (z := 0) ⟨ri_gI_0.mpr (by omega), trivial⟩ (by decide +kernel) bX_about_6 bM_about_6 (fun q hq => by rw [mT_53] at hq; cases hq; exact Nat.le_of_ble_eq_true rfl) (fun q hq => by rw [mT_93] at hq; cases hq; exact Nat.le_of_ble_eq_true rfl)
  · exact ri_agree_of (xs := [(0, 6, 6)]) (c := 0) (z := 0) ⟨ri_gI_0.mpr (by omega), trivial⟩ (by decide +kernel) bX_about_7 bM_about_7 (fun q hq => by rw [mT_53] at hq; cases hq; exact Nat.le_of_ble_eq_true rfl) (fun q hq => by rw [mT_93] at hq; cases hq; exact Nat.le_of_ble_eq_true rfl)
  · exact ri_agree_of (xs := [(0, 7, 7)]) (c := 1) (z := 1) ⟨ri_gI_0.mpr (by omega), trivial⟩ (by decide +kernel) bX_about_8 bM_about_8 (fun q hq => by rw [mT_53] at hq; cases hq; exact Nat.le_of_ble_eq_true rfl) (fun q hq => by rw [mT_93] at hq; cases hq; exact Nat.le_of_ble_eq_true rfl)
  · exact ri_agree_of (xs := [(0, 8, 8)]) (c := 200) (z := 200) ⟨ri_gI_0.mpr (by omega), trivial⟩ (by decide +kernel) bX_about_9 bM_about_9 (fun q hq => by rw [mT_53] at hq; cases hq; exact Nat.le_of_ble_eq_true rfl) (fun q hq => by rw [mT_93] at hq; cases hq; exact Nat.le_of_ble_eq_true rfl)
  · exact ri_agree_of (xs := [(0, 9, 9)]) (c := 0) (z := 0) ⟨ri_gI_0.mpr (by omega), trivial⟩ (by decide +kernel) bX_about_10 bM_about_10 (fun q hq => by rw [mT_53] at hq; cases hq; exact Nat.le_of_ble_eq_true rfl) (fun q hq => by rw [mT_93] at hq; cases hq; exact Nat.le_of_ble_eq_true rfl)
  · exact ri_agree_of (xs := [(0, 10, 10)]) (c := 0) (z := 0) ⟨ri_gI_0.mpr (by omega), trivial⟩ (by decide +kernel) bX_about_11 bM_about_11 (fun q hq => by rw [mT_53] at hq; cases hq; exact Nat.le_of_ble_eq_true rfl) (fun q hq => by rw [mT_93] at hq; cases hq; exact Nat.le_of_ble_eq_true rfl)
  · exact ri_agree_of (xs := [(0, 11, 11)]) (c := 0) (z := 0) ⟨ri_gI_0.mpr (by omega), trivial⟩ (by decide +kernel) bX_about_12 bM_about_12 (fun q hq => by rw [mT_53] at hq; cases hq; exact Nat.le_of_ble_eq_true rfl) (fun q hq => by rw [mT_93] at hq; cases hq; exact Nat.le_of_ble_eq_true rfl)
  · exact ri_agree_of (xs := [(0, 12, 12)]) (c := 0) (z := 0) ⟨ri_gI_0.mpr (by omega), trivial⟩ (by decide +kernel) bX_about_13 bM_about_13 (fun q hq => by rw [mT_53] at hq; cases hq; exact Nat.le_of_ble_eq_true rfl) (fun q hq => by rw [mT_93] at hq; cases hq; exact Nat.le_of_ble_eq_true rfl)
  · exact ri_agree_of (xs := [(0, 13, 13)]) (c := (-1)) (z := (-1)) ⟨ri_gI_0.mpr (by omega), trivial⟩ (by decide +kernel) bX_about_14 bM_about_14 (fun q hq => by rw [mT_53] at hq; cases hq; exact Nat.le_of_ble_eq_true rfl) (fun q hq => by rw [mT_93] at hq; cases hq; exact Nat.le_of_ble_eq_true rfl)
  · exact ri_agree_of (xs := [(0, 14, 2147483647)]) (c := (-1)) (z := (-1)) ⟨ri_gI_0.mpr (by omega), trivial⟩ (by decide +kernel) bX_about_15 bM_about_15 (fun q hq => by rw [mT_53] at hq; cases hq; exact Nat.le_of_ble_eq_true rfl) (fun q hq => by rw [mT_93] at hq; cases hq; exact Nat.le_of_ble_eq_true rfl)
