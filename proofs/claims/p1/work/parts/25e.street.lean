theorem bX_street_0 : ri_chkR (0, 0, 0) (ri_run ([], []) rD mt (999, 0) 4669 20 87 (0, ri_ent [] 3, [], hX, 0, 0)) = true := by decide +kernel
theorem bM_street_0 : ri_chkR (0, 0, 0) (ri_run ([], []) rD mt (999, 0) 5617 20 151 (0, ri_ent [] 1, [], hM, 0, 0)) = true := by decide +kernel
theorem ag_street : ri_agree 87 151 [] := by
  exact ri_agree_of (xs := []) (c := 0) (z := 0) trivial (by decide +kernel) bX_street_0 bM_street_0 (fun q hq => by rw [mT_87] at hq; cases hq; exact Nat.le_of_ble_eq_true rfl) (fun q hq => by rw [mT_151] at hq; cases hq; exact Nat.le_of_ble_eq_true rfl)
