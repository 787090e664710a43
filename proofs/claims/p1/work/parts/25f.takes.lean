theorem bX_takes_0 : ri_chkR (0, (-1), (-1)) (ri_run ([], []) rD mt (999, 0) 427 20 88 (0, ri_ent [] 0, [], hX, 0, 0)) = true := by decide +kernel
theorem bM_takes_0 : ri_chkR (0, (-1), (-1)) (ri_run ([], []) rD mt (999, 0) 25 20 152 (0, ri_ent [] 2, [], hM, 0, 0)) = true := by decide +kernel
theorem ag_takes : ri_agree 88 152 [] := by
  exact ri_agree_of (xs := []) (c := (-1)) (z := (-1)) trivial (by decide +kernel) bX_takes_0 bM_takes_0 (fun q hq => by rw [mT_88] at hq; cases hq; exact Nat.le_of_ble_eq_true rfl) (fun q hq => by rw [mT_152] at hq; cases hq; exact Nat.le_of_ble_eq_true rfl)
