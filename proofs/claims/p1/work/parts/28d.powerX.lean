theorem bX_power_4 : ri_chkR (0, 0, 0) (ri_run ([], []) rD mt (999, 0) 34637 20 76 (0, ri_ent [(0, 1, 300), (0, 0, 1)] 0, [], hX, 0, 0)) = true := by decide +kernel
