theorem bX_head_1 : ri_chkR (0, (-1), (-1)) (ri_run ([], []) rD mt (999, 0) 31932 20 67 (0, ri_ent [(0, 1, 300)] 0, [], hX, 0, 0)) = true := by decide +kernel
