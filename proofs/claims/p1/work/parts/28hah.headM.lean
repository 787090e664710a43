theorem bM_head_h7 : ri_chkR (0, -1, -1) (ri_run ([], []) rD mt (999, 0) 32237 20 120 (0, ri_ent [(0, 191, 208)] 1, [], hM, 0, 0)) = true := by decide +kernel
