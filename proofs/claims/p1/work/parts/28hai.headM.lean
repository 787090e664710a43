theorem bM_head_h8 : ri_chkR (0, -1, -1) (ri_run ([], []) rD mt (999, 0) 31993 20 120 (0, ri_ent [(0, 209, 224)] 1, [], hM, 0, 0)) = true := by decide +kernel
