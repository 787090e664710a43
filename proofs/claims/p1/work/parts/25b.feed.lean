theorem bX_feed_0 : ri_chkR (0, 20, 20) (ri_run ([], []) rD mt (999, 0) 529 20 64 (0, ri_ent [(0, (-2147483648), 2147483647), (0, (-2147483648), 2147483647), (0, (-2147483648), 2147483647), (0, (-2147483648), 2147483647), (0, (-2147483648), 2147483647)] 0, [], hX, 0, 0)) = true := by decide +kernel
theorem bM_feed_0 : ri_chkR (0, 20, 20) (ri_run ([], []) rD mt (999, 0) 704 20 112 (0, ri_ent [(0, (-2147483648), 2147483647), (0, (-2147483648), 2147483647), (0, (-2147483648), 2147483647), (0, (-2147483648), 2147483647), (0, (-2147483648), 2147483647)] 2, [], hM, 0, 0)) = true := by decide +kernel
theorem ag_feed (a1 : Int32) (a2 : Int32) (a3 : Int32) (a4 : Int32) (a5 : Int32) : ri_agree 64 112 [a1, a2, a3, a4, a5] := by
  have b1 := ri_i32 a1
  unfold ri_lo ri_hi at b1
  have b2 := ri_i32 a2
  unfold ri_lo ri_hi at b2
  have b3 := ri_i32 a3
  unfold ri_lo ri_hi at b3
  have b4 := ri_i32 a4
  unfold ri_lo ri_hi at b4
  have b5 := ri_i32 a5
  unfold ri_lo ri_hi at b5
  exact ri_agree_of (xs := [(0, (-2147483648), 2147483647), (0, (-2147483648), 2147483647), (0, (-2147483648), 2147483647), (0, (-2147483648), 2147483647), (0, (-2147483648), 2147483647)]) (c := 20) (z := 20) ⟨ri_gI_0.mpr (by omega), ⟨ri_gI_0.mpr (by omega), ⟨ri_gI_0.mpr (by omega), ⟨ri_gI_0.mpr (by omega), ⟨ri_gI_0.mpr (by omega), trivial⟩⟩⟩⟩⟩ (by decide +kernel) bX_feed_0 bM_feed_0 (fun q hq => by rw [mT_64] at hq; cases hq; exact Nat.le_of_ble_eq_true rfl) (fun q hq => by rw [mT_112] at hq; cases hq; exact Nat.le_of_ble_eq_true rfl)
