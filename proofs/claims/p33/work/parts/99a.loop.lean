theorem lw_sw (v : Int32) : (v &&& 63).toInt < 37 ∧ 0 ≤ (v &&& 63).toInt ∨ 36 < (v &&& 63).toInt := by
  have h : 0 ≤ (v &&& 63).toInt := by
    have e : (v &&& 63).toInt = ((v &&& 63).toBitVec.toNat : Int) := by
      have hlt : (v &&& 63).toBitVec.toNat ≤ 63 := by
        show (v.toBitVec &&& (63 : Int32).toBitVec).toNat ≤ 63
        rw [BitVec.toNat_and]
        exact Nat.and_le_right
      show (v &&& 63).toBitVec.toInt = _
      rw [BitVec.toInt_eq_toNat_of_lt (by omega)]
    omega
  omega
section LW2
variable {p : Program} {l : Launch} {e : Env} {s : State} {m : MethodId} {below : List Frame} {meth : Method} {c : Code} {b L : Nat} {xs : Nat → Int32} {D : va_G} {κ : Nat → ClassId} {adX adM : List Nat}
theorem lw_i6 {i : Int32} (h0 : 0 ≤ i.toInt) (h1 : i.toInt ≤ 3078) {j : Int32} (hj : 0 ≤ j.toInt ∧ j.toInt ≤ 6) : (i + j).toInt = i.toInt + j.toInt := by
  rw [Int32.toInt_add]
  exact Int.bmod_eq_of_le (by omega) (by omega)
theorem lw_len (hL : L ≤ 3072) : (Int32.ofNat L - 6).toInt = (L : Int) - 6 := by
  have e : (Int32.ofNat L).toInt = (L : Int) := Int32.toInt_ofNat_of_lt (by omega)
  rw [Int32.toInt_sub, e, show (6 : Int32).toInt = 6 from by decide]
  exact Int.bmod_eq_of_le (by omega) (by omega)
theorem law_loop (C0 : lw_At p s m meth c b L xs) (hL : L ≤ 3072) (hK : va_K D vwCl (ri_tys κ) s) (hN : ri_N s) (hZ : rc_Z D [] s) (hiX : ∀ (i j q : Nat), adX[i]? = some q → adX[j]? = some q → i = j) (hiM : ∀ (i j q : Nat), adM[i]? = some q → adM[j]? = some q → i = j) (hap : ∀ (i j q : Nat), adX[i]? = some q → adM[j]? = some q → False) {qx qm : Nat} (hqx : adX[0]? = some qx) (hqm : adM[0]? = some qm) : ∀ (n : Nat) (i : Int32), 0 ≤ i.toInt → i.toInt ≤ 3078 → 3078 - i.toInt < (n : Int) → ∀ {wsX wsM : va_W} {H : Heap} {locs : List Loc}, lw_LS s κ D adX adM wsX wsM H locs → ∀ {ls : Array Slot}, lv_has ls 4 [(0, .ref b), (1, .ref qx), (2, .ref qm), (3, .int i)] → W p l e room_1 s m #[Value.ref b] below meth c H locs 211 15503 (lw_Z below #[Value.ref b] s) (F0 m 18 ls [])
  | 0, i, h0, h1, h2, _, _, _, _, _, _, _ => by
    exfalso
    have h2 : 3078 - i.toInt < 0 := h2
    omega
  | n + 1, i, h0, h1, h2, wsX, wsM, H, locs, hLS, ls, hl => by
    obtain ⟨hx, hb, hr, hml, hown, hts0, hX, hbl, hlocks, hgv⟩ := id C0
    have hbA : ¬ (fun q : Nat => s.heap.size ≤ q) b := Nat.not_le.mpr hbl
    have hS5 := hLS.2.2.2.2.2.2.2
    refine lv_iload_n hx hb dL_law_18 rfl (lv_at hl 3 rfl) ?_
    refine lv_aload_n hx hb dL_law_19 rfl (lv_at hl 0 rfl) ?_
    refine va_slen hx hb hX hbl hbA hS5 dL_law_20 ?_
    refine lv_bipush (v := 6) hx hb dL_law_21 (by decide +kernel) ?_
    refine lv_isub hx hb dL_law_23 ?_
    refine lv_icmp_gt (tgt := 1243) hx hb dL_law_24 (by decide) (fun _ => ?_) (fun hgt => ?_)
    · refine lv_iconst (v := 1) hx hb dL_law_1243 (by decide) ?_
      refine va_forget (fun q hq => hS5.2.2 q hq) ?_
      refine W.widen (k := 600000) (n := 7302250) (by decide) (by decide) ?_
      exact lw_ret hx hb hr hlocks dL_law_1244
    · have hle : i.toInt + 6 ≤ (L : Int) := by
        have h3 : ¬ (Int32.ofNat L - 6).toInt < i.toInt := fun g => hgt (Int32.lt_iff_toInt_lt.mpr g)
        rw [lw_len hL] at h3
        omega
      have hv0 : vp_in i L := (m_vpin h0 (by omega)).1
      have hv : ∀ j : Int32, 1 ≤ j.toInt ∧ j.toInt ≤ 5 → vp_in (i + j) L := fun j hj => by
        have e1 := lw_i6 h0 h1 (j := j) ⟨by omega, by omega⟩
        exact (m_vpin (by omega) (by omega)).1
      have kk : ∀ (wsX1 wsM1 : va_W) (H1 : Heap) (locs1 : List Loc), lw_LS s κ D adX adM wsX1 wsM1 H1 locs1 → W p l e room_1 s m #[Value.ref b] below meth c H1 locs1 211 15503 (lw_Z below #[Value.ref b] s) (F0 m 1237 ls []) := fun wsX1 wsM1 H1 locs1 hLS1 => by
        refine lv_iinc (v := i + 6) (lv' := [(3, .int (i + 6)), (0, .ref b), (1, .ref qx), (2, .ref qm)]) hx hb dL_law_1237 hl (k := 3) rfl (by rw [show Int32.ofInt 6 = 6 from by decide]) (by decide) rfl (fun ls1 hl1 => ?_)
        refine lv_goto (tgt := 18) hx hb dL_law_1240 (by decide) ?_
        have hl2 := lv_sub hl1 (l' := [(0, .ref b), (1, .ref qx), (2, .ref qm), (3, .int (i + 6))]) [1, 2, 3, 0] rfl
        have e6 : (i + 6).toInt = i.toInt + 6 := lw_i6 h0 h1 (j := 6) (by decide)
        refine law_loop C0 hL hK hN hZ hiX hiM hap hqx hqm n (i + 6) (by omega) (by omega) ?_ hLS1 hl2
        have h2 : 3078 - i.toInt < (n : Int) + 1 := h2
        omega
      refine lv_aload_n hx hb dL_law_27 rfl (lv_at hl 0 rfl) ?_
      refine lv_iload_n hx hb dL_law_28 rfl (lv_at hl 3 rfl) ?_
      refine va_sld hx hb hX hbl hbA hS5 hv0 dL_law_29 ?_
      refine lv_bipush (v := 63) hx hb dL_law_30 (by decide +kernel) ?_
      refine lv_iand hx hb dL_law_32 ?_
      generalize xs i.toNatClampNeg = z
      rcases lw_sw z with hsw | hsw
      · rcases (show (z &&& 63).toInt = 0 ∨ (z &&& 63).toInt = 1 ∨ (z &&& 63).toInt = 2 ∨ (z &&& 63).toInt = 3 ∨ (z &&& 63).toInt = 4 ∨ (z &&& 63).toInt = 5 ∨ (z &&& 63).toInt = 6 ∨ (z &&& 63).toInt = 7 ∨ (z &&& 63).toInt = 8 ∨ (z &&& 63).toInt = 9 ∨ (z &&& 63).toInt = 10 ∨ (z &&& 63).toInt = 11 ∨ (z &&& 63).toInt = 12 ∨ (z &&& 63).toInt = 13 ∨ (z &&& 63).toInt = 14 ∨ (z &&& 63).toInt = 15 ∨ (z &&& 63).toInt = 16 ∨ (z &&& 63).toInt = 17 ∨ (z &&& 63).toInt = 18 ∨ (z &&& 63).toInt = 19 ∨ (z &&& 63).toInt = 20 ∨ (z &&& 63).toInt = 21 ∨ (z &&& 63).toInt = 22 ∨ (z &&& 63).toInt = 23 ∨ (z &&& 63).toInt = 24 ∨ (z &&& 63).toInt = 25 ∨ (z &&& 63).toInt = 26 ∨ (z &&& 63).toInt = 27 ∨ (z &&& 63).toInt = 28 ∨ (z &&& 63).toInt = 29 ∨ (z &&& 63).toInt = 30 ∨ (z &&& 63).toInt = 31 ∨ (z &&& 63).toInt = 32 ∨ (z &&& 63).toInt = 33 ∨ (z &&& 63).toInt = 34 ∨ (z &&& 63).toInt = 35 ∨ (z &&& 63).toInt = 36 by omega) with hk | hk | hk | hk | hk | hk | hk | hk | hk | hk | hk | hk | hk | hk | hk | hk | hk | hk | hk | hk | hk | hk | hk | hk | hk | hk | hk | hk | hk | hk | hk | hk | hk | hk | hk | hk | hk
        · refine lv_tableIn (off := 163) (tgt := 196) hx hb dL_law_33 (by omega) (by omega) (by rw [hk]; rfl) (by decide) ?_
          exact law_feed C0 hK hN hZ hiX hiM hap hqx hqm hv hLS hl kk
        · refine lv_tableIn (off := 226) (tgt := 259) hx hb dL_law_33 (by omega) (by omega) (by rw [hk]; rfl) (by decide) ?_
          exact law_end C0 hK hN hZ hiX hiM hap hqx hqm hv hLS hl kk
        · refine lv_tableIn (off := 249) (tgt := 282) hx hb dL_law_33 (by omega) (by omega) (by rw [hk]; rfl) (by decide) ?_
          exact law_street C0 hK hN hZ hiX hiM hap hqx hqm hv hLS hl kk
        · refine lv_tableIn (off := 262) (tgt := 295) hx hb dL_law_33 (by omega) (by omega) (by rw [hk]; rfl) (by decide) ?_
          exact law_fault C0 hK hN hZ hiX hiM hap hqx hqm hv hLS hl kk
        · refine lv_tableIn (off := 285) (tgt := 318) hx hb dL_law_33 (by omega) (by omega) (by rw [hk]; rfl) (by decide) ?_
          exact law_run C0 hK hN hZ hiX hiM hap hqx hqm hv hLS hl kk
        · refine lv_tableIn (off := 308) (tgt := 341) hx hb dL_law_33 (by omega) (by omega) (by rw [hk]; rfl) (by decide) ?_
          exact law_car C0 hK hN hZ hiX hiM hap hqx hqm hv hLS hl kk
        · refine lv_tableIn (off := 341) (tgt := 374) hx hb dL_law_33 (by omega) (by omega) (by rw [hk]; rfl) (by decide) ?_
          exact law_speed C0 hK hN hZ hiX hiM hap hqx hqm hv hLS hl kk
        · refine lv_tableIn (off := 364) (tgt := 397) hx hb dL_law_33 (by omega) (by omega) (by rw [hk]; rfl) (by decide) ?_
          exact law_rope C0 hK hN hZ hiX hiM hap hqx hqm hv hLS hl kk
        · refine lv_tableIn (off := 397) (tgt := 430) hx hb dL_law_33 (by omega) (by omega) (by rw [hk]; rfl) (by decide) ?_
          exact law_count C0 hK hN hZ hiX hiM hap hqx hqm hv hLS hl kk
        · refine lv_tableIn (off := 420) (tgt := 453) hx hb dL_law_33 (by omega) (by omega) (by rw [hk]; rfl) (by decide) ?_
          exact law_strand C0 hK hN hZ hiX hiM hap hqx hqm hv hLS hl kk
        · refine lv_tableIn (off := 453) (tgt := 486) hx hb dL_law_33 (by omega) (by omega) (by rw [hk]; rfl) (by decide) ?_
          exact law_strandNow C0 hK hN hZ hiX hiM hap hqx hqm hv hLS hl kk
        · refine lv_tableIn (off := 476) (tgt := 509) hx hb dL_law_33 (by omega) (by omega) (by rw [hk]; rfl) (by decide) ?_
          exact law_free C0 hK hN hZ hiX hiM hap hqx hqm hv hLS hl kk
        · refine lv_tableIn (off := 499) (tgt := 532) hx hb dL_law_33 (by omega) (by omega) (by rw [hk]; rfl) (by decide) ?_
          exact law_splice C0 hK hN hZ hiX hiM hap hqx hqm hv hLS hl kk
        · refine lv_tableIn (off := 532) (tgt := 565) hx hb dL_law_33 (by omega) (by omega) (by rw [hk]; rfl) (by decide) ?_
          exact law_due C0 hK hN hZ hiX hiM hap hqx hqm hv hLS hl kk
        · refine lv_tableIn (off := 555) (tgt := 588) hx hb dL_law_33 (by omega) (by omega) (by rw [hk]; rfl) (by decide) ?_
          exact law_cost C0 hK hN hZ hiX hiM hap hqx hqm hv hLS hl kk
        · refine lv_tableIn (off := 588) (tgt := 621) hx hb dL_law_33 (by omega) (by omega) (by rw [hk]; rfl) (by decide) ?_
          exact law_halt C0 hK hN hZ hiX hiM hap hqx hqm hv hLS hl kk
        · refine lv_tableIn (off := 611) (tgt := 644) hx hb dL_law_33 (by omega) (by omega) (by rw [hk]; rfl) (by decide) ?_
          exact law_rolls C0 hK hN hZ hiX hiM hap hqx hqm hv hLS hl kk
        · refine lv_tableIn (off := 624) (tgt := 657) hx hb dL_law_33 (by omega) (by omega) (by rw [hk]; rfl) (by decide) ?_
          exact law_trips C0 hK hN hZ hiX hiM hap hqx hqm hv hLS hl kk
        · refine lv_tableIn (off := 647) (tgt := 680) hx hb dL_law_33 (by omega) (by omega) (by rw [hk]; rfl) (by decide) ?_
          exact law_asks C0 hK hN hZ hiX hiM hap hqx hqm hv hLS hl kk
        · refine lv_tableIn (off := 680) (tgt := 713) hx hb dL_law_33 (by omega) (by omega) (by rw [hk]; rfl) (by decide) ?_
          exact law_event C0 hK hN hZ hiX hiM hap hqx hqm hv hLS hl kk
        · refine lv_tableIn (off := 713) (tgt := 746) hx hb dL_law_33 (by omega) (by omega) (by rw [hk]; rfl) (by decide) ?_
          exact law_coasts C0 hK hN hZ hiX hiM hap hqx hqm hv hLS hl kk
        · refine lv_tableIn (off := 756) (tgt := 789) hx hb dL_law_33 (by omega) (by omega) (by rw [hk]; rfl) (by decide) ?_
          exact law_need C0 hK hN hZ hiX hiM hap hqx hqm hv hLS hl kk
        · refine lv_tableIn (off := 779) (tgt := 812) hx hb dL_law_33 (by omega) (by omega) (by rw [hk]; rfl) (by decide) ?_
          exact law_takes C0 hK hN hZ hiX hiM hap hqx hqm hv hLS hl kk
        · refine lv_tableIn (off := 792) (tgt := 825) hx hb dL_law_33 (by omega) (by omega) (by rw [hk]; rfl) (by decide) ?_
          exact law_head C0 hK hN hZ hiX hiM hap hqx hqm hv hLS hl kk
        · refine lv_tableIn (off := 815) (tgt := 848) hx hb dL_law_33 (by omega) (by omega) (by rw [hk]; rfl) (by decide) ?_
          exact law_spread C0 hK hN hZ hiX hiM hap hqx hqm hv hLS hl kk
        · refine lv_tableIn (off := 848) (tgt := 881) hx hb dL_law_33 (by omega) (by omega) (by rw [hk]; rfl) (by decide) ?_
          exact law_power C0 hK hN hZ hiX hiM hap hqx hqm hv hLS hl kk
        · refine lv_tableIn (off := 881) (tgt := 914) hx hb dL_law_33 (by omega) (by omega) (by rw [hk]; rfl) (by decide) ?_
          exact law_runaway C0 hK hN hZ hiX hiM hap hqx hqm hv hLS hl kk
        · refine lv_tableIn (off := 914) (tgt := 947) hx hb dL_law_33 (by omega) (by omega) (by rw [hk]; rfl) (by decide) ?_
          exact law_order C0 hK hN hZ hiX hiM hap hqx hqm hv hLS hl kk
        · refine lv_tableIn (off := 937) (tgt := 970) hx hb dL_law_33 (by omega) (by omega) (by rw [hk]; rfl) (by decide) ?_
          exact law_where C0 hK hN hZ hiX hiM hap hqx hqm hv hLS hl kk
        · refine lv_tableIn (off := 980) (tgt := 1013) hx hb dL_law_33 (by omega) (by omega) (by rw [hk]; rfl) (by decide) ?_
          exact law_log C0 hK hN hZ hiX hiM hap hqx hqm hv hLS hl kk
        · refine lv_tableIn (off := 1023) (tgt := 1056) hx hb dL_law_33 (by omega) (by omega) (by rw [hk]; rfl) (by decide) ?_
          exact law_untell C0 hK hN hZ hiX hiM hap hqx hqm hv hLS hl kk
        · refine lv_tableIn (off := 1046) (tgt := 1079) hx hb dL_law_33 (by omega) (by omega) (by rw [hk]; rfl) (by decide) ?_
          exact law_later C0 hK hN hZ hiX hiM hap hqx hqm hv hLS hl kk
        · refine lv_tableIn (off := 1069) (tgt := 1102) hx hb dL_law_33 (by omega) (by omega) (by rw [hk]; rfl) (by decide) ?_
          exact law_judge C0 hK hN hZ hiX hiM hap hqx hqm hv hLS hl kk
        · refine lv_tableIn (off := 1102) (tgt := 1135) hx hb dL_law_33 (by omega) (by omega) (by rw [hk]; rfl) (by decide) ?_
          exact law_logged C0 hK hN hZ hiX hiM hap hqx hqm hv hLS hl kk
        · refine lv_tableIn (off := 1135) (tgt := 1168) hx hb dL_law_33 (by omega) (by omega) (by rw [hk]; rfl) (by decide) ?_
          exact law_image C0 hK hN hZ hiX hiM hap hqx hqm hv hLS hl kk
        · refine lv_tableIn (off := 1158) (tgt := 1191) hx hb dL_law_33 (by omega) (by omega) (by rw [hk]; rfl) (by decide) ?_
          exact law_back C0 hK hN hZ hiX hiM hap hqx hqm hv hLS hl kk
        · refine lv_tableIn (off := 1181) (tgt := 1214) hx hb dL_law_33 (by omega) (by omega) (by rw [hk]; rfl) (by decide) ?_
          exact law_about C0 hK hN hZ hiX hiM hap hqx hqm hv hLS hl kk
      · refine lv_tableOut (tgt := 1237) hx hb dL_law_33 (Or.inr hsw) (by decide) ?_
        exact kk wsX wsM H locs hLS
end LW2
