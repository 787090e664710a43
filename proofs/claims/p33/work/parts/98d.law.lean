section LW
variable {p : Program} {l : Launch} {e : Env} {s : State} {m : MethodId} {below : List Frame} {meth : Method} {c : Code} {b L : Nat} {xs : Nat → Int32} {D : va_G} {κ : Nat → ClassId} {adX adM : List Nat}
theorem law_strandNow (C0 : lw_At p s m meth c b L xs) (hK : va_K D vwCl (ri_tys κ) s) (hN : ri_N s) (hZ : rc_Z D [] s) (hiX : ∀ (i j q : Nat), adX[i]? = some q → adX[j]? = some q → i = j) (hiM : ∀ (i j q : Nat), adM[i]? = some q → adM[j]? = some q → i = j) (hap : ∀ (i j q : Nat), adX[i]? = some q → adM[j]? = some q → False) {qx qm : Nat} (hqx : adX[0]? = some qx) (hqm : adM[0]? = some qm) {i : Int32} (hv : ∀ j : Int32, 1 ≤ j.toInt ∧ j.toInt ≤ 5 → vp_in (i + j) L) {wsX wsM : va_W} {H : Heap} {locs : List Loc} (hLS : lw_LS s κ D adX adM wsX wsM H locs) {ls : Array Slot} (hl : lv_has ls 4 [(0, .ref b), (1, .ref qx), (2, .ref qm), (3, .int i)]) (kk : ∀ (wsX1 wsM1 : va_W) (H1 : Heap) (locs1 : List Loc), lw_LS s κ D adX adM wsX1 wsM1 H1 locs1 → W p l e room_1 s m #[Value.ref b] below meth c H1 locs1 211 15503 (lw_Z below #[Value.ref b] s) (F0 m 1237 ls [])) : W p l e room_1 s m #[Value.ref b] below meth c H locs 211 15503 (lw_Z below #[Value.ref b] s) (F0 m 486 ls []) := by
  obtain ⟨hx, hb, hr, hml, hown, hts0, hX, hbl, hlocks, hgv⟩ := id C0
  have hbA : ¬ (fun q : Nat => s.heap.size ≤ q) b := Nat.not_le.mpr hbl
  obtain ⟨s1, s2, s3, s4, s5, s6, s7, s8⟩ := hLS
  obtain ⟨vX, eX⟩ := xI_cell s1 hqx
  obtain ⟨vM, eM⟩ := mI_cell s2 hqm
  refine lv_aload_n hx hb dL_law_486 rfl (lv_at hl 1 rfl) ?_
  refine lv_aload_n hx hb dL_law_487 rfl (lv_at hl 0 rfl) ?_
  refine lv_iload_n hx hb dL_law_488 rfl (lv_at hl 3 rfl) ?_
  refine lv_iconst (v := 1) hx hb dL_law_489 (by decide) ?_
  refine lv_iadd hx hb dL_law_490 ?_
  refine va_sld hx hb hX hbl hbA s8 (hv 1 (by decide)) dL_law_491 ?_
  refine lw_call (as := [.int (xs ((i + 1).toNatClampNeg))]) (rest := []) (ci := 11) (T := TX11) (N := 11) C0 hK hN hZ (pX_strandNow hiX) mT_168 rfl cw_1131 cw_1132 cw_1133 yk_168 ⟨s1, qx, hqx, [xs ((i + 1).toNatClampNeg)], rfl, rfl⟩ eX s4 s6 s8 (by decide) hl.1 dL_law_492 (fun ov wsX1 H1 locs1 hQ hadX hP1 hD1 hk1 hS1 => ?_)
  have hPM1 := lw_kept s1.1 (mI_ad s2) s5 hap hk1
  obtain ⟨⟨z1, rfl⟩, t1, i1⟩ := hQ
  refine lv_pop hx hb dL_law_495 rfl ?_
  refine lv_aload_n hx hb dL_law_496 rfl (lv_at hl 2 rfl) ?_
  refine lv_aload_n hx hb dL_law_497 rfl (lv_at hl 0 rfl) ?_
  refine lv_iload_n hx hb dL_law_498 rfl (lv_at hl 3 rfl) ?_
  refine lv_iconst (v := 1) hx hb dL_law_499 (by decide) ?_
  refine lv_iadd hx hb dL_law_500 ?_
  refine va_sld hx hb hX hbl hbA hS1 (hv 1 (by decide)) dL_law_501 ?_
  refine lw_call (as := [.int (xs ((i + 1).toNatClampNeg))]) (rest := []) (ci := 12) (T := TX12) (N := 113) C0 hK hN hZ (pM_strandNow hiM) mT_281 rfl cw_2062 cw_2063 cw_2064 yk_281 ⟨s2, qm, hqm, [xs ((i + 1).toNatClampNeg)], rfl, rfl⟩ eM hPM1 s7 hS1 (by decide) hl.1 dL_law_502 (fun ov wsM1 H2 locs2 hQ hadM hP2 hD2 hk2 hS2 => ?_)
  have hPX2 := lw_kept (mI_ad s2) i1.1 hP1 (fun i j q h1 h2 => hap j i q h2 h1) hk2
  obtain ⟨⟨z2, rfl⟩, t2, i2⟩ := hQ
  refine lv_pop hx hb dL_law_505 rfl ?_
  refine lv_goto (tgt := 1237) hx hb dL_law_506 (by decide) ?_
  exact kk wsX1 wsM1 H2 locs2 ⟨i1, i2, by omega, hPX2, hP2, hD1, hD2, hS2⟩
theorem law_free (C0 : lw_At p s m meth c b L xs) (hK : va_K D vwCl (ri_tys κ) s) (hN : ri_N s) (hZ : rc_Z D [] s) (hiX : ∀ (i j q : Nat), adX[i]? = some q → adX[j]? = some q → i = j) (hiM : ∀ (i j q : Nat), adM[i]? = some q → adM[j]? = some q → i = j) (hap : ∀ (i j q : Nat), adX[i]? = some q → adM[j]? = some q → False) {qx qm : Nat} (hqx : adX[0]? = some qx) (hqm : adM[0]? = some qm) {i : Int32} (hv : ∀ j : Int32, 1 ≤ j.toInt ∧ j.toInt ≤ 5 → vp_in (i + j) L) {wsX wsM : va_W} {H : Heap} {locs : List Loc} (hLS : lw_LS s κ D adX adM wsX wsM H locs) {ls : Array Slot} (hl : lv_has ls 4 [(0, .ref b), (1, .ref qx), (2, .ref qm), (3, .int i)]) (kk : ∀ (wsX1 wsM1 : va_W) (H1 : Heap) (locs1 : List Loc), lw_LS s κ D adX adM wsX1 wsM1 H1 locs1 → W p l e room_1 s m #[Value.ref b] below meth c H1 locs1 211 15503 (lw_Z below #[Value.ref b] s) (F0 m 1237 ls [])) : W p l e room_1 s m #[Value.ref b] below meth c H locs 211 15503 (lw_Z below #[Value.ref b] s) (F0 m 509 ls []) := by
  obtain ⟨hx, hb, hr, hml, hown, hts0, hX, hbl, hlocks, hgv⟩ := id C0
  have hbA : ¬ (fun q : Nat => s.heap.size ≤ q) b := Nat.not_le.mpr hbl
  obtain ⟨s1, s2, s3, s4, s5, s6, s7, s8⟩ := hLS
  obtain ⟨vX, eX⟩ := xI_cell s1 hqx
  obtain ⟨vM, eM⟩ := mI_cell s2 hqm
  refine lv_aload_n hx hb dL_law_509 rfl (lv_at hl 1 rfl) ?_
  refine lv_aload_n hx hb dL_law_510 rfl (lv_at hl 0 rfl) ?_
  refine lv_iload_n hx hb dL_law_511 rfl (lv_at hl 3 rfl) ?_
  refine lv_iconst (v := 1) hx hb dL_law_512 (by decide) ?_
  refine lv_iadd hx hb dL_law_513 ?_
  refine va_sld hx hb hX hbl hbA s8 (hv 1 (by decide)) dL_law_514 ?_
  refine lw_call (as := [.int (xs ((i + 1).toNatClampNeg))]) (rest := []) (ci := 11) (T := TX11) (N := 11) C0 hK hN hZ (pX_free hiX) mT_147 rfl cw_1136 cw_1137 cw_1138 yk_147 ⟨s1, qx, hqx, [xs ((i + 1).toNatClampNeg)], rfl, rfl⟩ eX s4 s6 s8 (by decide) hl.1 dL_law_515 (fun ov wsX1 H1 locs1 hQ hadX hP1 hD1 hk1 hS1 => ?_)
  have hPM1 := lw_kept s1.1 (mI_ad s2) s5 hap hk1
  obtain ⟨⟨z1, rfl⟩, t1, i1⟩ := hQ
  refine lv_pop hx hb dL_law_518 rfl ?_
  refine lv_aload_n hx hb dL_law_519 rfl (lv_at hl 2 rfl) ?_
  refine lv_aload_n hx hb dL_law_520 rfl (lv_at hl 0 rfl) ?_
  refine lv_iload_n hx hb dL_law_521 rfl (lv_at hl 3 rfl) ?_
  refine lv_iconst (v := 1) hx hb dL_law_522 (by decide) ?_
  refine lv_iadd hx hb dL_law_523 ?_
  refine va_sld hx hb hX hbl hbA hS1 (hv 1 (by decide)) dL_law_524 ?_
  refine lw_call (as := [.int (xs ((i + 1).toNatClampNeg))]) (rest := []) (ci := 12) (T := TX12) (N := 113) C0 hK hN hZ (pM_free hiM) mT_207 rfl cw_2066 cw_2067 cw_2068 yk_207 ⟨s2, qm, hqm, [xs ((i + 1).toNatClampNeg)], rfl, rfl⟩ eM hPM1 s7 hS1 (by decide) hl.1 dL_law_525 (fun ov wsM1 H2 locs2 hQ hadM hP2 hD2 hk2 hS2 => ?_)
  have hPX2 := lw_kept (mI_ad s2) i1.1 hP1 (fun i j q h1 h2 => hap j i q h2 h1) hk2
  obtain ⟨⟨z2, rfl⟩, t2, i2⟩ := hQ
  refine lv_pop hx hb dL_law_528 rfl ?_
  refine lv_goto (tgt := 1237) hx hb dL_law_529 (by decide) ?_
  exact kk wsX1 wsM1 H2 locs2 ⟨i1, i2, by omega, hPX2, hP2, hD1, hD2, hS2⟩
theorem law_splice (C0 : lw_At p s m meth c b L xs) (hK : va_K D vwCl (ri_tys κ) s) (hN : ri_N s) (hZ : rc_Z D [] s) (hiX : ∀ (i j q : Nat), adX[i]? = some q → adX[j]? = some q → i = j) (hiM : ∀ (i j q : Nat), adM[i]? = some q → adM[j]? = some q → i = j) (hap : ∀ (i j q : Nat), adX[i]? = some q → adM[j]? = some q → False) {qx qm : Nat} (hqx : adX[0]? = some qx) (hqm : adM[0]? = some qm) {i : Int32} (hv : ∀ j : Int32, 1 ≤ j.toInt ∧ j.toInt ≤ 5 → vp_in (i + j) L) {wsX wsM : va_W} {H : Heap} {locs : List Loc} (hLS : lw_LS s κ D adX adM wsX wsM H locs) {ls : Array Slot} (hl : lv_has ls 4 [(0, .ref b), (1, .ref qx), (2, .ref qm), (3, .int i)]) (kk : ∀ (wsX1 wsM1 : va_W) (H1 : Heap) (locs1 : List Loc), lw_LS s κ D adX adM wsX1 wsM1 H1 locs1 → W p l e room_1 s m #[Value.ref b] below meth c H1 locs1 211 15503 (lw_Z below #[Value.ref b] s) (F0 m 1237 ls [])) : W p l e room_1 s m #[Value.ref b] below meth c H locs 211 15503 (lw_Z below #[Value.ref b] s) (F0 m 532 ls []) := by
  obtain ⟨hx, hb, hr, hml, hown, hts0, hX, hbl, hlocks, hgv⟩ := id C0
  have hbA : ¬ (fun q : Nat => s.heap.size ≤ q) b := Nat.not_le.mpr hbl
  obtain ⟨s1, s2, s3, s4, s5, s6, s7, s8⟩ := hLS
  obtain ⟨vX, eX⟩ := xI_cell s1 hqx
  obtain ⟨vM, eM⟩ := mI_cell s2 hqm
  refine lv_aload_n hx hb dL_law_532 rfl (lv_at hl 1 rfl) ?_
  refine lv_aload_n hx hb dL_law_533 rfl (lv_at hl 0 rfl) ?_
  refine lv_iload_n hx hb dL_law_534 rfl (lv_at hl 3 rfl) ?_
  refine lv_iconst (v := 1) hx hb dL_law_535 (by decide) ?_
  refine lv_iadd hx hb dL_law_536 ?_
  refine va_sld hx hb hX hbl hbA s8 (hv 1 (by decide)) dL_law_537 ?_
  refine lv_aload_n hx hb dL_law_538 rfl (lv_at hl 0 rfl) ?_
  refine lv_iload_n hx hb dL_law_539 rfl (lv_at hl 3 rfl) ?_
  refine lv_iconst (v := 2) hx hb dL_law_540 (by decide) ?_
  refine lv_iadd hx hb dL_law_541 ?_
  refine va_sld hx hb hX hbl hbA s8 (hv 2 (by decide)) dL_law_542 ?_
  refine lw_call (as := [.int (xs ((i + 1).toNatClampNeg)), .int (xs ((i + 2).toNatClampNeg))]) (rest := []) (ci := 11) (T := TX11) (N := 11) C0 hK hN hZ (pX_splice hiX) mT_165 rfl cw_1140 cw_1141 cw_1142 yk_165 ⟨s1, qx, hqx, [xs ((i + 1).toNatClampNeg), xs ((i + 2).toNatClampNeg)], rfl, rfl⟩ eX s4 s6 s8 (by decide) hl.1 dL_law_543 (fun ov wsX1 H1 locs1 hQ hadX hP1 hD1 hk1 hS1 => ?_)
  have hPM1 := lw_kept s1.1 (mI_ad s2) s5 hap hk1
  obtain ⟨⟨z1, rfl⟩, t1, i1⟩ := hQ
  refine lv_pop hx hb dL_law_546 rfl ?_
  refine lv_aload_n hx hb dL_law_547 rfl (lv_at hl 2 rfl) ?_
  refine lv_aload_n hx hb dL_law_548 rfl (lv_at hl 0 rfl) ?_
  refine lv_iload_n hx hb dL_law_549 rfl (lv_at hl 3 rfl) ?_
  refine lv_iconst (v := 1) hx hb dL_law_550 (by decide) ?_
  refine lv_iadd hx hb dL_law_551 ?_
  refine va_sld hx hb hX hbl hbA hS1 (hv 1 (by decide)) dL_law_552 ?_
  refine lv_aload_n hx hb dL_law_553 rfl (lv_at hl 0 rfl) ?_
  refine lv_iload_n hx hb dL_law_554 rfl (lv_at hl 3 rfl) ?_
  refine lv_iconst (v := 2) hx hb dL_law_555 (by decide) ?_
  refine lv_iadd hx hb dL_law_556 ?_
  refine va_sld hx hb hX hbl hbA hS1 (hv 2 (by decide)) dL_law_557 ?_
  refine lw_call (as := [.int (xs ((i + 1).toNatClampNeg)), .int (xs ((i + 2).toNatClampNeg))]) (rest := []) (ci := 12) (T := TX12) (N := 113) C0 hK hN hZ (pM_splice hiM) mT_278 rfl cw_2070 cw_2071 cw_2072 yk_278 ⟨s2, qm, hqm, [xs ((i + 1).toNatClampNeg), xs ((i + 2).toNatClampNeg)], rfl, rfl⟩ eM hPM1 s7 hS1 (by decide) hl.1 dL_law_558 (fun ov wsM1 H2 locs2 hQ hadM hP2 hD2 hk2 hS2 => ?_)
  have hPX2 := lw_kept (mI_ad s2) i1.1 hP1 (fun i j q h1 h2 => hap j i q h2 h1) hk2
  obtain ⟨⟨z2, rfl⟩, t2, i2⟩ := hQ
  refine lv_pop hx hb dL_law_561 rfl ?_
  refine lv_goto (tgt := 1237) hx hb dL_law_562 (by decide) ?_
  exact kk wsX1 wsM1 H2 locs2 ⟨i1, i2, by omega, hPX2, hP2, hD1, hD2, hS2⟩
theorem law_due (C0 : lw_At p s m meth c b L xs) (hK : va_K D vwCl (ri_tys κ) s) (hN : ri_N s) (hZ : rc_Z D [] s) (hiX : ∀ (i j q : Nat), adX[i]? = some q → adX[j]? = some q → i = j) (hiM : ∀ (i j q : Nat), adM[i]? = some q → adM[j]? = some q → i = j) (hap : ∀ (i j q : Nat), adX[i]? = some q → adM[j]? = some q → False) {qx qm : Nat} (hqx : adX[0]? = some qx) (hqm : adM[0]? = some qm) {i : Int32} (hv : ∀ j : Int32, 1 ≤ j.toInt ∧ j.toInt ≤ 5 → vp_in (i + j) L) {wsX wsM : va_W} {H : Heap} {locs : List Loc} (hLS : lw_LS s κ D adX adM wsX wsM H locs) {ls : Array Slot} (hl : lv_has ls 4 [(0, .ref b), (1, .ref qx), (2, .ref qm), (3, .int i)]) (kk : ∀ (wsX1 wsM1 : va_W) (H1 : Heap) (locs1 : List Loc), lw_LS s κ D adX adM wsX1 wsM1 H1 locs1 → W p l e room_1 s m #[Value.ref b] below meth c H1 locs1 211 15503 (lw_Z below #[Value.ref b] s) (F0 m 1237 ls [])) : W p l e room_1 s m #[Value.ref b] below meth c H locs 211 15503 (lw_Z below #[Value.ref b] s) (F0 m 565 ls []) := by
  obtain ⟨hx, hb, hr, hml, hown, hts0, hX, hbl, hlocks, hgv⟩ := id C0
  have hbA : ¬ (fun q : Nat => s.heap.size ≤ q) b := Nat.not_le.mpr hbl
  obtain ⟨s1, s2, s3, s4, s5, s6, s7, s8⟩ := hLS
  obtain ⟨vX, eX⟩ := xI_cell s1 hqx
  obtain ⟨vM, eM⟩ := mI_cell s2 hqm
  refine lv_aload_n hx hb dL_law_565 rfl (lv_at hl 1 rfl) ?_
  refine lv_aload_n hx hb dL_law_566 rfl (lv_at hl 0 rfl) ?_
  refine lv_iload_n hx hb dL_law_567 rfl (lv_at hl 3 rfl) ?_
  refine lv_iconst (v := 1) hx hb dL_law_568 (by decide) ?_
  refine lv_iadd hx hb dL_law_569 ?_
  refine va_sld hx hb hX hbl hbA s8 (hv 1 (by decide)) dL_law_570 ?_
  refine lw_call (as := [.int (xs ((i + 1).toNatClampNeg))]) (rest := []) (ci := 11) (T := TX11) (N := 11) C0 hK hN hZ (pX_due hiX) mT_142 rfl cw_1148 cw_1149 cw_1150 yk_142 ⟨s1, qx, hqx, [xs ((i + 1).toNatClampNeg)], rfl, rfl⟩ eX s4 s6 s8 (by decide) hl.1 dL_law_571 (fun ov wsX1 H1 locs1 hQ hadX hP1 hD1 hk1 hS1 => ?_)
  have hPM1 := lw_kept s1.1 (mI_ad s2) s5 hap hk1
  obtain ⟨⟨z1, rfl⟩, t1, i1⟩ := hQ
  refine lv_pop hx hb dL_law_574 rfl ?_
  refine lv_aload_n hx hb dL_law_575 rfl (lv_at hl 2 rfl) ?_
  refine lv_aload_n hx hb dL_law_576 rfl (lv_at hl 0 rfl) ?_
  refine lv_iload_n hx hb dL_law_577 rfl (lv_at hl 3 rfl) ?_
  refine lv_iconst (v := 1) hx hb dL_law_578 (by decide) ?_
  refine lv_iadd hx hb dL_law_579 ?_
  refine va_sld hx hb hX hbl hbA hS1 (hv 1 (by decide)) dL_law_580 ?_
  refine lw_call (as := [.int (xs ((i + 1).toNatClampNeg))]) (rest := []) (ci := 12) (T := TX12) (N := 113) C0 hK hN hZ (pM_due hiM) mT_197 rfl cw_2095 cw_2096 cw_2097 yk_197 ⟨s2, qm, hqm, [xs ((i + 1).toNatClampNeg)], rfl, rfl⟩ eM hPM1 s7 hS1 (by decide) hl.1 dL_law_581 (fun ov wsM1 H2 locs2 hQ hadM hP2 hD2 hk2 hS2 => ?_)
  have hPX2 := lw_kept (mI_ad s2) i1.1 hP1 (fun i j q h1 h2 => hap j i q h2 h1) hk2
  obtain ⟨⟨z2, rfl⟩, t2, i2⟩ := hQ
  refine lv_pop hx hb dL_law_584 rfl ?_
  refine lv_goto (tgt := 1237) hx hb dL_law_585 (by decide) ?_
  exact kk wsX1 wsM1 H2 locs2 ⟨i1, i2, by omega, hPX2, hP2, hD1, hD2, hS2⟩
theorem law_cost (C0 : lw_At p s m meth c b L xs) (hK : va_K D vwCl (ri_tys κ) s) (hN : ri_N s) (hZ : rc_Z D [] s) (hiX : ∀ (i j q : Nat), adX[i]? = some q → adX[j]? = some q → i = j) (hiM : ∀ (i j q : Nat), adM[i]? = some q → adM[j]? = some q → i = j) (hap : ∀ (i j q : Nat), adX[i]? = some q → adM[j]? = some q → False) {qx qm : Nat} (hqx : adX[0]? = some qx) (hqm : adM[0]? = some qm) {i : Int32} (hv : ∀ j : Int32, 1 ≤ j.toInt ∧ j.toInt ≤ 5 → vp_in (i + j) L) {wsX wsM : va_W} {H : Heap} {locs : List Loc} (hLS : lw_LS s κ D adX adM wsX wsM H locs) {ls : Array Slot} (hl : lv_has ls 4 [(0, .ref b), (1, .ref qx), (2, .ref qm), (3, .int i)]) (kk : ∀ (wsX1 wsM1 : va_W) (H1 : Heap) (locs1 : List Loc), lw_LS s κ D adX adM wsX1 wsM1 H1 locs1 → W p l e room_1 s m #[Value.ref b] below meth c H1 locs1 211 15503 (lw_Z below #[Value.ref b] s) (F0 m 1237 ls [])) : W p l e room_1 s m #[Value.ref b] below meth c H locs 211 15503 (lw_Z below #[Value.ref b] s) (F0 m 588 ls []) := by
  obtain ⟨hx, hb, hr, hml, hown, hts0, hX, hbl, hlocks, hgv⟩ := id C0
  have hbA : ¬ (fun q : Nat => s.heap.size ≤ q) b := Nat.not_le.mpr hbl
  obtain ⟨s1, s2, s3, s4, s5, s6, s7, s8⟩ := hLS
  obtain ⟨vX, eX⟩ := xI_cell s1 hqx
  obtain ⟨vM, eM⟩ := mI_cell s2 hqm
  refine lv_aload_n hx hb dL_law_588 rfl (lv_at hl 1 rfl) ?_
  refine lv_aload_n hx hb dL_law_589 rfl (lv_at hl 0 rfl) ?_
  refine lv_iload_n hx hb dL_law_590 rfl (lv_at hl 3 rfl) ?_
  refine lv_iconst (v := 1) hx hb dL_law_591 (by decide) ?_
  refine lv_iadd hx hb dL_law_592 ?_
  refine va_sld hx hb hX hbl hbA s8 (hv 1 (by decide)) dL_law_593 ?_
  refine lv_aload_n hx hb dL_law_594 rfl (lv_at hl 0 rfl) ?_
  refine lv_iload_n hx hb dL_law_595 rfl (lv_at hl 3 rfl) ?_
  refine lv_iconst (v := 2) hx hb dL_law_596 (by decide) ?_
  refine lv_iadd hx hb dL_law_597 ?_
  refine va_sld hx hb hX hbl hbA s8 (hv 2 (by decide)) dL_law_598 ?_
  refine lw_call (as := [.int (xs ((i + 1).toNatClampNeg)), .int (xs ((i + 2).toNatClampNeg))]) (rest := []) (ci := 11) (T := TX11) (N := 11) C0 hK hN hZ (pX_cost hiX) mT_140 rfl cw_1172 cw_1173 cw_1174 yk_140 ⟨s1, qx, hqx, [xs ((i + 1).toNatClampNeg), xs ((i + 2).toNatClampNeg)], rfl, rfl⟩ eX s4 s6 s8 (by decide) hl.1 dL_law_599 (fun ov wsX1 H1 locs1 hQ hadX hP1 hD1 hk1 hS1 => ?_)
  have hPM1 := lw_kept s1.1 (mI_ad s2) s5 hap hk1
  obtain ⟨⟨z1, rfl⟩, t1, i1⟩ := hQ
  refine lv_pop hx hb dL_law_602 rfl ?_
  refine lv_aload_n hx hb dL_law_603 rfl (lv_at hl 2 rfl) ?_
  refine lv_aload_n hx hb dL_law_604 rfl (lv_at hl 0 rfl) ?_
  refine lv_iload_n hx hb dL_law_605 rfl (lv_at hl 3 rfl) ?_
  refine lv_iconst (v := 1) hx hb dL_law_606 (by decide) ?_
  refine lv_iadd hx hb dL_law_607 ?_
  refine va_sld hx hb hX hbl hbA hS1 (hv 1 (by decide)) dL_law_608 ?_
  refine lv_aload_n hx hb dL_law_609 rfl (lv_at hl 0 rfl) ?_
  refine lv_iload_n hx hb dL_law_610 rfl (lv_at hl 3 rfl) ?_
  refine lv_iconst (v := 2) hx hb dL_law_611 (by decide) ?_
  refine lv_iadd hx hb dL_law_612 ?_
  refine va_sld hx hb hX hbl hbA hS1 (hv 2 (by decide)) dL_law_613 ?_
  refine lw_call (as := [.int (xs ((i + 1).toNatClampNeg)), .int (xs ((i + 2).toNatClampNeg))]) (rest := []) (ci := 12) (T := TX12) (N := 113) C0 hK hN hZ (pM_cost hiM) mT_192 rfl cw_2119 cw_2120 cw_2121 yk_192 ⟨s2, qm, hqm, [xs ((i + 1).toNatClampNeg), xs ((i + 2).toNatClampNeg)], rfl, rfl⟩ eM hPM1 s7 hS1 (by decide) hl.1 dL_law_614 (fun ov wsM1 H2 locs2 hQ hadM hP2 hD2 hk2 hS2 => ?_)
  have hPX2 := lw_kept (mI_ad s2) i1.1 hP1 (fun i j q h1 h2 => hap j i q h2 h1) hk2
  obtain ⟨⟨z2, rfl⟩, t2, i2⟩ := hQ
  refine lv_pop hx hb dL_law_617 rfl ?_
  refine lv_goto (tgt := 1237) hx hb dL_law_618 (by decide) ?_
  exact kk wsX1 wsM1 H2 locs2 ⟨i1, i2, by omega, hPX2, hP2, hD1, hD2, hS2⟩
theorem law_halt (C0 : lw_At p s m meth c b L xs) (hK : va_K D vwCl (ri_tys κ) s) (hN : ri_N s) (hZ : rc_Z D [] s) (hiX : ∀ (i j q : Nat), adX[i]? = some q → adX[j]? = some q → i = j) (hiM : ∀ (i j q : Nat), adM[i]? = some q → adM[j]? = some q → i = j) (hap : ∀ (i j q : Nat), adX[i]? = some q → adM[j]? = some q → False) {qx qm : Nat} (hqx : adX[0]? = some qx) (hqm : adM[0]? = some qm) {i : Int32} (hv : ∀ j : Int32, 1 ≤ j.toInt ∧ j.toInt ≤ 5 → vp_in (i + j) L) {wsX wsM : va_W} {H : Heap} {locs : List Loc} (hLS : lw_LS s κ D adX adM wsX wsM H locs) {ls : Array Slot} (hl : lv_has ls 4 [(0, .ref b), (1, .ref qx), (2, .ref qm), (3, .int i)]) (kk : ∀ (wsX1 wsM1 : va_W) (H1 : Heap) (locs1 : List Loc), lw_LS s κ D adX adM wsX1 wsM1 H1 locs1 → W p l e room_1 s m #[Value.ref b] below meth c H1 locs1 211 15503 (lw_Z below #[Value.ref b] s) (F0 m 1237 ls [])) : W p l e room_1 s m #[Value.ref b] below meth c H locs 211 15503 (lw_Z below #[Value.ref b] s) (F0 m 621 ls []) := by
  obtain ⟨hx, hb, hr, hml, hown, hts0, hX, hbl, hlocks, hgv⟩ := id C0
  have hbA : ¬ (fun q : Nat => s.heap.size ≤ q) b := Nat.not_le.mpr hbl
  obtain ⟨s1, s2, s3, s4, s5, s6, s7, s8⟩ := hLS
  obtain ⟨vX, eX⟩ := xI_cell s1 hqx
  obtain ⟨vM, eM⟩ := mI_cell s2 hqm
  refine lv_aload_n hx hb dL_law_621 rfl (lv_at hl 1 rfl) ?_
  refine lv_aload_n hx hb dL_law_622 rfl (lv_at hl 0 rfl) ?_
  refine lv_iload_n hx hb dL_law_623 rfl (lv_at hl 3 rfl) ?_
  refine lv_iconst (v := 1) hx hb dL_law_624 (by decide) ?_
  refine lv_iadd hx hb dL_law_625 ?_
  refine va_sld hx hb hX hbl hbA s8 (hv 1 (by decide)) dL_law_626 ?_
  refine lw_call (as := [.int (xs ((i + 1).toNatClampNeg))]) (rest := []) (ci := 11) (T := TX11) (N := 11) C0 hK hN hZ (pX_halt hiX) mT_148 rfl cw_1188 cw_1189 cw_1190 yk_148 ⟨s1, qx, hqx, [xs ((i + 1).toNatClampNeg)], rfl, rfl⟩ eX s4 s6 s8 (by decide) hl.1 dL_law_627 (fun ov wsX1 H1 locs1 hQ hadX hP1 hD1 hk1 hS1 => ?_)
  have hPM1 := lw_kept s1.1 (mI_ad s2) s5 hap hk1
  obtain ⟨⟨z1, rfl⟩, t1, i1⟩ := hQ
  refine lv_pop hx hb dL_law_630 rfl ?_
  refine lv_aload_n hx hb dL_law_631 rfl (lv_at hl 2 rfl) ?_
  refine lv_aload_n hx hb dL_law_632 rfl (lv_at hl 0 rfl) ?_
  refine lv_iload_n hx hb dL_law_633 rfl (lv_at hl 3 rfl) ?_
  refine lv_iconst (v := 1) hx hb dL_law_634 (by decide) ?_
  refine lv_iadd hx hb dL_law_635 ?_
  refine va_sld hx hb hX hbl hbA hS1 (hv 1 (by decide)) dL_law_636 ?_
  refine lw_call (as := [.int (xs ((i + 1).toNatClampNeg))]) (rest := []) (ci := 12) (T := TX12) (N := 113) C0 hK hN hZ (pM_halt hiM) mT_215 rfl cw_2074 cw_2075 cw_2076 yk_215 ⟨s2, qm, hqm, [xs ((i + 1).toNatClampNeg)], rfl, rfl⟩ eM hPM1 s7 hS1 (by decide) hl.1 dL_law_637 (fun ov wsM1 H2 locs2 hQ hadM hP2 hD2 hk2 hS2 => ?_)
  have hPX2 := lw_kept (mI_ad s2) i1.1 hP1 (fun i j q h1 h2 => hap j i q h2 h1) hk2
  obtain ⟨⟨z2, rfl⟩, t2, i2⟩ := hQ
  refine lv_pop hx hb dL_law_640 rfl ?_
  refine lv_goto (tgt := 1237) hx hb dL_law_641 (by decide) ?_
  exact kk wsX1 wsM1 H2 locs2 ⟨i1, i2, by omega, hPX2, hP2, hD1, hD2, hS2⟩
theorem law_rolls (C0 : lw_At p s m meth c b L xs) (hK : va_K D vwCl (ri_tys κ) s) (hN : ri_N s) (hZ : rc_Z D [] s) (hiX : ∀ (i j q : Nat), adX[i]? = some q → adX[j]? = some q → i = j) (hiM : ∀ (i j q : Nat), adM[i]? = some q → adM[j]? = some q → i = j) (hap : ∀ (i j q : Nat), adX[i]? = some q → adM[j]? = some q → False) {qx qm : Nat} (hqx : adX[0]? = some qx) (hqm : adM[0]? = some qm) {i : Int32} (hv : ∀ j : Int32, 1 ≤ j.toInt ∧ j.toInt ≤ 5 → vp_in (i + j) L) {wsX wsM : va_W} {H : Heap} {locs : List Loc} (hLS : lw_LS s κ D adX adM wsX wsM H locs) {ls : Array Slot} (hl : lv_has ls 4 [(0, .ref b), (1, .ref qx), (2, .ref qm), (3, .int i)]) (kk : ∀ (wsX1 wsM1 : va_W) (H1 : Heap) (locs1 : List Loc), lw_LS s κ D adX adM wsX1 wsM1 H1 locs1 → W p l e room_1 s m #[Value.ref b] below meth c H1 locs1 211 15503 (lw_Z below #[Value.ref b] s) (F0 m 1237 ls [])) : W p l e room_1 s m #[Value.ref b] below meth c H locs 211 15503 (lw_Z below #[Value.ref b] s) (F0 m 644 ls []) := by
  obtain ⟨hx, hb, hr, hml, hown, hts0, hX, hbl, hlocks, hgv⟩ := id C0
  have hbA : ¬ (fun q : Nat => s.heap.size ≤ q) b := Nat.not_le.mpr hbl
  obtain ⟨s1, s2, s3, s4, s5, s6, s7, s8⟩ := hLS
  obtain ⟨vX, eX⟩ := xI_cell s1 hqx
  obtain ⟨vM, eM⟩ := mI_cell s2 hqm
  refine lv_aload_n hx hb dL_law_644 rfl (lv_at hl 1 rfl) ?_
  refine lw_call (as := []) (rest := []) (ci := 11) (T := TX11) (N := 11) C0 hK hN hZ (pX_rolls hiX) mT_160 rfl cw_1193 cw_1194 cw_1195 yk_160 ⟨s1, qx, hqx, [], rfl, rfl⟩ eX s4 s6 s8 (by decide) hl.1 dL_law_645 (fun ov wsX1 H1 locs1 hQ hadX hP1 hD1 hk1 hS1 => ?_)
  have hPM1 := lw_kept s1.1 (mI_ad s2) s5 hap hk1
  obtain ⟨⟨z1, rfl⟩, t1, i1⟩ := hQ
  refine lv_pop hx hb dL_law_648 rfl ?_
  refine lv_aload_n hx hb dL_law_649 rfl (lv_at hl 2 rfl) ?_
  refine lw_call (as := []) (rest := []) (ci := 12) (T := TX12) (N := 113) C0 hK hN hZ (pM_rolls hiM) mT_266 rfl cw_2078 cw_2079 cw_2080 yk_266 ⟨s2, qm, hqm, [], rfl, rfl⟩ eM hPM1 s7 hS1 (by decide) hl.1 dL_law_650 (fun ov wsM1 H2 locs2 hQ hadM hP2 hD2 hk2 hS2 => ?_)
  have hPX2 := lw_kept (mI_ad s2) i1.1 hP1 (fun i j q h1 h2 => hap j i q h2 h1) hk2
  obtain ⟨⟨z2, rfl⟩, t2, i2⟩ := hQ
  refine lv_pop hx hb dL_law_653 rfl ?_
  refine lv_goto (tgt := 1237) hx hb dL_law_654 (by decide) ?_
  exact kk wsX1 wsM1 H2 locs2 ⟨i1, i2, by omega, hPX2, hP2, hD1, hD2, hS2⟩
theorem law_trips (C0 : lw_At p s m meth c b L xs) (hK : va_K D vwCl (ri_tys κ) s) (hN : ri_N s) (hZ : rc_Z D [] s) (hiX : ∀ (i j q : Nat), adX[i]? = some q → adX[j]? = some q → i = j) (hiM : ∀ (i j q : Nat), adM[i]? = some q → adM[j]? = some q → i = j) (hap : ∀ (i j q : Nat), adX[i]? = some q → adM[j]? = some q → False) {qx qm : Nat} (hqx : adX[0]? = some qx) (hqm : adM[0]? = some qm) {i : Int32} (hv : ∀ j : Int32, 1 ≤ j.toInt ∧ j.toInt ≤ 5 → vp_in (i + j) L) {wsX wsM : va_W} {H : Heap} {locs : List Loc} (hLS : lw_LS s κ D adX adM wsX wsM H locs) {ls : Array Slot} (hl : lv_has ls 4 [(0, .ref b), (1, .ref qx), (2, .ref qm), (3, .int i)]) (kk : ∀ (wsX1 wsM1 : va_W) (H1 : Heap) (locs1 : List Loc), lw_LS s κ D adX adM wsX1 wsM1 H1 locs1 → W p l e room_1 s m #[Value.ref b] below meth c H1 locs1 211 15503 (lw_Z below #[Value.ref b] s) (F0 m 1237 ls [])) : W p l e room_1 s m #[Value.ref b] below meth c H locs 211 15503 (lw_Z below #[Value.ref b] s) (F0 m 657 ls []) := by
  obtain ⟨hx, hb, hr, hml, hown, hts0, hX, hbl, hlocks, hgv⟩ := id C0
  have hbA : ¬ (fun q : Nat => s.heap.size ≤ q) b := Nat.not_le.mpr hbl
  obtain ⟨s1, s2, s3, s4, s5, s6, s7, s8⟩ := hLS
  obtain ⟨vX, eX⟩ := xI_cell s1 hqx
  obtain ⟨vM, eM⟩ := mI_cell s2 hqm
  refine lv_aload_n hx hb dL_law_657 rfl (lv_at hl 1 rfl) ?_
  refine lv_aload_n hx hb dL_law_658 rfl (lv_at hl 0 rfl) ?_
  refine lv_iload_n hx hb dL_law_659 rfl (lv_at hl 3 rfl) ?_
  refine lv_iconst (v := 1) hx hb dL_law_660 (by decide) ?_
  refine lv_iadd hx hb dL_law_661 ?_
  refine va_sld hx hb hX hbl hbA s8 (hv 1 (by decide)) dL_law_662 ?_
  refine lw_call (as := [.int (xs ((i + 1).toNatClampNeg))]) (rest := []) (ci := 11) (T := TX11) (N := 11) C0 hK hN hZ (pX_trips hiX) mT_171 rfl cw_1199 cw_1200 cw_1201 yk_171 ⟨s1, qx, hqx, [xs ((i + 1).toNatClampNeg)], rfl, rfl⟩ eX s4 s6 s8 (by decide) hl.1 dL_law_663 (fun ov wsX1 H1 locs1 hQ hadX hP1 hD1 hk1 hS1 => ?_)
  have hPM1 := lw_kept s1.1 (mI_ad s2) s5 hap hk1
  obtain ⟨⟨z1, rfl⟩, t1, i1⟩ := hQ
  refine lv_pop hx hb dL_law_666 rfl ?_
  refine lv_aload_n hx hb dL_law_667 rfl (lv_at hl 2 rfl) ?_
  refine lv_aload_n hx hb dL_law_668 rfl (lv_at hl 0 rfl) ?_
  refine lv_iload_n hx hb dL_law_669 rfl (lv_at hl 3 rfl) ?_
  refine lv_iconst (v := 1) hx hb dL_law_670 (by decide) ?_
  refine lv_iadd hx hb dL_law_671 ?_
  refine va_sld hx hb hX hbl hbA hS1 (hv 1 (by decide)) dL_law_672 ?_
  refine lw_call (as := [.int (xs ((i + 1).toNatClampNeg))]) (rest := []) (ci := 12) (T := TX12) (N := 113) C0 hK hN hZ (pM_trips hiM) mT_286 rfl cw_2082 cw_2083 cw_2084 yk_286 ⟨s2, qm, hqm, [xs ((i + 1).toNatClampNeg)], rfl, rfl⟩ eM hPM1 s7 hS1 (by decide) hl.1 dL_law_673 (fun ov wsM1 H2 locs2 hQ hadM hP2 hD2 hk2 hS2 => ?_)
  have hPX2 := lw_kept (mI_ad s2) i1.1 hP1 (fun i j q h1 h2 => hap j i q h2 h1) hk2
  obtain ⟨⟨z2, rfl⟩, t2, i2⟩ := hQ
  refine lv_pop hx hb dL_law_676 rfl ?_
  refine lv_goto (tgt := 1237) hx hb dL_law_677 (by decide) ?_
  exact kk wsX1 wsM1 H2 locs2 ⟨i1, i2, by omega, hPX2, hP2, hD1, hD2, hS2⟩
theorem law_asks (C0 : lw_At p s m meth c b L xs) (hK : va_K D vwCl (ri_tys κ) s) (hN : ri_N s) (hZ : rc_Z D [] s) (hiX : ∀ (i j q : Nat), adX[i]? = some q → adX[j]? = some q → i = j) (hiM : ∀ (i j q : Nat), adM[i]? = some q → adM[j]? = some q → i = j) (hap : ∀ (i j q : Nat), adX[i]? = some q → adM[j]? = some q → False) {qx qm : Nat} (hqx : adX[0]? = some qx) (hqm : adM[0]? = some qm) {i : Int32} (hv : ∀ j : Int32, 1 ≤ j.toInt ∧ j.toInt ≤ 5 → vp_in (i + j) L) {wsX wsM : va_W} {H : Heap} {locs : List Loc} (hLS : lw_LS s κ D adX adM wsX wsM H locs) {ls : Array Slot} (hl : lv_has ls 4 [(0, .ref b), (1, .ref qx), (2, .ref qm), (3, .int i)]) (kk : ∀ (wsX1 wsM1 : va_W) (H1 : Heap) (locs1 : List Loc), lw_LS s κ D adX adM wsX1 wsM1 H1 locs1 → W p l e room_1 s m #[Value.ref b] below meth c H1 locs1 211 15503 (lw_Z below #[Value.ref b] s) (F0 m 1237 ls [])) : W p l e room_1 s m #[Value.ref b] below meth c H locs 211 15503 (lw_Z below #[Value.ref b] s) (F0 m 680 ls []) := by
  obtain ⟨hx, hb, hr, hml, hown, hts0, hX, hbl, hlocks, hgv⟩ := id C0
  have hbA : ¬ (fun q : Nat => s.heap.size ≤ q) b := Nat.not_le.mpr hbl
  obtain ⟨s1, s2, s3, s4, s5, s6, s7, s8⟩ := hLS
  obtain ⟨vX, eX⟩ := xI_cell s1 hqx
  obtain ⟨vM, eM⟩ := mI_cell s2 hqm
  refine lv_aload_n hx hb dL_law_680 rfl (lv_at hl 1 rfl) ?_
  refine lv_aload_n hx hb dL_law_681 rfl (lv_at hl 0 rfl) ?_
  refine lv_iload_n hx hb dL_law_682 rfl (lv_at hl 3 rfl) ?_
  refine lv_iconst (v := 1) hx hb dL_law_683 (by decide) ?_
  refine lv_iadd hx hb dL_law_684 ?_
  refine va_sld hx hb hX hbl hbA s8 (hv 1 (by decide)) dL_law_685 ?_
  refine lv_aload_n hx hb dL_law_686 rfl (lv_at hl 0 rfl) ?_
  refine lv_iload_n hx hb dL_law_687 rfl (lv_at hl 3 rfl) ?_
  refine lv_iconst (v := 2) hx hb dL_law_688 (by decide) ?_
  refine lv_iadd hx hb dL_law_689 ?_
  refine va_sld hx hb hX hbl hbA s8 (hv 2 (by decide)) dL_law_690 ?_
  refine lw_call (as := [.int (xs ((i + 1).toNatClampNeg)), .int (xs ((i + 2).toNatClampNeg))]) (rest := []) (ci := 11) (T := TX11) (N := 11) C0 hK hN hZ (pX_asks hiX) mT_135 rfl cw_1203 cw_1204 cw_1205 yk_135 ⟨s1, qx, hqx, [xs ((i + 1).toNatClampNeg), xs ((i + 2).toNatClampNeg)], rfl, rfl⟩ eX s4 s6 s8 (by decide) hl.1 dL_law_691 (fun ov wsX1 H1 locs1 hQ hadX hP1 hD1 hk1 hS1 => ?_)
  have hPM1 := lw_kept s1.1 (mI_ad s2) s5 hap hk1
  obtain ⟨⟨z1, rfl⟩, t1, i1⟩ := hQ
  refine lv_pop hx hb dL_law_694 rfl ?_
  refine lv_aload_n hx hb dL_law_695 rfl (lv_at hl 2 rfl) ?_
  refine lv_aload_n hx hb dL_law_696 rfl (lv_at hl 0 rfl) ?_
  refine lv_iload_n hx hb dL_law_697 rfl (lv_at hl 3 rfl) ?_
  refine lv_iconst (v := 1) hx hb dL_law_698 (by decide) ?_
  refine lv_iadd hx hb dL_law_699 ?_
  refine va_sld hx hb hX hbl hbA hS1 (hv 1 (by decide)) dL_law_700 ?_
  refine lv_aload_n hx hb dL_law_701 rfl (lv_at hl 0 rfl) ?_
  refine lv_iload_n hx hb dL_law_702 rfl (lv_at hl 3 rfl) ?_
  refine lv_iconst (v := 2) hx hb dL_law_703 (by decide) ?_
  refine lv_iadd hx hb dL_law_704 ?_
  refine va_sld hx hb hX hbl hbA hS1 (hv 2 (by decide)) dL_law_705 ?_
  refine lw_call (as := [.int (xs ((i + 1).toNatClampNeg)), .int (xs ((i + 2).toNatClampNeg))]) (rest := []) (ci := 12) (T := TX12) (N := 113) C0 hK hN hZ (pM_asks hiM) mT_178 rfl cw_2086 cw_2087 cw_2088 yk_178 ⟨s2, qm, hqm, [xs ((i + 1).toNatClampNeg), xs ((i + 2).toNatClampNeg)], rfl, rfl⟩ eM hPM1 s7 hS1 (by decide) hl.1 dL_law_706 (fun ov wsM1 H2 locs2 hQ hadM hP2 hD2 hk2 hS2 => ?_)
  have hPX2 := lw_kept (mI_ad s2) i1.1 hP1 (fun i j q h1 h2 => hap j i q h2 h1) hk2
  obtain ⟨⟨z2, rfl⟩, t2, i2⟩ := hQ
  refine lv_pop hx hb dL_law_709 rfl ?_
  refine lv_goto (tgt := 1237) hx hb dL_law_710 (by decide) ?_
  exact kk wsX1 wsM1 H2 locs2 ⟨i1, i2, by omega, hPX2, hP2, hD1, hD2, hS2⟩
end LW
