section LW
variable {p : Program} {l : Launch} {e : Env} {s : State} {m : MethodId} {below : List Frame} {meth : Method} {c : Code} {b L : Nat} {xs : Nat → Int32} {D : va_G} {κ : Nat → ClassId} {adX adM : List Nat}
theorem law_end (C0 : lw_At p s m meth c b L xs) (hK : va_K D vwCl (ri_tys κ) s) (hN : ri_N s) (hZ : rc_Z D [] s) (hiX : ∀ (i j q : Nat), adX[i]? = some q → adX[j]? = some q → i = j) (hiM : ∀ (i j q : Nat), adM[i]? = some q → adM[j]? = some q → i = j) (hap : ∀ (i j q : Nat), adX[i]? = some q → adM[j]? = some q → False) {qx qm : Nat} (hqx : adX[0]? = some qx) (hqm : adM[0]? = some qm) {i : Int32} (hv : ∀ j : Int32, 1 ≤ j.toInt ∧ j.toInt ≤ 5 → vp_in (i + j) L) {wsX wsM : va_W} {H : Heap} {locs : List Loc} (hLS : lw_LS s κ D adX adM wsX wsM H locs) {ls : Array Slot} (hl : lv_has ls 4 [(0, .ref b), (1, .ref qx), (2, .ref qm), (3, .int i)]) (kk : ∀ (wsX1 wsM1 : va_W) (H1 : Heap) (locs1 : List Loc), lw_LS s κ D adX adM wsX1 wsM1 H1 locs1 → W p l e room_1 s m #[Value.ref b] below meth c H1 locs1 211 15503 (lw_Z below #[Value.ref b] s) (F0 m 1237 ls [])) : W p l e room_1 s m #[Value.ref b] below meth c H locs 211 15503 (lw_Z below #[Value.ref b] s) (F0 m 259 ls []) := by
  obtain ⟨hx, hb, hr, hml, hown, hts0, hX, hbl, hlocks, hgv⟩ := id C0
  have hbA : ¬ (fun q : Nat => s.heap.size ≤ q) b := Nat.not_le.mpr hbl
  obtain ⟨s1, s2, s3, s4, s5, s6, s7, s8⟩ := hLS
  obtain ⟨vX, eX⟩ := xI_cell s1 hqx
  obtain ⟨vM, eM⟩ := mI_cell s2 hqm
  refine lv_aload_n hx hb dL_law_259 rfl (lv_at hl 1 rfl) ?_
  refine lv_aload_n hx hb dL_law_260 rfl (lv_at hl 0 rfl) ?_
  refine lv_iload_n hx hb dL_law_261 rfl (lv_at hl 3 rfl) ?_
  refine lv_iconst (v := 1) hx hb dL_law_262 (by decide) ?_
  refine lv_iadd hx hb dL_law_263 ?_
  refine va_sld hx hb hX hbl hbA s8 (hv 1 (by decide)) dL_law_264 ?_
  refine lw_call (as := [.int (xs ((i + 1).toNatClampNeg))]) (rest := []) (ci := 11) (T := TX11) (N := 11) C0 hK hN hZ (pX_end hiX) mT_143 rfl cw_584 cw_585 cw_586 yk_143 ⟨s1, qx, hqx, [xs ((i + 1).toNatClampNeg)], rfl, rfl⟩ eX s4 s6 s8 (by decide) hl.1 dL_law_265 (fun ov wsX1 H1 locs1 hQ hadX hP1 hD1 hk1 hS1 => ?_)
  have hPM1 := lw_kept s1.1 (mI_ad s2) s5 hap hk1
  obtain ⟨⟨z1, rfl⟩, t1, i1⟩ := hQ
  refine lv_pop hx hb dL_law_268 rfl ?_
  refine lv_aload_n hx hb dL_law_269 rfl (lv_at hl 2 rfl) ?_
  refine lv_aload_n hx hb dL_law_270 rfl (lv_at hl 0 rfl) ?_
  refine lv_iload_n hx hb dL_law_271 rfl (lv_at hl 3 rfl) ?_
  refine lv_iconst (v := 1) hx hb dL_law_272 (by decide) ?_
  refine lv_iadd hx hb dL_law_273 ?_
  refine va_sld hx hb hX hbl hbA hS1 (hv 1 (by decide)) dL_law_274 ?_
  refine lw_call (as := [.int (xs ((i + 1).toNatClampNeg))]) (rest := []) (ci := 12) (T := TX12) (N := 113) C0 hK hN hZ (pM_end hiM) mT_200 rfl cw_2222 cw_2223 cw_2224 yk_200 ⟨s2, qm, hqm, [xs ((i + 1).toNatClampNeg)], rfl, rfl⟩ eM hPM1 s7 hS1 (by decide) hl.1 dL_law_275 (fun ov wsM1 H2 locs2 hQ hadM hP2 hD2 hk2 hS2 => ?_)
  have hPX2 := lw_kept (mI_ad s2) i1.1 hP1 (fun i j q h1 h2 => hap j i q h2 h1) hk2
  obtain ⟨⟨z2, rfl⟩, t2, i2⟩ := hQ
  refine lv_pop hx hb dL_law_278 rfl ?_
  refine lv_goto (tgt := 1237) hx hb dL_law_279 (by decide) ?_
  exact kk wsX1 wsM1 H2 locs2 ⟨i1, i2, by omega, hPX2, hP2, hD1, hD2, hS2⟩
theorem law_street (C0 : lw_At p s m meth c b L xs) (hK : va_K D vwCl (ri_tys κ) s) (hN : ri_N s) (hZ : rc_Z D [] s) (hiX : ∀ (i j q : Nat), adX[i]? = some q → adX[j]? = some q → i = j) (hiM : ∀ (i j q : Nat), adM[i]? = some q → adM[j]? = some q → i = j) (hap : ∀ (i j q : Nat), adX[i]? = some q → adM[j]? = some q → False) {qx qm : Nat} (hqx : adX[0]? = some qx) (hqm : adM[0]? = some qm) {i : Int32} (hv : ∀ j : Int32, 1 ≤ j.toInt ∧ j.toInt ≤ 5 → vp_in (i + j) L) {wsX wsM : va_W} {H : Heap} {locs : List Loc} (hLS : lw_LS s κ D adX adM wsX wsM H locs) {ls : Array Slot} (hl : lv_has ls 4 [(0, .ref b), (1, .ref qx), (2, .ref qm), (3, .int i)]) (kk : ∀ (wsX1 wsM1 : va_W) (H1 : Heap) (locs1 : List Loc), lw_LS s κ D adX adM wsX1 wsM1 H1 locs1 → W p l e room_1 s m #[Value.ref b] below meth c H1 locs1 211 15503 (lw_Z below #[Value.ref b] s) (F0 m 1237 ls [])) : W p l e room_1 s m #[Value.ref b] below meth c H locs 211 15503 (lw_Z below #[Value.ref b] s) (F0 m 282 ls []) := by
  obtain ⟨hx, hb, hr, hml, hown, hts0, hX, hbl, hlocks, hgv⟩ := id C0
  have hbA : ¬ (fun q : Nat => s.heap.size ≤ q) b := Nat.not_le.mpr hbl
  obtain ⟨s1, s2, s3, s4, s5, s6, s7, s8⟩ := hLS
  obtain ⟨vX, eX⟩ := xI_cell s1 hqx
  obtain ⟨vM, eM⟩ := mI_cell s2 hqm
  refine lv_aload_n hx hb dL_law_282 rfl (lv_at hl 1 rfl) ?_
  refine lw_call (as := []) (rest := []) (ci := 11) (T := TX11) (N := 11) C0 hK hN hZ (pX_street hiX) mT_169 rfl cw_588 cw_589 cw_590 yk_169 ⟨s1, qx, hqx, [], rfl, rfl⟩ eX s4 s6 s8 (by decide) hl.1 dL_law_283 (fun ov wsX1 H1 locs1 hQ hadX hP1 hD1 hk1 hS1 => ?_)
  have hPM1 := lw_kept s1.1 (mI_ad s2) s5 hap hk1
  obtain ⟨⟨z1, rfl⟩, t1, i1⟩ := hQ
  refine lv_pop hx hb dL_law_286 rfl ?_
  refine lv_aload_n hx hb dL_law_287 rfl (lv_at hl 2 rfl) ?_
  refine lw_call (as := []) (rest := []) (ci := 12) (T := TX12) (N := 113) C0 hK hN hZ (pM_street hiM) mT_283 rfl cw_1726 cw_1727 cw_1728 yk_283 ⟨s2, qm, hqm, [], rfl, rfl⟩ eM hPM1 s7 hS1 (by decide) hl.1 dL_law_288 (fun ov wsM1 H2 locs2 hQ hadM hP2 hD2 hk2 hS2 => ?_)
  have hPX2 := lw_kept (mI_ad s2) i1.1 hP1 (fun i j q h1 h2 => hap j i q h2 h1) hk2
  obtain ⟨⟨z2, rfl⟩, t2, i2⟩ := hQ
  refine lv_pop hx hb dL_law_291 rfl ?_
  refine lv_goto (tgt := 1237) hx hb dL_law_292 (by decide) ?_
  exact kk wsX1 wsM1 H2 locs2 ⟨i1, i2, by omega, hPX2, hP2, hD1, hD2, hS2⟩
theorem law_fault (C0 : lw_At p s m meth c b L xs) (hK : va_K D vwCl (ri_tys κ) s) (hN : ri_N s) (hZ : rc_Z D [] s) (hiX : ∀ (i j q : Nat), adX[i]? = some q → adX[j]? = some q → i = j) (hiM : ∀ (i j q : Nat), adM[i]? = some q → adM[j]? = some q → i = j) (hap : ∀ (i j q : Nat), adX[i]? = some q → adM[j]? = some q → False) {qx qm : Nat} (hqx : adX[0]? = some qx) (hqm : adM[0]? = some qm) {i : Int32} (hv : ∀ j : Int32, 1 ≤ j.toInt ∧ j.toInt ≤ 5 → vp_in (i + j) L) {wsX wsM : va_W} {H : Heap} {locs : List Loc} (hLS : lw_LS s κ D adX adM wsX wsM H locs) {ls : Array Slot} (hl : lv_has ls 4 [(0, .ref b), (1, .ref qx), (2, .ref qm), (3, .int i)]) (kk : ∀ (wsX1 wsM1 : va_W) (H1 : Heap) (locs1 : List Loc), lw_LS s κ D adX adM wsX1 wsM1 H1 locs1 → W p l e room_1 s m #[Value.ref b] below meth c H1 locs1 211 15503 (lw_Z below #[Value.ref b] s) (F0 m 1237 ls [])) : W p l e room_1 s m #[Value.ref b] below meth c H locs 211 15503 (lw_Z below #[Value.ref b] s) (F0 m 295 ls []) := by
  obtain ⟨hx, hb, hr, hml, hown, hts0, hX, hbl, hlocks, hgv⟩ := id C0
  have hbA : ¬ (fun q : Nat => s.heap.size ≤ q) b := Nat.not_le.mpr hbl
  obtain ⟨s1, s2, s3, s4, s5, s6, s7, s8⟩ := hLS
  obtain ⟨vX, eX⟩ := xI_cell s1 hqx
  obtain ⟨vM, eM⟩ := mI_cell s2 hqm
  refine lv_aload_n hx hb dL_law_295 rfl (lv_at hl 1 rfl) ?_
  refine lv_aload_n hx hb dL_law_296 rfl (lv_at hl 0 rfl) ?_
  refine lv_iload_n hx hb dL_law_297 rfl (lv_at hl 3 rfl) ?_
  refine lv_iconst (v := 1) hx hb dL_law_298 (by decide) ?_
  refine lv_iadd hx hb dL_law_299 ?_
  refine va_sld hx hb hX hbl hbA s8 (hv 1 (by decide)) dL_law_300 ?_
  refine lw_call (as := [.int (xs ((i + 1).toNatClampNeg))]) (rest := []) (ci := 11) (T := TX11) (N := 11) C0 hK hN hZ (pX_fault hiX) mT_145 rfl cw_925 cw_926 cw_927 yk_145 ⟨s1, qx, hqx, [xs ((i + 1).toNatClampNeg)], rfl, rfl⟩ eX s4 s6 s8 (by decide) hl.1 dL_law_301 (fun ov wsX1 H1 locs1 hQ hadX hP1 hD1 hk1 hS1 => ?_)
  have hPM1 := lw_kept s1.1 (mI_ad s2) s5 hap hk1
  obtain ⟨⟨z1, rfl⟩, t1, i1⟩ := hQ
  refine lv_pop hx hb dL_law_304 rfl ?_
  refine lv_aload_n hx hb dL_law_305 rfl (lv_at hl 2 rfl) ?_
  refine lv_aload_n hx hb dL_law_306 rfl (lv_at hl 0 rfl) ?_
  refine lv_iload_n hx hb dL_law_307 rfl (lv_at hl 3 rfl) ?_
  refine lv_iconst (v := 1) hx hb dL_law_308 (by decide) ?_
  refine lv_iadd hx hb dL_law_309 ?_
  refine va_sld hx hb hX hbl hbA hS1 (hv 1 (by decide)) dL_law_310 ?_
  refine lw_call (as := [.int (xs ((i + 1).toNatClampNeg))]) (rest := []) (ci := 12) (T := TX12) (N := 113) C0 hK hN hZ (pM_fault hiM) mT_204 rfl cw_1896 cw_1897 cw_1898 yk_204 ⟨s2, qm, hqm, [xs ((i + 1).toNatClampNeg)], rfl, rfl⟩ eM hPM1 s7 hS1 (by decide) hl.1 dL_law_311 (fun ov wsM1 H2 locs2 hQ hadM hP2 hD2 hk2 hS2 => ?_)
  have hPX2 := lw_kept (mI_ad s2) i1.1 hP1 (fun i j q h1 h2 => hap j i q h2 h1) hk2
  obtain ⟨⟨z2, rfl⟩, t2, i2⟩ := hQ
  refine lv_pop hx hb dL_law_314 rfl ?_
  refine lv_goto (tgt := 1237) hx hb dL_law_315 (by decide) ?_
  exact kk wsX1 wsM1 H2 locs2 ⟨i1, i2, by omega, hPX2, hP2, hD1, hD2, hS2⟩
theorem law_run (C0 : lw_At p s m meth c b L xs) (hK : va_K D vwCl (ri_tys κ) s) (hN : ri_N s) (hZ : rc_Z D [] s) (hiX : ∀ (i j q : Nat), adX[i]? = some q → adX[j]? = some q → i = j) (hiM : ∀ (i j q : Nat), adM[i]? = some q → adM[j]? = some q → i = j) (hap : ∀ (i j q : Nat), adX[i]? = some q → adM[j]? = some q → False) {qx qm : Nat} (hqx : adX[0]? = some qx) (hqm : adM[0]? = some qm) {i : Int32} (hv : ∀ j : Int32, 1 ≤ j.toInt ∧ j.toInt ≤ 5 → vp_in (i + j) L) {wsX wsM : va_W} {H : Heap} {locs : List Loc} (hLS : lw_LS s κ D adX adM wsX wsM H locs) {ls : Array Slot} (hl : lv_has ls 4 [(0, .ref b), (1, .ref qx), (2, .ref qm), (3, .int i)]) (kk : ∀ (wsX1 wsM1 : va_W) (H1 : Heap) (locs1 : List Loc), lw_LS s κ D adX adM wsX1 wsM1 H1 locs1 → W p l e room_1 s m #[Value.ref b] below meth c H1 locs1 211 15503 (lw_Z below #[Value.ref b] s) (F0 m 1237 ls [])) : W p l e room_1 s m #[Value.ref b] below meth c H locs 211 15503 (lw_Z below #[Value.ref b] s) (F0 m 318 ls []) := by
  obtain ⟨hx, hb, hr, hml, hown, hts0, hX, hbl, hlocks, hgv⟩ := id C0
  have hbA : ¬ (fun q : Nat => s.heap.size ≤ q) b := Nat.not_le.mpr hbl
  obtain ⟨s1, s2, s3, s4, s5, s6, s7, s8⟩ := hLS
  obtain ⟨vX, eX⟩ := xI_cell s1 hqx
  obtain ⟨vM, eM⟩ := mI_cell s2 hqm
  refine lv_aload_n hx hb dL_law_318 rfl (lv_at hl 1 rfl) ?_
  refine lv_aload_n hx hb dL_law_319 rfl (lv_at hl 0 rfl) ?_
  refine lv_iload_n hx hb dL_law_320 rfl (lv_at hl 3 rfl) ?_
  refine lv_iconst (v := 1) hx hb dL_law_321 (by decide) ?_
  refine lv_iadd hx hb dL_law_322 ?_
  refine va_sld hx hb hX hbl hbA s8 (hv 1 (by decide)) dL_law_323 ?_
  refine lw_call (as := [.int (xs ((i + 1).toNatClampNeg))]) (rest := []) (ci := 11) (T := TX11) (N := 11) C0 hK hN hZ (pX_run hiX) mT_162 rfl cw_929 cw_930 cw_931 yk_162 ⟨s1, qx, hqx, [xs ((i + 1).toNatClampNeg)], rfl, rfl⟩ eX s4 s6 s8 (by decide) hl.1 dL_law_324 (fun ov wsX1 H1 locs1 hQ hadX hP1 hD1 hk1 hS1 => ?_)
  have hPM1 := lw_kept s1.1 (mI_ad s2) s5 hap hk1
  obtain ⟨⟨z1, rfl⟩, t1, i1⟩ := hQ
  refine lv_pop hx hb dL_law_327 rfl ?_
  refine lv_aload_n hx hb dL_law_328 rfl (lv_at hl 2 rfl) ?_
  refine lv_aload_n hx hb dL_law_329 rfl (lv_at hl 0 rfl) ?_
  refine lv_iload_n hx hb dL_law_330 rfl (lv_at hl 3 rfl) ?_
  refine lv_iconst (v := 1) hx hb dL_law_331 (by decide) ?_
  refine lv_iadd hx hb dL_law_332 ?_
  refine va_sld hx hb hX hbl hbA hS1 (hv 1 (by decide)) dL_law_333 ?_
  refine lw_call (as := [.int (xs ((i + 1).toNatClampNeg))]) (rest := []) (ci := 12) (T := TX12) (N := 113) C0 hK hN hZ (pM_run hiM) mT_270 rfl cw_1900 cw_1901 cw_1902 yk_270 ⟨s2, qm, hqm, [xs ((i + 1).toNatClampNeg)], rfl, rfl⟩ eM hPM1 s7 hS1 (by decide) hl.1 dL_law_334 (fun ov wsM1 H2 locs2 hQ hadM hP2 hD2 hk2 hS2 => ?_)
  have hPX2 := lw_kept (mI_ad s2) i1.1 hP1 (fun i j q h1 h2 => hap j i q h2 h1) hk2
  obtain ⟨⟨z2, rfl⟩, t2, i2⟩ := hQ
  refine lv_pop hx hb dL_law_337 rfl ?_
  refine lv_goto (tgt := 1237) hx hb dL_law_338 (by decide) ?_
  exact kk wsX1 wsM1 H2 locs2 ⟨i1, i2, by omega, hPX2, hP2, hD1, hD2, hS2⟩
theorem law_car (C0 : lw_At p s m meth c b L xs) (hK : va_K D vwCl (ri_tys κ) s) (hN : ri_N s) (hZ : rc_Z D [] s) (hiX : ∀ (i j q : Nat), adX[i]? = some q → adX[j]? = some q → i = j) (hiM : ∀ (i j q : Nat), adM[i]? = some q → adM[j]? = some q → i = j) (hap : ∀ (i j q : Nat), adX[i]? = some q → adM[j]? = some q → False) {qx qm : Nat} (hqx : adX[0]? = some qx) (hqm : adM[0]? = some qm) {i : Int32} (hv : ∀ j : Int32, 1 ≤ j.toInt ∧ j.toInt ≤ 5 → vp_in (i + j) L) {wsX wsM : va_W} {H : Heap} {locs : List Loc} (hLS : lw_LS s κ D adX adM wsX wsM H locs) {ls : Array Slot} (hl : lv_has ls 4 [(0, .ref b), (1, .ref qx), (2, .ref qm), (3, .int i)]) (kk : ∀ (wsX1 wsM1 : va_W) (H1 : Heap) (locs1 : List Loc), lw_LS s κ D adX adM wsX1 wsM1 H1 locs1 → W p l e room_1 s m #[Value.ref b] below meth c H1 locs1 211 15503 (lw_Z below #[Value.ref b] s) (F0 m 1237 ls [])) : W p l e room_1 s m #[Value.ref b] below meth c H locs 211 15503 (lw_Z below #[Value.ref b] s) (F0 m 341 ls []) := by
  obtain ⟨hx, hb, hr, hml, hown, hts0, hX, hbl, hlocks, hgv⟩ := id C0
  have hbA : ¬ (fun q : Nat => s.heap.size ≤ q) b := Nat.not_le.mpr hbl
  obtain ⟨s1, s2, s3, s4, s5, s6, s7, s8⟩ := hLS
  obtain ⟨vX, eX⟩ := xI_cell s1 hqx
  obtain ⟨vM, eM⟩ := mI_cell s2 hqm
  refine lv_aload_n hx hb dL_law_341 rfl (lv_at hl 1 rfl) ?_
  refine lv_aload_n hx hb dL_law_342 rfl (lv_at hl 0 rfl) ?_
  refine lv_iload_n hx hb dL_law_343 rfl (lv_at hl 3 rfl) ?_
  refine lv_iconst (v := 1) hx hb dL_law_344 (by decide) ?_
  refine lv_iadd hx hb dL_law_345 ?_
  refine va_sld hx hb hX hbl hbA s8 (hv 1 (by decide)) dL_law_346 ?_
  refine lv_aload_n hx hb dL_law_347 rfl (lv_at hl 0 rfl) ?_
  refine lv_iload_n hx hb dL_law_348 rfl (lv_at hl 3 rfl) ?_
  refine lv_iconst (v := 2) hx hb dL_law_349 (by decide) ?_
  refine lv_iadd hx hb dL_law_350 ?_
  refine va_sld hx hb hX hbl hbA s8 (hv 2 (by decide)) dL_law_351 ?_
  refine lw_call (as := [.int (xs ((i + 1).toNatClampNeg)), .int (xs ((i + 2).toNatClampNeg))]) (rest := []) (ci := 11) (T := TX11) (N := 11) C0 hK hN hZ (pX_car hiX) mT_137 rfl cw_1106 cw_1107 cw_1108 yk_137 ⟨s1, qx, hqx, [xs ((i + 1).toNatClampNeg), xs ((i + 2).toNatClampNeg)], rfl, rfl⟩ eX s4 s6 s8 (by decide) hl.1 dL_law_352 (fun ov wsX1 H1 locs1 hQ hadX hP1 hD1 hk1 hS1 => ?_)
  have hPM1 := lw_kept s1.1 (mI_ad s2) s5 hap hk1
  obtain ⟨⟨z1, rfl⟩, t1, i1⟩ := hQ
  refine lv_pop hx hb dL_law_355 rfl ?_
  refine lv_aload_n hx hb dL_law_356 rfl (lv_at hl 2 rfl) ?_
  refine lv_aload_n hx hb dL_law_357 rfl (lv_at hl 0 rfl) ?_
  refine lv_iload_n hx hb dL_law_358 rfl (lv_at hl 3 rfl) ?_
  refine lv_iconst (v := 1) hx hb dL_law_359 (by decide) ?_
  refine lv_iadd hx hb dL_law_360 ?_
  refine va_sld hx hb hX hbl hbA hS1 (hv 1 (by decide)) dL_law_361 ?_
  refine lv_aload_n hx hb dL_law_362 rfl (lv_at hl 0 rfl) ?_
  refine lv_iload_n hx hb dL_law_363 rfl (lv_at hl 3 rfl) ?_
  refine lv_iconst (v := 2) hx hb dL_law_364 (by decide) ?_
  refine lv_iadd hx hb dL_law_365 ?_
  refine va_sld hx hb hX hbl hbA hS1 (hv 2 (by decide)) dL_law_366 ?_
  refine lw_call (as := [.int (xs ((i + 1).toNatClampNeg)), .int (xs ((i + 2).toNatClampNeg))]) (rest := []) (ci := 12) (T := TX12) (N := 113) C0 hK hN hZ (pM_car hiM) mT_184 rfl cw_2030 cw_2031 cw_2032 yk_184 ⟨s2, qm, hqm, [xs ((i + 1).toNatClampNeg), xs ((i + 2).toNatClampNeg)], rfl, rfl⟩ eM hPM1 s7 hS1 (by decide) hl.1 dL_law_367 (fun ov wsM1 H2 locs2 hQ hadM hP2 hD2 hk2 hS2 => ?_)
  have hPX2 := lw_kept (mI_ad s2) i1.1 hP1 (fun i j q h1 h2 => hap j i q h2 h1) hk2
  obtain ⟨⟨z2, rfl⟩, t2, i2⟩ := hQ
  refine lv_pop hx hb dL_law_370 rfl ?_
  refine lv_goto (tgt := 1237) hx hb dL_law_371 (by decide) ?_
  exact kk wsX1 wsM1 H2 locs2 ⟨i1, i2, by omega, hPX2, hP2, hD1, hD2, hS2⟩
theorem law_speed (C0 : lw_At p s m meth c b L xs) (hK : va_K D vwCl (ri_tys κ) s) (hN : ri_N s) (hZ : rc_Z D [] s) (hiX : ∀ (i j q : Nat), adX[i]? = some q → adX[j]? = some q → i = j) (hiM : ∀ (i j q : Nat), adM[i]? = some q → adM[j]? = some q → i = j) (hap : ∀ (i j q : Nat), adX[i]? = some q → adM[j]? = some q → False) {qx qm : Nat} (hqx : adX[0]? = some qx) (hqm : adM[0]? = some qm) {i : Int32} (hv : ∀ j : Int32, 1 ≤ j.toInt ∧ j.toInt ≤ 5 → vp_in (i + j) L) {wsX wsM : va_W} {H : Heap} {locs : List Loc} (hLS : lw_LS s κ D adX adM wsX wsM H locs) {ls : Array Slot} (hl : lv_has ls 4 [(0, .ref b), (1, .ref qx), (2, .ref qm), (3, .int i)]) (kk : ∀ (wsX1 wsM1 : va_W) (H1 : Heap) (locs1 : List Loc), lw_LS s κ D adX adM wsX1 wsM1 H1 locs1 → W p l e room_1 s m #[Value.ref b] below meth c H1 locs1 211 15503 (lw_Z below #[Value.ref b] s) (F0 m 1237 ls [])) : W p l e room_1 s m #[Value.ref b] below meth c H locs 211 15503 (lw_Z below #[Value.ref b] s) (F0 m 374 ls []) := by
  obtain ⟨hx, hb, hr, hml, hown, hts0, hX, hbl, hlocks, hgv⟩ := id C0
  have hbA : ¬ (fun q : Nat => s.heap.size ≤ q) b := Nat.not_le.mpr hbl
  obtain ⟨s1, s2, s3, s4, s5, s6, s7, s8⟩ := hLS
  obtain ⟨vX, eX⟩ := xI_cell s1 hqx
  obtain ⟨vM, eM⟩ := mI_cell s2 hqm
  refine lv_aload_n hx hb dL_law_374 rfl (lv_at hl 1 rfl) ?_
  refine lv_aload_n hx hb dL_law_375 rfl (lv_at hl 0 rfl) ?_
  refine lv_iload_n hx hb dL_law_376 rfl (lv_at hl 3 rfl) ?_
  refine lv_iconst (v := 1) hx hb dL_law_377 (by decide) ?_
  refine lv_iadd hx hb dL_law_378 ?_
  refine va_sld hx hb hX hbl hbA s8 (hv 1 (by decide)) dL_law_379 ?_
  refine lw_call (as := [.int (xs ((i + 1).toNatClampNeg))]) (rest := []) (ci := 11) (T := TX11) (N := 11) C0 hK hN hZ (pX_speed hiX) mT_164 rfl cw_1111 cw_1112 cw_1113 yk_164 ⟨s1, qx, hqx, [xs ((i + 1).toNatClampNeg)], rfl, rfl⟩ eX s4 s6 s8 (by decide) hl.1 dL_law_380 (fun ov wsX1 H1 locs1 hQ hadX hP1 hD1 hk1 hS1 => ?_)
  have hPM1 := lw_kept s1.1 (mI_ad s2) s5 hap hk1
  obtain ⟨⟨z1, rfl⟩, t1, i1⟩ := hQ
  refine lv_pop hx hb dL_law_383 rfl ?_
  refine lv_aload_n hx hb dL_law_384 rfl (lv_at hl 2 rfl) ?_
  refine lv_aload_n hx hb dL_law_385 rfl (lv_at hl 0 rfl) ?_
  refine lv_iload_n hx hb dL_law_386 rfl (lv_at hl 3 rfl) ?_
  refine lv_iconst (v := 1) hx hb dL_law_387 (by decide) ?_
  refine lv_iadd hx hb dL_law_388 ?_
  refine va_sld hx hb hX hbl hbA hS1 (hv 1 (by decide)) dL_law_389 ?_
  refine lw_call (as := [.int (xs ((i + 1).toNatClampNeg))]) (rest := []) (ci := 12) (T := TX12) (N := 113) C0 hK hN hZ (pM_speed hiM) mT_277 rfl cw_2038 cw_2039 cw_2040 yk_277 ⟨s2, qm, hqm, [xs ((i + 1).toNatClampNeg)], rfl, rfl⟩ eM hPM1 s7 hS1 (by decide) hl.1 dL_law_390 (fun ov wsM1 H2 locs2 hQ hadM hP2 hD2 hk2 hS2 => ?_)
  have hPX2 := lw_kept (mI_ad s2) i1.1 hP1 (fun i j q h1 h2 => hap j i q h2 h1) hk2
  obtain ⟨⟨z2, rfl⟩, t2, i2⟩ := hQ
  refine lv_pop hx hb dL_law_393 rfl ?_
  refine lv_goto (tgt := 1237) hx hb dL_law_394 (by decide) ?_
  exact kk wsX1 wsM1 H2 locs2 ⟨i1, i2, by omega, hPX2, hP2, hD1, hD2, hS2⟩
theorem law_rope (C0 : lw_At p s m meth c b L xs) (hK : va_K D vwCl (ri_tys κ) s) (hN : ri_N s) (hZ : rc_Z D [] s) (hiX : ∀ (i j q : Nat), adX[i]? = some q → adX[j]? = some q → i = j) (hiM : ∀ (i j q : Nat), adM[i]? = some q → adM[j]? = some q → i = j) (hap : ∀ (i j q : Nat), adX[i]? = some q → adM[j]? = some q → False) {qx qm : Nat} (hqx : adX[0]? = some qx) (hqm : adM[0]? = some qm) {i : Int32} (hv : ∀ j : Int32, 1 ≤ j.toInt ∧ j.toInt ≤ 5 → vp_in (i + j) L) {wsX wsM : va_W} {H : Heap} {locs : List Loc} (hLS : lw_LS s κ D adX adM wsX wsM H locs) {ls : Array Slot} (hl : lv_has ls 4 [(0, .ref b), (1, .ref qx), (2, .ref qm), (3, .int i)]) (kk : ∀ (wsX1 wsM1 : va_W) (H1 : Heap) (locs1 : List Loc), lw_LS s κ D adX adM wsX1 wsM1 H1 locs1 → W p l e room_1 s m #[Value.ref b] below meth c H1 locs1 211 15503 (lw_Z below #[Value.ref b] s) (F0 m 1237 ls [])) : W p l e room_1 s m #[Value.ref b] below meth c H locs 211 15503 (lw_Z below #[Value.ref b] s) (F0 m 397 ls []) := by
  obtain ⟨hx, hb, hr, hml, hown, hts0, hX, hbl, hlocks, hgv⟩ := id C0
  have hbA : ¬ (fun q : Nat => s.heap.size ≤ q) b := Nat.not_le.mpr hbl
  obtain ⟨s1, s2, s3, s4, s5, s6, s7, s8⟩ := hLS
  obtain ⟨vX, eX⟩ := xI_cell s1 hqx
  obtain ⟨vM, eM⟩ := mI_cell s2 hqm
  refine lv_aload_n hx hb dL_law_397 rfl (lv_at hl 1 rfl) ?_
  refine lv_aload_n hx hb dL_law_398 rfl (lv_at hl 0 rfl) ?_
  refine lv_iload_n hx hb dL_law_399 rfl (lv_at hl 3 rfl) ?_
  refine lv_iconst (v := 1) hx hb dL_law_400 (by decide) ?_
  refine lv_iadd hx hb dL_law_401 ?_
  refine va_sld hx hb hX hbl hbA s8 (hv 1 (by decide)) dL_law_402 ?_
  refine lv_aload_n hx hb dL_law_403 rfl (lv_at hl 0 rfl) ?_
  refine lv_iload_n hx hb dL_law_404 rfl (lv_at hl 3 rfl) ?_
  refine lv_iconst (v := 2) hx hb dL_law_405 (by decide) ?_
  refine lv_iadd hx hb dL_law_406 ?_
  refine va_sld hx hb hX hbl hbA s8 (hv 2 (by decide)) dL_law_407 ?_
  refine lw_call (as := [.int (xs ((i + 1).toNatClampNeg)), .int (xs ((i + 2).toNatClampNeg))]) (rest := []) (ci := 11) (T := TX11) (N := 11) C0 hK hN hZ (pX_rope hiX) mT_161 rfl cw_1115 cw_1116 cw_1117 yk_161 ⟨s1, qx, hqx, [xs ((i + 1).toNatClampNeg), xs ((i + 2).toNatClampNeg)], rfl, rfl⟩ eX s4 s6 s8 (by decide) hl.1 dL_law_408 (fun ov wsX1 H1 locs1 hQ hadX hP1 hD1 hk1 hS1 => ?_)
  have hPM1 := lw_kept s1.1 (mI_ad s2) s5 hap hk1
  obtain ⟨⟨z1, rfl⟩, t1, i1⟩ := hQ
  refine lv_pop hx hb dL_law_411 rfl ?_
  refine lv_aload_n hx hb dL_law_412 rfl (lv_at hl 2 rfl) ?_
  refine lv_aload_n hx hb dL_law_413 rfl (lv_at hl 0 rfl) ?_
  refine lv_iload_n hx hb dL_law_414 rfl (lv_at hl 3 rfl) ?_
  refine lv_iconst (v := 1) hx hb dL_law_415 (by decide) ?_
  refine lv_iadd hx hb dL_law_416 ?_
  refine va_sld hx hb hX hbl hbA hS1 (hv 1 (by decide)) dL_law_417 ?_
  refine lv_aload_n hx hb dL_law_418 rfl (lv_at hl 0 rfl) ?_
  refine lv_iload_n hx hb dL_law_419 rfl (lv_at hl 3 rfl) ?_
  refine lv_iconst (v := 2) hx hb dL_law_420 (by decide) ?_
  refine lv_iadd hx hb dL_law_421 ?_
  refine va_sld hx hb hX hbl hbA hS1 (hv 2 (by decide)) dL_law_422 ?_
  refine lw_call (as := [.int (xs ((i + 1).toNatClampNeg)), .int (xs ((i + 2).toNatClampNeg))]) (rest := []) (ci := 12) (T := TX12) (N := 113) C0 hK hN hZ (pM_rope hiM) mT_267 rfl cw_2042 cw_2043 cw_2044 yk_267 ⟨s2, qm, hqm, [xs ((i + 1).toNatClampNeg), xs ((i + 2).toNatClampNeg)], rfl, rfl⟩ eM hPM1 s7 hS1 (by decide) hl.1 dL_law_423 (fun ov wsM1 H2 locs2 hQ hadM hP2 hD2 hk2 hS2 => ?_)
  have hPX2 := lw_kept (mI_ad s2) i1.1 hP1 (fun i j q h1 h2 => hap j i q h2 h1) hk2
  obtain ⟨⟨z2, rfl⟩, t2, i2⟩ := hQ
  refine lv_pop hx hb dL_law_426 rfl ?_
  refine lv_goto (tgt := 1237) hx hb dL_law_427 (by decide) ?_
  exact kk wsX1 wsM1 H2 locs2 ⟨i1, i2, by omega, hPX2, hP2, hD1, hD2, hS2⟩
theorem law_count (C0 : lw_At p s m meth c b L xs) (hK : va_K D vwCl (ri_tys κ) s) (hN : ri_N s) (hZ : rc_Z D [] s) (hiX : ∀ (i j q : Nat), adX[i]? = some q → adX[j]? = some q → i = j) (hiM : ∀ (i j q : Nat), adM[i]? = some q → adM[j]? = some q → i = j) (hap : ∀ (i j q : Nat), adX[i]? = some q → adM[j]? = some q → False) {qx qm : Nat} (hqx : adX[0]? = some qx) (hqm : adM[0]? = some qm) {i : Int32} (hv : ∀ j : Int32, 1 ≤ j.toInt ∧ j.toInt ≤ 5 → vp_in (i + j) L) {wsX wsM : va_W} {H : Heap} {locs : List Loc} (hLS : lw_LS s κ D adX adM wsX wsM H locs) {ls : Array Slot} (hl : lv_has ls 4 [(0, .ref b), (1, .ref qx), (2, .ref qm), (3, .int i)]) (kk : ∀ (wsX1 wsM1 : va_W) (H1 : Heap) (locs1 : List Loc), lw_LS s κ D adX adM wsX1 wsM1 H1 locs1 → W p l e room_1 s m #[Value.ref b] below meth c H1 locs1 211 15503 (lw_Z below #[Value.ref b] s) (F0 m 1237 ls [])) : W p l e room_1 s m #[Value.ref b] below meth c H locs 211 15503 (lw_Z below #[Value.ref b] s) (F0 m 430 ls []) := by
  obtain ⟨hx, hb, hr, hml, hown, hts0, hX, hbl, hlocks, hgv⟩ := id C0
  have hbA : ¬ (fun q : Nat => s.heap.size ≤ q) b := Nat.not_le.mpr hbl
  obtain ⟨s1, s2, s3, s4, s5, s6, s7, s8⟩ := hLS
  obtain ⟨vX, eX⟩ := xI_cell s1 hqx
  obtain ⟨vM, eM⟩ := mI_cell s2 hqm
  refine lv_aload_n hx hb dL_law_430 rfl (lv_at hl 1 rfl) ?_
  refine lv_aload_n hx hb dL_law_431 rfl (lv_at hl 0 rfl) ?_
  refine lv_iload_n hx hb dL_law_432 rfl (lv_at hl 3 rfl) ?_
  refine lv_iconst (v := 1) hx hb dL_law_433 (by decide) ?_
  refine lv_iadd hx hb dL_law_434 ?_
  refine va_sld hx hb hX hbl hbA s8 (hv 1 (by decide)) dL_law_435 ?_
  refine lw_call (as := [.int (xs ((i + 1).toNatClampNeg))]) (rest := []) (ci := 11) (T := TX11) (N := 11) C0 hK hN hZ (pX_count hiX) mT_141 rfl cw_1122 cw_1123 cw_1124 yk_141 ⟨s1, qx, hqx, [xs ((i + 1).toNatClampNeg)], rfl, rfl⟩ eX s4 s6 s8 (by decide) hl.1 dL_law_436 (fun ov wsX1 H1 locs1 hQ hadX hP1 hD1 hk1 hS1 => ?_)
  have hPM1 := lw_kept s1.1 (mI_ad s2) s5 hap hk1
  obtain ⟨⟨z1, rfl⟩, t1, i1⟩ := hQ
  refine lv_pop hx hb dL_law_439 rfl ?_
  refine lv_aload_n hx hb dL_law_440 rfl (lv_at hl 2 rfl) ?_
  refine lv_aload_n hx hb dL_law_441 rfl (lv_at hl 0 rfl) ?_
  refine lv_iload_n hx hb dL_law_442 rfl (lv_at hl 3 rfl) ?_
  refine lv_iconst (v := 1) hx hb dL_law_443 (by decide) ?_
  refine lv_iadd hx hb dL_law_444 ?_
  refine va_sld hx hb hX hbl hbA hS1 (hv 1 (by decide)) dL_law_445 ?_
  refine lw_call (as := [.int (xs ((i + 1).toNatClampNeg))]) (rest := []) (ci := 12) (T := TX12) (N := 113) C0 hK hN hZ (pM_count hiM) mT_193 rfl cw_2050 cw_2051 cw_2052 yk_193 ⟨s2, qm, hqm, [xs ((i + 1).toNatClampNeg)], rfl, rfl⟩ eM hPM1 s7 hS1 (by decide) hl.1 dL_law_446 (fun ov wsM1 H2 locs2 hQ hadM hP2 hD2 hk2 hS2 => ?_)
  have hPX2 := lw_kept (mI_ad s2) i1.1 hP1 (fun i j q h1 h2 => hap j i q h2 h1) hk2
  obtain ⟨⟨z2, rfl⟩, t2, i2⟩ := hQ
  refine lv_pop hx hb dL_law_449 rfl ?_
  refine lv_goto (tgt := 1237) hx hb dL_law_450 (by decide) ?_
  exact kk wsX1 wsM1 H2 locs2 ⟨i1, i2, by omega, hPX2, hP2, hD1, hD2, hS2⟩
theorem law_strand (C0 : lw_At p s m meth c b L xs) (hK : va_K D vwCl (ri_tys κ) s) (hN : ri_N s) (hZ : rc_Z D [] s) (hiX : ∀ (i j q : Nat), adX[i]? = some q → adX[j]? = some q → i = j) (hiM : ∀ (i j q : Nat), adM[i]? = some q → adM[j]? = some q → i = j) (hap : ∀ (i j q : Nat), adX[i]? = some q → adM[j]? = some q → False) {qx qm : Nat} (hqx : adX[0]? = some qx) (hqm : adM[0]? = some qm) {i : Int32} (hv : ∀ j : Int32, 1 ≤ j.toInt ∧ j.toInt ≤ 5 → vp_in (i + j) L) {wsX wsM : va_W} {H : Heap} {locs : List Loc} (hLS : lw_LS s κ D adX adM wsX wsM H locs) {ls : Array Slot} (hl : lv_has ls 4 [(0, .ref b), (1, .ref qx), (2, .ref qm), (3, .int i)]) (kk : ∀ (wsX1 wsM1 : va_W) (H1 : Heap) (locs1 : List Loc), lw_LS s κ D adX adM wsX1 wsM1 H1 locs1 → W p l e room_1 s m #[Value.ref b] below meth c H1 locs1 211 15503 (lw_Z below #[Value.ref b] s) (F0 m 1237 ls [])) : W p l e room_1 s m #[Value.ref b] below meth c H locs 211 15503 (lw_Z below #[Value.ref b] s) (F0 m 453 ls []) := by
  obtain ⟨hx, hb, hr, hml, hown, hts0, hX, hbl, hlocks, hgv⟩ := id C0
  have hbA : ¬ (fun q : Nat => s.heap.size ≤ q) b := Nat.not_le.mpr hbl
  obtain ⟨s1, s2, s3, s4, s5, s6, s7, s8⟩ := hLS
  obtain ⟨vX, eX⟩ := xI_cell s1 hqx
  obtain ⟨vM, eM⟩ := mI_cell s2 hqm
  refine lv_aload_n hx hb dL_law_453 rfl (lv_at hl 1 rfl) ?_
  refine lv_aload_n hx hb dL_law_454 rfl (lv_at hl 0 rfl) ?_
  refine lv_iload_n hx hb dL_law_455 rfl (lv_at hl 3 rfl) ?_
  refine lv_iconst (v := 1) hx hb dL_law_456 (by decide) ?_
  refine lv_iadd hx hb dL_law_457 ?_
  refine va_sld hx hb hX hbl hbA s8 (hv 1 (by decide)) dL_law_458 ?_
  refine lv_aload_n hx hb dL_law_459 rfl (lv_at hl 0 rfl) ?_
  refine lv_iload_n hx hb dL_law_460 rfl (lv_at hl 3 rfl) ?_
  refine lv_iconst (v := 2) hx hb dL_law_461 (by decide) ?_
  refine lv_iadd hx hb dL_law_462 ?_
  refine va_sld hx hb hX hbl hbA s8 (hv 2 (by decide)) dL_law_463 ?_
  refine lw_call (as := [.int (xs ((i + 1).toNatClampNeg)), .int (xs ((i + 2).toNatClampNeg))]) (rest := []) (ci := 11) (T := TX11) (N := 11) C0 hK hN hZ (pX_strand hiX) mT_167 rfl cw_1126 cw_1127 cw_1128 yk_167 ⟨s1, qx, hqx, [xs ((i + 1).toNatClampNeg), xs ((i + 2).toNatClampNeg)], rfl, rfl⟩ eX s4 s6 s8 (by decide) hl.1 dL_law_464 (fun ov wsX1 H1 locs1 hQ hadX hP1 hD1 hk1 hS1 => ?_)
  have hPM1 := lw_kept s1.1 (mI_ad s2) s5 hap hk1
  obtain ⟨⟨z1, rfl⟩, t1, i1⟩ := hQ
  refine lv_pop hx hb dL_law_467 rfl ?_
  refine lv_aload_n hx hb dL_law_468 rfl (lv_at hl 2 rfl) ?_
  refine lv_aload_n hx hb dL_law_469 rfl (lv_at hl 0 rfl) ?_
  refine lv_iload_n hx hb dL_law_470 rfl (lv_at hl 3 rfl) ?_
  refine lv_iconst (v := 1) hx hb dL_law_471 (by decide) ?_
  refine lv_iadd hx hb dL_law_472 ?_
  refine va_sld hx hb hX hbl hbA hS1 (hv 1 (by decide)) dL_law_473 ?_
  refine lv_aload_n hx hb dL_law_474 rfl (lv_at hl 0 rfl) ?_
  refine lv_iload_n hx hb dL_law_475 rfl (lv_at hl 3 rfl) ?_
  refine lv_iconst (v := 2) hx hb dL_law_476 (by decide) ?_
  refine lv_iadd hx hb dL_law_477 ?_
  refine va_sld hx hb hX hbl hbA hS1 (hv 2 (by decide)) dL_law_478 ?_
  refine lw_call (as := [.int (xs ((i + 1).toNatClampNeg)), .int (xs ((i + 2).toNatClampNeg))]) (rest := []) (ci := 12) (T := TX12) (N := 113) C0 hK hN hZ (pM_strand hiM) mT_280 rfl cw_2054 cw_2055 cw_2056 yk_280 ⟨s2, qm, hqm, [xs ((i + 1).toNatClampNeg), xs ((i + 2).toNatClampNeg)], rfl, rfl⟩ eM hPM1 s7 hS1 (by decide) hl.1 dL_law_479 (fun ov wsM1 H2 locs2 hQ hadM hP2 hD2 hk2 hS2 => ?_)
  have hPX2 := lw_kept (mI_ad s2) i1.1 hP1 (fun i j q h1 h2 => hap j i q h2 h1) hk2
  obtain ⟨⟨z2, rfl⟩, t2, i2⟩ := hQ
  refine lv_pop hx hb dL_law_482 rfl ?_
  refine lv_goto (tgt := 1237) hx hb dL_law_483 (by decide) ?_
  exact kk wsX1 wsM1 H2 locs2 ⟨i1, i2, by omega, hPX2, hP2, hD1, hD2, hS2⟩
end LW
