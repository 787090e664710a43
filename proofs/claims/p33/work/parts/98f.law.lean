section LW
variable {p : Program} {l : Launch} {e : Env} {s : State} {m : MethodId} {below : List Frame} {meth : Method} {c : Code} {b L : Nat} {xs : Nat → Int32} {D : va_G} {κ : Nat → ClassId} {adX adM : List Nat}
theorem law_where (C0 : lw_At p s m meth c b L xs) (hK : va_K D vwCl (ri_tys κ) s) (hN : ri_N s) (hZ : rc_Z D [] s) (hiX : ∀ (i j q : Nat), adX[i]? = some q → adX[j]? = some q → i = j) (hiM : ∀ (i j q : Nat), adM[i]? = some q → adM[j]? = some q → i = j) (hap : ∀ (i j q : Nat), adX[i]? = some q → adM[j]? = some q → False) {qx qm : Nat} (hqx : adX[0]? = some qx) (hqm : adM[0]? = some qm) {i : Int32} (hv : ∀ j : Int32, 1 ≤ j.toInt ∧ j.toInt ≤ 5 → vp_in (i + j) L) {wsX wsM : va_W} {H : Heap} {locs : List Loc} (hLS : lw_LS s κ D adX adM wsX wsM H locs) {ls : Array Slot} (hl : lv_has ls 4 [(0, .ref b), (1, .ref qx), (2, .ref qm), (3, .int i)]) (kk : ∀ (wsX1 wsM1 : va_W) (H1 : Heap) (locs1 : List Loc), lw_LS s κ D adX adM wsX1 wsM1 H1 locs1 → W p l e room_1 s m #[Value.ref b] below meth c H1 locs1 211 15503 (lw_Z below #[Value.ref b] s) (F0 m 1237 ls [])) : W p l e room_1 s m #[Value.ref b] below meth c H locs 211 15503 (lw_Z below #[Value.ref b] s) (F0 m 970 ls []) := by
  obtain ⟨hx, hb, hr, hml, hown, hts0, hX, hbl, hlocks, hgv⟩ := id C0
  have hbA : ¬ (fun q : Nat => s.heap.size ≤ q) b := Nat.not_le.mpr hbl
  obtain ⟨s1, s2, s3, s4, s5, s6, s7, s8⟩ := hLS
  obtain ⟨vX, eX⟩ := xI_cell s1 hqx
  obtain ⟨vM, eM⟩ := mI_cell s2 hqm
  refine lv_aload_n hx hb dL_law_970 rfl (lv_at hl 1 rfl) ?_
  refine lv_aload_n hx hb dL_law_971 rfl (lv_at hl 0 rfl) ?_
  refine lv_iload_n hx hb dL_law_972 rfl (lv_at hl 3 rfl) ?_
  refine lv_iconst (v := 1) hx hb dL_law_973 (by decide) ?_
  refine lv_iadd hx hb dL_law_974 ?_
  refine va_sld hx hb hX hbl hbA s8 (hv 1 (by decide)) dL_law_975 ?_
  refine lv_aload_n hx hb dL_law_976 rfl (lv_at hl 0 rfl) ?_
  refine lv_iload_n hx hb dL_law_977 rfl (lv_at hl 3 rfl) ?_
  refine lv_iconst (v := 2) hx hb dL_law_978 (by decide) ?_
  refine lv_iadd hx hb dL_law_979 ?_
  refine va_sld hx hb hX hbl hbA s8 (hv 2 (by decide)) dL_law_980 ?_
  refine lv_aload_n hx hb dL_law_981 rfl (lv_at hl 0 rfl) ?_
  refine lv_iload_n hx hb dL_law_982 rfl (lv_at hl 3 rfl) ?_
  refine lv_iconst (v := 3) hx hb dL_law_983 (by decide) ?_
  refine lv_iadd hx hb dL_law_984 ?_
  refine va_sld hx hb hX hbl hbA s8 (hv 3 (by decide)) dL_law_985 ?_
  refine lw_call (as := [.int (xs ((i + 1).toNatClampNeg)), .int (xs ((i + 2).toNatClampNeg)), .int (xs ((i + 3).toNatClampNeg))]) (rest := []) (ci := 11) (T := TX11) (N := 11) C0 hK hN hZ (pX_where hiX) mT_173 rfl cw_1296 cw_1297 cw_1298 yk_173 ⟨s1, qx, hqx, [xs ((i + 1).toNatClampNeg), xs ((i + 2).toNatClampNeg), xs ((i + 3).toNatClampNeg)], rfl, rfl⟩ eX s4 s6 s8 (by decide) hl.1 dL_law_986 (fun ov wsX1 H1 locs1 hQ hadX hP1 hD1 hk1 hS1 => ?_)
  have hPM1 := lw_kept s1.1 (mI_ad s2) s5 hap hk1
  obtain ⟨⟨z1, rfl⟩, t1, i1⟩ := hQ
  refine lv_pop hx hb dL_law_989 rfl ?_
  refine lv_aload_n hx hb dL_law_990 rfl (lv_at hl 2 rfl) ?_
  refine lv_aload_n hx hb dL_law_991 rfl (lv_at hl 0 rfl) ?_
  refine lv_iload_n hx hb dL_law_992 rfl (lv_at hl 3 rfl) ?_
  refine lv_iconst (v := 1) hx hb dL_law_993 (by decide) ?_
  refine lv_iadd hx hb dL_law_994 ?_
  refine va_sld hx hb hX hbl hbA hS1 (hv 1 (by decide)) dL_law_995 ?_
  refine lv_aload_n hx hb dL_law_996 rfl (lv_at hl 0 rfl) ?_
  refine lv_iload_n hx hb dL_law_997 rfl (lv_at hl 3 rfl) ?_
  refine lv_iconst (v := 2) hx hb dL_law_998 (by decide) ?_
  refine lv_iadd hx hb dL_law_999 ?_
  refine va_sld hx hb hX hbl hbA hS1 (hv 2 (by decide)) dL_law_1000 ?_
  refine lv_aload_n hx hb dL_law_1001 rfl (lv_at hl 0 rfl) ?_
  refine lv_iload_n hx hb dL_law_1002 rfl (lv_at hl 3 rfl) ?_
  refine lv_iconst (v := 3) hx hb dL_law_1003 (by decide) ?_
  refine lv_iadd hx hb dL_law_1004 ?_
  refine va_sld hx hb hX hbl hbA hS1 (hv 3 (by decide)) dL_law_1005 ?_
  refine lw_call (as := [.int (xs ((i + 1).toNatClampNeg)), .int (xs ((i + 2).toNatClampNeg)), .int (xs ((i + 3).toNatClampNeg))]) (rest := []) (ci := 12) (T := TX12) (N := 113) C0 hK hN hZ (pM_where hiM) mT_293 rfl cw_2170 cw_2171 cw_2172 yk_293 ⟨s2, qm, hqm, [xs ((i + 1).toNatClampNeg), xs ((i + 2).toNatClampNeg), xs ((i + 3).toNatClampNeg)], rfl, rfl⟩ eM hPM1 s7 hS1 (by decide) hl.1 dL_law_1006 (fun ov wsM1 H2 locs2 hQ hadM hP2 hD2 hk2 hS2 => ?_)
  have hPX2 := lw_kept (mI_ad s2) i1.1 hP1 (fun i j q h1 h2 => hap j i q h2 h1) hk2
  obtain ⟨⟨z2, rfl⟩, t2, i2⟩ := hQ
  refine lv_pop hx hb dL_law_1009 rfl ?_
  refine lv_goto (tgt := 1237) hx hb dL_law_1010 (by decide) ?_
  exact kk wsX1 wsM1 H2 locs2 ⟨i1, i2, by omega, hPX2, hP2, hD1, hD2, hS2⟩
theorem law_log (C0 : lw_At p s m meth c b L xs) (hK : va_K D vwCl (ri_tys κ) s) (hN : ri_N s) (hZ : rc_Z D [] s) (hiX : ∀ (i j q : Nat), adX[i]? = some q → adX[j]? = some q → i = j) (hiM : ∀ (i j q : Nat), adM[i]? = some q → adM[j]? = some q → i = j) (hap : ∀ (i j q : Nat), adX[i]? = some q → adM[j]? = some q → False) {qx qm : Nat} (hqx : adX[0]? = some qx) (hqm : adM[0]? = some qm) {i : Int32} (hv : ∀ j : Int32, 1 ≤ j.toInt ∧ j.toInt ≤ 5 → vp_in (i + j) L) {wsX wsM : va_W} {H : Heap} {locs : List Loc} (hLS : lw_LS s κ D adX adM wsX wsM H locs) {ls : Array Slot} (hl : lv_has ls 4 [(0, .ref b), (1, .ref qx), (2, .ref qm), (3, .int i)]) (kk : ∀ (wsX1 wsM1 : va_W) (H1 : Heap) (locs1 : List Loc), lw_LS s κ D adX adM wsX1 wsM1 H1 locs1 → W p l e room_1 s m #[Value.ref b] below meth c H1 locs1 211 15503 (lw_Z below #[Value.ref b] s) (F0 m 1237 ls [])) : W p l e room_1 s m #[Value.ref b] below meth c H locs 211 15503 (lw_Z below #[Value.ref b] s) (F0 m 1013 ls []) := by
  obtain ⟨hx, hb, hr, hml, hown, hts0, hX, hbl, hlocks, hgv⟩ := id C0
  have hbA : ¬ (fun q : Nat => s.heap.size ≤ q) b := Nat.not_le.mpr hbl
  obtain ⟨s1, s2, s3, s4, s5, s6, s7, s8⟩ := hLS
  obtain ⟨vX, eX⟩ := xI_cell s1 hqx
  obtain ⟨vM, eM⟩ := mI_cell s2 hqm
  refine lv_aload_n hx hb dL_law_1013 rfl (lv_at hl 1 rfl) ?_
  refine lv_aload_n hx hb dL_law_1014 rfl (lv_at hl 0 rfl) ?_
  refine lv_iload_n hx hb dL_law_1015 rfl (lv_at hl 3 rfl) ?_
  refine lv_iconst (v := 1) hx hb dL_law_1016 (by decide) ?_
  refine lv_iadd hx hb dL_law_1017 ?_
  refine va_sld hx hb hX hbl hbA s8 (hv 1 (by decide)) dL_law_1018 ?_
  refine lv_aload_n hx hb dL_law_1019 rfl (lv_at hl 0 rfl) ?_
  refine lv_iload_n hx hb dL_law_1020 rfl (lv_at hl 3 rfl) ?_
  refine lv_iconst (v := 2) hx hb dL_law_1021 (by decide) ?_
  refine lv_iadd hx hb dL_law_1022 ?_
  refine va_sld hx hb hX hbl hbA s8 (hv 2 (by decide)) dL_law_1023 ?_
  refine lv_aload_n hx hb dL_law_1024 rfl (lv_at hl 0 rfl) ?_
  refine lv_iload_n hx hb dL_law_1025 rfl (lv_at hl 3 rfl) ?_
  refine lv_iconst (v := 3) hx hb dL_law_1026 (by decide) ?_
  refine lv_iadd hx hb dL_law_1027 ?_
  refine va_sld hx hb hX hbl hbA s8 (hv 3 (by decide)) dL_law_1028 ?_
  refine lw_call (as := [.int (xs ((i + 1).toNatClampNeg)), .int (xs ((i + 2).toNatClampNeg)), .int (xs ((i + 3).toNatClampNeg))]) (rest := []) (ci := 11) (T := TX11) (N := 11) C0 hK hN hZ (pX_log hiX) mT_154 rfl cw_1301 cw_1302 cw_1303 yk_154 ⟨s1, qx, hqx, [xs ((i + 1).toNatClampNeg), xs ((i + 2).toNatClampNeg), xs ((i + 3).toNatClampNeg)], rfl, rfl⟩ eX s4 s6 s8 (by decide) hl.1 dL_law_1029 (fun ov wsX1 H1 locs1 hQ hadX hP1 hD1 hk1 hS1 => ?_)
  have hPM1 := lw_kept s1.1 (mI_ad s2) s5 hap hk1
  obtain ⟨⟨z1, rfl⟩, t1, i1⟩ := hQ
  refine lv_pop hx hb dL_law_1032 rfl ?_
  refine lv_aload_n hx hb dL_law_1033 rfl (lv_at hl 2 rfl) ?_
  refine lv_aload_n hx hb dL_law_1034 rfl (lv_at hl 0 rfl) ?_
  refine lv_iload_n hx hb dL_law_1035 rfl (lv_at hl 3 rfl) ?_
  refine lv_iconst (v := 1) hx hb dL_law_1036 (by decide) ?_
  refine lv_iadd hx hb dL_law_1037 ?_
  refine va_sld hx hb hX hbl hbA hS1 (hv 1 (by decide)) dL_law_1038 ?_
  refine lv_aload_n hx hb dL_law_1039 rfl (lv_at hl 0 rfl) ?_
  refine lv_iload_n hx hb dL_law_1040 rfl (lv_at hl 3 rfl) ?_
  refine lv_iconst (v := 2) hx hb dL_law_1041 (by decide) ?_
  refine lv_iadd hx hb dL_law_1042 ?_
  refine va_sld hx hb hX hbl hbA hS1 (hv 2 (by decide)) dL_law_1043 ?_
  refine lv_aload_n hx hb dL_law_1044 rfl (lv_at hl 0 rfl) ?_
  refine lv_iload_n hx hb dL_law_1045 rfl (lv_at hl 3 rfl) ?_
  refine lv_iconst (v := 3) hx hb dL_law_1046 (by decide) ?_
  refine lv_iadd hx hb dL_law_1047 ?_
  refine va_sld hx hb hX hbl hbA hS1 (hv 3 (by decide)) dL_law_1048 ?_
  refine lw_call (as := [.int (xs ((i + 1).toNatClampNeg)), .int (xs ((i + 2).toNatClampNeg)), .int (xs ((i + 3).toNatClampNeg))]) (rest := []) (ci := 12) (T := TX12) (N := 113) C0 hK hN hZ (pM_log hiM) mT_243 rfl cw_2174 cw_2175 cw_2176 yk_243 ⟨s2, qm, hqm, [xs ((i + 1).toNatClampNeg), xs ((i + 2).toNatClampNeg), xs ((i + 3).toNatClampNeg)], rfl, rfl⟩ eM hPM1 s7 hS1 (by decide) hl.1 dL_law_1049 (fun ov wsM1 H2 locs2 hQ hadM hP2 hD2 hk2 hS2 => ?_)
  have hPX2 := lw_kept (mI_ad s2) i1.1 hP1 (fun i j q h1 h2 => hap j i q h2 h1) hk2
  obtain ⟨⟨z2, rfl⟩, t2, i2⟩ := hQ
  refine lv_pop hx hb dL_law_1052 rfl ?_
  refine lv_goto (tgt := 1237) hx hb dL_law_1053 (by decide) ?_
  exact kk wsX1 wsM1 H2 locs2 ⟨i1, i2, by omega, hPX2, hP2, hD1, hD2, hS2⟩
theorem law_untell (C0 : lw_At p s m meth c b L xs) (hK : va_K D vwCl (ri_tys κ) s) (hN : ri_N s) (hZ : rc_Z D [] s) (hiX : ∀ (i j q : Nat), adX[i]? = some q → adX[j]? = some q → i = j) (hiM : ∀ (i j q : Nat), adM[i]? = some q → adM[j]? = some q → i = j) (hap : ∀ (i j q : Nat), adX[i]? = some q → adM[j]? = some q → False) {qx qm : Nat} (hqx : adX[0]? = some qx) (hqm : adM[0]? = some qm) {i : Int32} (hv : ∀ j : Int32, 1 ≤ j.toInt ∧ j.toInt ≤ 5 → vp_in (i + j) L) {wsX wsM : va_W} {H : Heap} {locs : List Loc} (hLS : lw_LS s κ D adX adM wsX wsM H locs) {ls : Array Slot} (hl : lv_has ls 4 [(0, .ref b), (1, .ref qx), (2, .ref qm), (3, .int i)]) (kk : ∀ (wsX1 wsM1 : va_W) (H1 : Heap) (locs1 : List Loc), lw_LS s κ D adX adM wsX1 wsM1 H1 locs1 → W p l e room_1 s m #[Value.ref b] below meth c H1 locs1 211 15503 (lw_Z below #[Value.ref b] s) (F0 m 1237 ls [])) : W p l e room_1 s m #[Value.ref b] below meth c H locs 211 15503 (lw_Z below #[Value.ref b] s) (F0 m 1056 ls []) := by
  obtain ⟨hx, hb, hr, hml, hown, hts0, hX, hbl, hlocks, hgv⟩ := id C0
  have hbA : ¬ (fun q : Nat => s.heap.size ≤ q) b := Nat.not_le.mpr hbl
  obtain ⟨s1, s2, s3, s4, s5, s6, s7, s8⟩ := hLS
  obtain ⟨vX, eX⟩ := xI_cell s1 hqx
  obtain ⟨vM, eM⟩ := mI_cell s2 hqm
  refine lv_aload_n hx hb dL_law_1056 rfl (lv_at hl 1 rfl) ?_
  refine lv_aload_n hx hb dL_law_1057 rfl (lv_at hl 0 rfl) ?_
  refine lv_iload_n hx hb dL_law_1058 rfl (lv_at hl 3 rfl) ?_
  refine lv_iconst (v := 1) hx hb dL_law_1059 (by decide) ?_
  refine lv_iadd hx hb dL_law_1060 ?_
  refine va_sld hx hb hX hbl hbA s8 (hv 1 (by decide)) dL_law_1061 ?_
  refine lw_call (as := [.int (xs ((i + 1).toNatClampNeg))]) (rest := []) (ci := 11) (T := TX11) (N := 11) C0 hK hN hZ (pX_untell hiX) mT_172 rfl cw_1309 cw_1310 cw_1311 yk_172 ⟨s1, qx, hqx, [xs ((i + 1).toNatClampNeg)], rfl, rfl⟩ eX s4 s6 s8 (by decide) hl.1 dL_law_1062 (fun ov wsX1 H1 locs1 hQ hadX hP1 hD1 hk1 hS1 => ?_)
  have hPM1 := lw_kept s1.1 (mI_ad s2) s5 hap hk1
  obtain ⟨⟨z1, rfl⟩, t1, i1⟩ := hQ
  refine lv_pop hx hb dL_law_1065 rfl ?_
  refine lv_aload_n hx hb dL_law_1066 rfl (lv_at hl 2 rfl) ?_
  refine lv_aload_n hx hb dL_law_1067 rfl (lv_at hl 0 rfl) ?_
  refine lv_iload_n hx hb dL_law_1068 rfl (lv_at hl 3 rfl) ?_
  refine lv_iconst (v := 1) hx hb dL_law_1069 (by decide) ?_
  refine lv_iadd hx hb dL_law_1070 ?_
  refine va_sld hx hb hX hbl hbA hS1 (hv 1 (by decide)) dL_law_1071 ?_
  refine lw_call (as := [.int (xs ((i + 1).toNatClampNeg))]) (rest := []) (ci := 12) (T := TX12) (N := 113) C0 hK hN hZ (pM_untell hiM) mT_290 rfl cw_2178 cw_2179 cw_2180 yk_290 ⟨s2, qm, hqm, [xs ((i + 1).toNatClampNeg)], rfl, rfl⟩ eM hPM1 s7 hS1 (by decide) hl.1 dL_law_1072 (fun ov wsM1 H2 locs2 hQ hadM hP2 hD2 hk2 hS2 => ?_)
  have hPX2 := lw_kept (mI_ad s2) i1.1 hP1 (fun i j q h1 h2 => hap j i q h2 h1) hk2
  obtain ⟨⟨z2, rfl⟩, t2, i2⟩ := hQ
  refine lv_pop hx hb dL_law_1075 rfl ?_
  refine lv_goto (tgt := 1237) hx hb dL_law_1076 (by decide) ?_
  exact kk wsX1 wsM1 H2 locs2 ⟨i1, i2, by omega, hPX2, hP2, hD1, hD2, hS2⟩
theorem law_judge (C0 : lw_At p s m meth c b L xs) (hK : va_K D vwCl (ri_tys κ) s) (hN : ri_N s) (hZ : rc_Z D [] s) (hiX : ∀ (i j q : Nat), adX[i]? = some q → adX[j]? = some q → i = j) (hiM : ∀ (i j q : Nat), adM[i]? = some q → adM[j]? = some q → i = j) (hap : ∀ (i j q : Nat), adX[i]? = some q → adM[j]? = some q → False) {qx qm : Nat} (hqx : adX[0]? = some qx) (hqm : adM[0]? = some qm) {i : Int32} (hv : ∀ j : Int32, 1 ≤ j.toInt ∧ j.toInt ≤ 5 → vp_in (i + j) L) {wsX wsM : va_W} {H : Heap} {locs : List Loc} (hLS : lw_LS s κ D adX adM wsX wsM H locs) {ls : Array Slot} (hl : lv_has ls 4 [(0, .ref b), (1, .ref qx), (2, .ref qm), (3, .int i)]) (kk : ∀ (wsX1 wsM1 : va_W) (H1 : Heap) (locs1 : List Loc), lw_LS s κ D adX adM wsX1 wsM1 H1 locs1 → W p l e room_1 s m #[Value.ref b] below meth c H1 locs1 211 15503 (lw_Z below #[Value.ref b] s) (F0 m 1237 ls [])) : W p l e room_1 s m #[Value.ref b] below meth c H locs 211 15503 (lw_Z below #[Value.ref b] s) (F0 m 1102 ls []) := by
  obtain ⟨hx, hb, hr, hml, hown, hts0, hX, hbl, hlocks, hgv⟩ := id C0
  have hbA : ¬ (fun q : Nat => s.heap.size ≤ q) b := Nat.not_le.mpr hbl
  obtain ⟨s1, s2, s3, s4, s5, s6, s7, s8⟩ := hLS
  obtain ⟨vX, eX⟩ := xI_cell s1 hqx
  obtain ⟨vM, eM⟩ := mI_cell s2 hqm
  refine lv_aload_n hx hb dL_law_1102 rfl (lv_at hl 1 rfl) ?_
  refine lv_aload_n hx hb dL_law_1103 rfl (lv_at hl 0 rfl) ?_
  refine lv_iload_n hx hb dL_law_1104 rfl (lv_at hl 3 rfl) ?_
  refine lv_iconst (v := 1) hx hb dL_law_1105 (by decide) ?_
  refine lv_iadd hx hb dL_law_1106 ?_
  refine va_sld hx hb hX hbl hbA s8 (hv 1 (by decide)) dL_law_1107 ?_
  refine lv_aload_n hx hb dL_law_1108 rfl (lv_at hl 0 rfl) ?_
  refine lv_iload_n hx hb dL_law_1109 rfl (lv_at hl 3 rfl) ?_
  refine lv_iconst (v := 2) hx hb dL_law_1110 (by decide) ?_
  refine lv_iadd hx hb dL_law_1111 ?_
  refine va_sld hx hb hX hbl hbA s8 (hv 2 (by decide)) dL_law_1112 ?_
  refine lw_call (as := [.int (xs ((i + 1).toNatClampNeg)), .int (xs ((i + 2).toNatClampNeg))]) (rest := []) (ci := 11) (T := TX11) (N := 11) C0 hK hN hZ (pX_judge hiX) mT_152 rfl cw_1321 cw_1322 cw_1323 yk_152 ⟨s1, qx, hqx, [xs ((i + 1).toNatClampNeg), xs ((i + 2).toNatClampNeg)], rfl, rfl⟩ eX s4 s6 s8 (by decide) hl.1 dL_law_1113 (fun ov wsX1 H1 locs1 hQ hadX hP1 hD1 hk1 hS1 => ?_)
  have hPM1 := lw_kept s1.1 (mI_ad s2) s5 hap hk1
  obtain ⟨⟨z1, rfl⟩, t1, i1⟩ := hQ
  refine lv_pop hx hb dL_law_1116 rfl ?_
  refine lv_aload_n hx hb dL_law_1117 rfl (lv_at hl 2 rfl) ?_
  refine lv_aload_n hx hb dL_law_1118 rfl (lv_at hl 0 rfl) ?_
  refine lv_iload_n hx hb dL_law_1119 rfl (lv_at hl 3 rfl) ?_
  refine lv_iconst (v := 1) hx hb dL_law_1120 (by decide) ?_
  refine lv_iadd hx hb dL_law_1121 ?_
  refine va_sld hx hb hX hbl hbA hS1 (hv 1 (by decide)) dL_law_1122 ?_
  refine lv_aload_n hx hb dL_law_1123 rfl (lv_at hl 0 rfl) ?_
  refine lv_iload_n hx hb dL_law_1124 rfl (lv_at hl 3 rfl) ?_
  refine lv_iconst (v := 2) hx hb dL_law_1125 (by decide) ?_
  refine lv_iadd hx hb dL_law_1126 ?_
  refine va_sld hx hb hX hbl hbA hS1 (hv 2 (by decide)) dL_law_1127 ?_
  refine lw_call (as := [.int (xs ((i + 1).toNatClampNeg)), .int (xs ((i + 2).toNatClampNeg))]) (rest := []) (ci := 12) (T := TX12) (N := 113) C0 hK hN hZ (pM_judge hiM) mT_236 rfl cw_2186 cw_2187 cw_2188 yk_236 ⟨s2, qm, hqm, [xs ((i + 1).toNatClampNeg), xs ((i + 2).toNatClampNeg)], rfl, rfl⟩ eM hPM1 s7 hS1 (by decide) hl.1 dL_law_1128 (fun ov wsM1 H2 locs2 hQ hadM hP2 hD2 hk2 hS2 => ?_)
  have hPX2 := lw_kept (mI_ad s2) i1.1 hP1 (fun i j q h1 h2 => hap j i q h2 h1) hk2
  obtain ⟨⟨z2, rfl⟩, t2, i2⟩ := hQ
  refine lv_pop hx hb dL_law_1131 rfl ?_
  refine lv_goto (tgt := 1237) hx hb dL_law_1132 (by decide) ?_
  exact kk wsX1 wsM1 H2 locs2 ⟨i1, i2, by omega, hPX2, hP2, hD1, hD2, hS2⟩
theorem law_logged (C0 : lw_At p s m meth c b L xs) (hK : va_K D vwCl (ri_tys κ) s) (hN : ri_N s) (hZ : rc_Z D [] s) (hiX : ∀ (i j q : Nat), adX[i]? = some q → adX[j]? = some q → i = j) (hiM : ∀ (i j q : Nat), adM[i]? = some q → adM[j]? = some q → i = j) (hap : ∀ (i j q : Nat), adX[i]? = some q → adM[j]? = some q → False) {qx qm : Nat} (hqx : adX[0]? = some qx) (hqm : adM[0]? = some qm) {i : Int32} (hv : ∀ j : Int32, 1 ≤ j.toInt ∧ j.toInt ≤ 5 → vp_in (i + j) L) {wsX wsM : va_W} {H : Heap} {locs : List Loc} (hLS : lw_LS s κ D adX adM wsX wsM H locs) {ls : Array Slot} (hl : lv_has ls 4 [(0, .ref b), (1, .ref qx), (2, .ref qm), (3, .int i)]) (kk : ∀ (wsX1 wsM1 : va_W) (H1 : Heap) (locs1 : List Loc), lw_LS s κ D adX adM wsX1 wsM1 H1 locs1 → W p l e room_1 s m #[Value.ref b] below meth c H1 locs1 211 15503 (lw_Z below #[Value.ref b] s) (F0 m 1237 ls [])) : W p l e room_1 s m #[Value.ref b] below meth c H locs 211 15503 (lw_Z below #[Value.ref b] s) (F0 m 1135 ls []) := by
  obtain ⟨hx, hb, hr, hml, hown, hts0, hX, hbl, hlocks, hgv⟩ := id C0
  have hbA : ¬ (fun q : Nat => s.heap.size ≤ q) b := Nat.not_le.mpr hbl
  obtain ⟨s1, s2, s3, s4, s5, s6, s7, s8⟩ := hLS
  obtain ⟨vX, eX⟩ := xI_cell s1 hqx
  obtain ⟨vM, eM⟩ := mI_cell s2 hqm
  refine lv_aload_n hx hb dL_law_1135 rfl (lv_at hl 1 rfl) ?_
  refine lv_aload_n hx hb dL_law_1136 rfl (lv_at hl 0 rfl) ?_
  refine lv_iload_n hx hb dL_law_1137 rfl (lv_at hl 3 rfl) ?_
  refine lv_iconst (v := 1) hx hb dL_law_1138 (by decide) ?_
  refine lv_iadd hx hb dL_law_1139 ?_
  refine va_sld hx hb hX hbl hbA s8 (hv 1 (by decide)) dL_law_1140 ?_
  refine lv_aload_n hx hb dL_law_1141 rfl (lv_at hl 0 rfl) ?_
  refine lv_iload_n hx hb dL_law_1142 rfl (lv_at hl 3 rfl) ?_
  refine lv_iconst (v := 2) hx hb dL_law_1143 (by decide) ?_
  refine lv_iadd hx hb dL_law_1144 ?_
  refine va_sld hx hb hX hbl hbA s8 (hv 2 (by decide)) dL_law_1145 ?_
  refine lw_call (as := [.int (xs ((i + 1).toNatClampNeg)), .int (xs ((i + 2).toNatClampNeg))]) (rest := []) (ci := 11) (T := TX11) (N := 11) C0 hK hN hZ (pX_logged hiX) mT_155 rfl cw_1347 cw_1348 cw_1349 yk_155 ⟨s1, qx, hqx, [xs ((i + 1).toNatClampNeg), xs ((i + 2).toNatClampNeg)], rfl, rfl⟩ eX s4 s6 s8 (by decide) hl.1 dL_law_1146 (fun ov wsX1 H1 locs1 hQ hadX hP1 hD1 hk1 hS1 => ?_)
  have hPM1 := lw_kept s1.1 (mI_ad s2) s5 hap hk1
  obtain ⟨⟨z1, rfl⟩, t1, i1⟩ := hQ
  refine lv_pop hx hb dL_law_1149 rfl ?_
  refine lv_aload_n hx hb dL_law_1150 rfl (lv_at hl 2 rfl) ?_
  refine lv_aload_n hx hb dL_law_1151 rfl (lv_at hl 0 rfl) ?_
  refine lv_iload_n hx hb dL_law_1152 rfl (lv_at hl 3 rfl) ?_
  refine lv_iconst (v := 1) hx hb dL_law_1153 (by decide) ?_
  refine lv_iadd hx hb dL_law_1154 ?_
  refine va_sld hx hb hX hbl hbA hS1 (hv 1 (by decide)) dL_law_1155 ?_
  refine lv_aload_n hx hb dL_law_1156 rfl (lv_at hl 0 rfl) ?_
  refine lv_iload_n hx hb dL_law_1157 rfl (lv_at hl 3 rfl) ?_
  refine lv_iconst (v := 2) hx hb dL_law_1158 (by decide) ?_
  refine lv_iadd hx hb dL_law_1159 ?_
  refine va_sld hx hb hX hbl hbA hS1 (hv 2 (by decide)) dL_law_1160 ?_
  refine lw_call (as := [.int (xs ((i + 1).toNatClampNeg)), .int (xs ((i + 2).toNatClampNeg))]) (rest := []) (ci := 12) (T := TX12) (N := 113) C0 hK hN hZ (pM_logged hiM) mT_244 rfl cw_2198 cw_2199 cw_2200 yk_244 ⟨s2, qm, hqm, [xs ((i + 1).toNatClampNeg), xs ((i + 2).toNatClampNeg)], rfl, rfl⟩ eM hPM1 s7 hS1 (by decide) hl.1 dL_law_1161 (fun ov wsM1 H2 locs2 hQ hadM hP2 hD2 hk2 hS2 => ?_)
  have hPX2 := lw_kept (mI_ad s2) i1.1 hP1 (fun i j q h1 h2 => hap j i q h2 h1) hk2
  obtain ⟨⟨z2, rfl⟩, t2, i2⟩ := hQ
  refine lv_pop hx hb dL_law_1164 rfl ?_
  refine lv_goto (tgt := 1237) hx hb dL_law_1165 (by decide) ?_
  exact kk wsX1 wsM1 H2 locs2 ⟨i1, i2, by omega, hPX2, hP2, hD1, hD2, hS2⟩
theorem law_image (C0 : lw_At p s m meth c b L xs) (hK : va_K D vwCl (ri_tys κ) s) (hN : ri_N s) (hZ : rc_Z D [] s) (hiX : ∀ (i j q : Nat), adX[i]? = some q → adX[j]? = some q → i = j) (hiM : ∀ (i j q : Nat), adM[i]? = some q → adM[j]? = some q → i = j) (hap : ∀ (i j q : Nat), adX[i]? = some q → adM[j]? = some q → False) {qx qm : Nat} (hqx : adX[0]? = some qx) (hqm : adM[0]? = some qm) {i : Int32} (hv : ∀ j : Int32, 1 ≤ j.toInt ∧ j.toInt ≤ 5 → vp_in (i + j) L) {wsX wsM : va_W} {H : Heap} {locs : List Loc} (hLS : lw_LS s κ D adX adM wsX wsM H locs) {ls : Array Slot} (hl : lv_has ls 4 [(0, .ref b), (1, .ref qx), (2, .ref qm), (3, .int i)]) (kk : ∀ (wsX1 wsM1 : va_W) (H1 : Heap) (locs1 : List Loc), lw_LS s κ D adX adM wsX1 wsM1 H1 locs1 → W p l e room_1 s m #[Value.ref b] below meth c H1 locs1 211 15503 (lw_Z below #[Value.ref b] s) (F0 m 1237 ls [])) : W p l e room_1 s m #[Value.ref b] below meth c H locs 211 15503 (lw_Z below #[Value.ref b] s) (F0 m 1168 ls []) := by
  obtain ⟨hx, hb, hr, hml, hown, hts0, hX, hbl, hlocks, hgv⟩ := id C0
  have hbA : ¬ (fun q : Nat => s.heap.size ≤ q) b := Nat.not_le.mpr hbl
  obtain ⟨s1, s2, s3, s4, s5, s6, s7, s8⟩ := hLS
  obtain ⟨vX, eX⟩ := xI_cell s1 hqx
  obtain ⟨vM, eM⟩ := mI_cell s2 hqm
  refine lv_aload_n hx hb dL_law_1168 rfl (lv_at hl 1 rfl) ?_
  refine lv_aload_n hx hb dL_law_1169 rfl (lv_at hl 0 rfl) ?_
  refine lv_iload_n hx hb dL_law_1170 rfl (lv_at hl 3 rfl) ?_
  refine lv_iconst (v := 1) hx hb dL_law_1171 (by decide) ?_
  refine lv_iadd hx hb dL_law_1172 ?_
  refine va_sld hx hb hX hbl hbA s8 (hv 1 (by decide)) dL_law_1173 ?_
  refine lw_call (as := [.int (xs ((i + 1).toNatClampNeg))]) (rest := []) (ci := 11) (T := TX11) (N := 11) C0 hK hN hZ (pX_image hiX) mT_150 rfl cw_1359 cw_1360 cw_1361 yk_150 ⟨s1, qx, hqx, [xs ((i + 1).toNatClampNeg)], rfl, rfl⟩ eX s4 s6 s8 (by decide) hl.1 dL_law_1174 (fun ov wsX1 H1 locs1 hQ hadX hP1 hD1 hk1 hS1 => ?_)
  have hPM1 := lw_kept s1.1 (mI_ad s2) s5 hap hk1
  obtain ⟨⟨z1, rfl⟩, t1, i1⟩ := hQ
  refine lv_pop hx hb dL_law_1177 rfl ?_
  refine lv_aload_n hx hb dL_law_1178 rfl (lv_at hl 2 rfl) ?_
  refine lv_aload_n hx hb dL_law_1179 rfl (lv_at hl 0 rfl) ?_
  refine lv_iload_n hx hb dL_law_1180 rfl (lv_at hl 3 rfl) ?_
  refine lv_iconst (v := 1) hx hb dL_law_1181 (by decide) ?_
  refine lv_iadd hx hb dL_law_1182 ?_
  refine va_sld hx hb hX hbl hbA hS1 (hv 1 (by decide)) dL_law_1183 ?_
  refine lw_call (as := [.int (xs ((i + 1).toNatClampNeg))]) (rest := []) (ci := 12) (T := TX12) (N := 113) C0 hK hN hZ (pM_image hiM) mT_220 rfl cw_2206 cw_2207 cw_2208 yk_220 ⟨s2, qm, hqm, [xs ((i + 1).toNatClampNeg)], rfl, rfl⟩ eM hPM1 s7 hS1 (by decide) hl.1 dL_law_1184 (fun ov wsM1 H2 locs2 hQ hadM hP2 hD2 hk2 hS2 => ?_)
  have hPX2 := lw_kept (mI_ad s2) i1.1 hP1 (fun i j q h1 h2 => hap j i q h2 h1) hk2
  obtain ⟨⟨z2, rfl⟩, t2, i2⟩ := hQ
  refine lv_pop hx hb dL_law_1187 rfl ?_
  refine lv_goto (tgt := 1237) hx hb dL_law_1188 (by decide) ?_
  exact kk wsX1 wsM1 H2 locs2 ⟨i1, i2, by omega, hPX2, hP2, hD1, hD2, hS2⟩
theorem law_back (C0 : lw_At p s m meth c b L xs) (hK : va_K D vwCl (ri_tys κ) s) (hN : ri_N s) (hZ : rc_Z D [] s) (hiX : ∀ (i j q : Nat), adX[i]? = some q → adX[j]? = some q → i = j) (hiM : ∀ (i j q : Nat), adM[i]? = some q → adM[j]? = some q → i = j) (hap : ∀ (i j q : Nat), adX[i]? = some q → adM[j]? = some q → False) {qx qm : Nat} (hqx : adX[0]? = some qx) (hqm : adM[0]? = some qm) {i : Int32} (hv : ∀ j : Int32, 1 ≤ j.toInt ∧ j.toInt ≤ 5 → vp_in (i + j) L) {wsX wsM : va_W} {H : Heap} {locs : List Loc} (hLS : lw_LS s κ D adX adM wsX wsM H locs) {ls : Array Slot} (hl : lv_has ls 4 [(0, .ref b), (1, .ref qx), (2, .ref qm), (3, .int i)]) (kk : ∀ (wsX1 wsM1 : va_W) (H1 : Heap) (locs1 : List Loc), lw_LS s κ D adX adM wsX1 wsM1 H1 locs1 → W p l e room_1 s m #[Value.ref b] below meth c H1 locs1 211 15503 (lw_Z below #[Value.ref b] s) (F0 m 1237 ls [])) : W p l e room_1 s m #[Value.ref b] below meth c H locs 211 15503 (lw_Z below #[Value.ref b] s) (F0 m 1191 ls []) := by
  obtain ⟨hx, hb, hr, hml, hown, hts0, hX, hbl, hlocks, hgv⟩ := id C0
  have hbA : ¬ (fun q : Nat => s.heap.size ≤ q) b := Nat.not_le.mpr hbl
  obtain ⟨s1, s2, s3, s4, s5, s6, s7, s8⟩ := hLS
  obtain ⟨vX, eX⟩ := xI_cell s1 hqx
  obtain ⟨vM, eM⟩ := mI_cell s2 hqm
  refine lv_aload_n hx hb dL_law_1191 rfl (lv_at hl 1 rfl) ?_
  refine lv_aload_n hx hb dL_law_1192 rfl (lv_at hl 0 rfl) ?_
  refine lv_iload_n hx hb dL_law_1193 rfl (lv_at hl 3 rfl) ?_
  refine lv_iconst (v := 1) hx hb dL_law_1194 (by decide) ?_
  refine lv_iadd hx hb dL_law_1195 ?_
  refine va_sld hx hb hX hbl hbA s8 (hv 1 (by decide)) dL_law_1196 ?_
  refine lw_call (as := [.int (xs ((i + 1).toNatClampNeg))]) (rest := []) (ci := 11) (T := TX11) (N := 11) C0 hK hN hZ (pX_back hiX) mT_136 rfl cw_1364 cw_1365 cw_1366 yk_136 ⟨s1, qx, hqx, [xs ((i + 1).toNatClampNeg)], rfl, rfl⟩ eX s4 s6 s8 (by decide) hl.1 dL_law_1197 (fun ov wsX1 H1 locs1 hQ hadX hP1 hD1 hk1 hS1 => ?_)
  have hPM1 := lw_kept s1.1 (mI_ad s2) s5 hap hk1
  obtain ⟨⟨z1, rfl⟩, t1, i1⟩ := hQ
  refine lv_pop hx hb dL_law_1200 rfl ?_
  refine lv_aload_n hx hb dL_law_1201 rfl (lv_at hl 2 rfl) ?_
  refine lv_aload_n hx hb dL_law_1202 rfl (lv_at hl 0 rfl) ?_
  refine lv_iload_n hx hb dL_law_1203 rfl (lv_at hl 3 rfl) ?_
  refine lv_iconst (v := 1) hx hb dL_law_1204 (by decide) ?_
  refine lv_iadd hx hb dL_law_1205 ?_
  refine va_sld hx hb hX hbl hbA hS1 (hv 1 (by decide)) dL_law_1206 ?_
  refine lw_call (as := [.int (xs ((i + 1).toNatClampNeg))]) (rest := []) (ci := 12) (T := TX12) (N := 113) C0 hK hN hZ (pM_back hiM) mT_179 rfl cw_2210 cw_2211 cw_2212 yk_179 ⟨s2, qm, hqm, [xs ((i + 1).toNatClampNeg)], rfl, rfl⟩ eM hPM1 s7 hS1 (by decide) hl.1 dL_law_1207 (fun ov wsM1 H2 locs2 hQ hadM hP2 hD2 hk2 hS2 => ?_)
  have hPX2 := lw_kept (mI_ad s2) i1.1 hP1 (fun i j q h1 h2 => hap j i q h2 h1) hk2
  obtain ⟨⟨z2, rfl⟩, t2, i2⟩ := hQ
  refine lv_pop hx hb dL_law_1210 rfl ?_
  refine lv_goto (tgt := 1237) hx hb dL_law_1211 (by decide) ?_
  exact kk wsX1 wsM1 H2 locs2 ⟨i1, i2, by omega, hPX2, hP2, hD1, hD2, hS2⟩
theorem law_about (C0 : lw_At p s m meth c b L xs) (hK : va_K D vwCl (ri_tys κ) s) (hN : ri_N s) (hZ : rc_Z D [] s) (hiX : ∀ (i j q : Nat), adX[i]? = some q → adX[j]? = some q → i = j) (hiM : ∀ (i j q : Nat), adM[i]? = some q → adM[j]? = some q → i = j) (hap : ∀ (i j q : Nat), adX[i]? = some q → adM[j]? = some q → False) {qx qm : Nat} (hqx : adX[0]? = some qx) (hqm : adM[0]? = some qm) {i : Int32} (hv : ∀ j : Int32, 1 ≤ j.toInt ∧ j.toInt ≤ 5 → vp_in (i + j) L) {wsX wsM : va_W} {H : Heap} {locs : List Loc} (hLS : lw_LS s κ D adX adM wsX wsM H locs) {ls : Array Slot} (hl : lv_has ls 4 [(0, .ref b), (1, .ref qx), (2, .ref qm), (3, .int i)]) (kk : ∀ (wsX1 wsM1 : va_W) (H1 : Heap) (locs1 : List Loc), lw_LS s κ D adX adM wsX1 wsM1 H1 locs1 → W p l e room_1 s m #[Value.ref b] below meth c H1 locs1 211 15503 (lw_Z below #[Value.ref b] s) (F0 m 1237 ls [])) : W p l e room_1 s m #[Value.ref b] below meth c H locs 211 15503 (lw_Z below #[Value.ref b] s) (F0 m 1214 ls []) := by
  obtain ⟨hx, hb, hr, hml, hown, hts0, hX, hbl, hlocks, hgv⟩ := id C0
  have hbA : ¬ (fun q : Nat => s.heap.size ≤ q) b := Nat.not_le.mpr hbl
  obtain ⟨s1, s2, s3, s4, s5, s6, s7, s8⟩ := hLS
  obtain ⟨vX, eX⟩ := xI_cell s1 hqx
  obtain ⟨vM, eM⟩ := mI_cell s2 hqm
  refine lv_aload_n hx hb dL_law_1214 rfl (lv_at hl 1 rfl) ?_
  refine lv_aload_n hx hb dL_law_1215 rfl (lv_at hl 0 rfl) ?_
  refine lv_iload_n hx hb dL_law_1216 rfl (lv_at hl 3 rfl) ?_
  refine lv_iconst (v := 1) hx hb dL_law_1217 (by decide) ?_
  refine lv_iadd hx hb dL_law_1218 ?_
  refine va_sld hx hb hX hbl hbA s8 (hv 1 (by decide)) dL_law_1219 ?_
  refine lw_call (as := [.int (xs ((i + 1).toNatClampNeg))]) (rest := []) (ci := 11) (T := TX11) (N := 11) C0 hK hN hZ (pX_about hiX) mT_134 rfl cw_1368 cw_1369 cw_1370 yk_134 ⟨s1, qx, hqx, [xs ((i + 1).toNatClampNeg)], rfl, rfl⟩ eX s4 s6 s8 (by decide) hl.1 dL_law_1220 (fun ov wsX1 H1 locs1 hQ hadX hP1 hD1 hk1 hS1 => ?_)
  have hPM1 := lw_kept s1.1 (mI_ad s2) s5 hap hk1
  obtain ⟨⟨z1, rfl⟩, t1, i1⟩ := hQ
  refine lv_pop hx hb dL_law_1223 rfl ?_
  refine lv_aload_n hx hb dL_law_1224 rfl (lv_at hl 2 rfl) ?_
  refine lv_aload_n hx hb dL_law_1225 rfl (lv_at hl 0 rfl) ?_
  refine lv_iload_n hx hb dL_law_1226 rfl (lv_at hl 3 rfl) ?_
  refine lv_iconst (v := 1) hx hb dL_law_1227 (by decide) ?_
  refine lv_iadd hx hb dL_law_1228 ?_
  refine va_sld hx hb hX hbl hbA hS1 (hv 1 (by decide)) dL_law_1229 ?_
  refine lw_call (as := [.int (xs ((i + 1).toNatClampNeg))]) (rest := []) (ci := 12) (T := TX12) (N := 113) C0 hK hN hZ (pM_about hiM) mT_175 rfl cw_2214 cw_2215 cw_2216 yk_175 ⟨s2, qm, hqm, [xs ((i + 1).toNatClampNeg)], rfl, rfl⟩ eM hPM1 s7 hS1 (by decide) hl.1 dL_law_1230 (fun ov wsM1 H2 locs2 hQ hadM hP2 hD2 hk2 hS2 => ?_)
  have hPX2 := lw_kept (mI_ad s2) i1.1 hP1 (fun i j q h1 h2 => hap j i q h2 h1) hk2
  obtain ⟨⟨z2, rfl⟩, t2, i2⟩ := hQ
  refine lv_pop hx hb dL_law_1233 rfl ?_
  refine lv_goto (tgt := 1237) hx hb dL_law_1234 (by decide) ?_
  exact kk wsX1 wsM1 H2 locs2 ⟨i1, i2, by omega, hPX2, hP2, hD1, hD2, hS2⟩
end LW
