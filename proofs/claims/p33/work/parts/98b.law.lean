section LW
variable {p : Program} {l : Launch} {e : Env} {s : State} {m : MethodId} {below : List Frame} {meth : Method} {c : Code} {b L : Nat} {xs : Nat → Int32} {D : va_G} {κ : Nat → ClassId} {adX adM : List Nat}
theorem law_feed (C0 : lw_At p s m meth c b L xs) (hK : va_K D vwCl (ri_tys κ) s) (hN : ri_N s) (hZ : rc_Z D [] s) (hiX : ∀ (i j q : Nat), adX[i]? = some q → adX[j]? = some q → i = j) (hiM : ∀ (i j q : Nat), adM[i]? = some q → adM[j]? = some q → i = j) (hap : ∀ (i j q : Nat), adX[i]? = some q → adM[j]? = some q → False) {qx qm : Nat} (hqx : adX[0]? = some qx) (hqm : adM[0]? = some qm) {i : Int32} (hv : ∀ j : Int32, 1 ≤ j.toInt ∧ j.toInt ≤ 5 → vp_in (i + j) L) {wsX wsM : va_W} {H : Heap} {locs : List Loc} (hLS : lw_LS s κ D adX adM wsX wsM H locs) {ls : Array Slot} (hl : lv_has ls 4 [(0, .ref b), (1, .ref qx), (2, .ref qm), (3, .int i)]) (kk : ∀ (wsX1 wsM1 : va_W) (H1 : Heap) (locs1 : List Loc), lw_LS s κ D adX adM wsX1 wsM1 H1 locs1 → W p l e room_1 s m #[Value.ref b] below meth c H1 locs1 211 15503 (lw_Z below #[Value.ref b] s) (F0 m 1237 ls [])) : W p l e room_1 s m #[Value.ref b] below meth c H locs 211 15503 (lw_Z below #[Value.ref b] s) (F0 m 196 ls []) := by
  obtain ⟨hx, hb, hr, hml, hown, hts0, hX, hbl, hlocks, hgv⟩ := id C0
  have hbA : ¬ (fun q : Nat => s.heap.size ≤ q) b := Nat.not_le.mpr hbl
  obtain ⟨s1, s2, s3, s4, s5, s6, s7, s8⟩ := hLS
  obtain ⟨vX, eX⟩ := xI_cell s1 hqx
  obtain ⟨vM, eM⟩ := mI_cell s2 hqm
  refine lv_aload_n hx hb dL_law_196 rfl (lv_at hl 1 rfl) ?_
  refine lv_aload_n hx hb dL_law_197 rfl (lv_at hl 0 rfl) ?_
  refine lv_iload_n hx hb dL_law_198 rfl (lv_at hl 3 rfl) ?_
  refine lv_iconst (v := 1) hx hb dL_law_199 (by decide) ?_
  refine lv_iadd hx hb dL_law_200 ?_
  refine va_sld hx hb hX hbl hbA s8 (hv 1 (by decide)) dL_law_201 ?_
  refine lv_aload_n hx hb dL_law_202 rfl (lv_at hl 0 rfl) ?_
  refine lv_iload_n hx hb dL_law_203 rfl (lv_at hl 3 rfl) ?_
  refine lv_iconst (v := 2) hx hb dL_law_204 (by decide) ?_
  refine lv_iadd hx hb dL_law_205 ?_
  refine va_sld hx hb hX hbl hbA s8 (hv 2 (by decide)) dL_law_206 ?_
  refine lv_aload_n hx hb dL_law_207 rfl (lv_at hl 0 rfl) ?_
  refine lv_iload_n hx hb dL_law_208 rfl (lv_at hl 3 rfl) ?_
  refine lv_iconst (v := 3) hx hb dL_law_209 (by decide) ?_
  refine lv_iadd hx hb dL_law_210 ?_
  refine va_sld hx hb hX hbl hbA s8 (hv 3 (by decide)) dL_law_211 ?_
  refine lv_aload_n hx hb dL_law_212 rfl (lv_at hl 0 rfl) ?_
  refine lv_iload_n hx hb dL_law_213 rfl (lv_at hl 3 rfl) ?_
  refine lv_iconst (v := 4) hx hb dL_law_214 (by decide) ?_
  refine lv_iadd hx hb dL_law_215 ?_
  refine va_sld hx hb hX hbl hbA s8 (hv 4 (by decide)) dL_law_216 ?_
  refine lv_aload_n hx hb dL_law_217 rfl (lv_at hl 0 rfl) ?_
  refine lv_iload_n hx hb dL_law_218 rfl (lv_at hl 3 rfl) ?_
  refine lv_iconst (v := 5) hx hb dL_law_219 (by decide) ?_
  refine lv_iadd hx hb dL_law_220 ?_
  refine va_sld hx hb hX hbl hbA s8 (hv 5 (by decide)) dL_law_221 ?_
  refine lw_call (as := [.int (xs ((i + 1).toNatClampNeg)), .int (xs ((i + 2).toNatClampNeg)), .int (xs ((i + 3).toNatClampNeg)), .int (xs ((i + 4).toNatClampNeg)), .int (xs ((i + 5).toNatClampNeg))]) (rest := []) (ci := 11) (T := TX11) (N := 11) C0 hK hN hZ (pX_feed hiX) mT_146 rfl cw_576 cw_577 cw_578 yk_146 ⟨s1, qx, hqx, [xs ((i + 1).toNatClampNeg), xs ((i + 2).toNatClampNeg), xs ((i + 3).toNatClampNeg), xs ((i + 4).toNatClampNeg), xs ((i + 5).toNatClampNeg)], rfl, rfl⟩ eX s4 s6 s8 (by decide) hl.1 dL_law_222 (fun ov wsX1 H1 locs1 hQ hadX hP1 hD1 hk1 hS1 => ?_)
  have hPM1 := lw_kept s1.1 (mI_ad s2) s5 hap hk1
  obtain ⟨⟨z1, rfl⟩, t1, i1⟩ := hQ
  refine lv_pop hx hb dL_law_225 rfl ?_
  refine lv_aload_n hx hb dL_law_226 rfl (lv_at hl 2 rfl) ?_
  refine lv_aload_n hx hb dL_law_227 rfl (lv_at hl 0 rfl) ?_
  refine lv_iload_n hx hb dL_law_228 rfl (lv_at hl 3 rfl) ?_
  refine lv_iconst (v := 1) hx hb dL_law_229 (by decide) ?_
  refine lv_iadd hx hb dL_law_230 ?_
  refine va_sld hx hb hX hbl hbA hS1 (hv 1 (by decide)) dL_law_231 ?_
  refine lv_aload_n hx hb dL_law_232 rfl (lv_at hl 0 rfl) ?_
  refine lv_iload_n hx hb dL_law_233 rfl (lv_at hl 3 rfl) ?_
  refine lv_iconst (v := 2) hx hb dL_law_234 (by decide) ?_
  refine lv_iadd hx hb dL_law_235 ?_
  refine va_sld hx hb hX hbl hbA hS1 (hv 2 (by decide)) dL_law_236 ?_
  refine lv_aload_n hx hb dL_law_237 rfl (lv_at hl 0 rfl) ?_
  refine lv_iload_n hx hb dL_law_238 rfl (lv_at hl 3 rfl) ?_
  refine lv_iconst (v := 3) hx hb dL_law_239 (by decide) ?_
  refine lv_iadd hx hb dL_law_240 ?_
  refine va_sld hx hb hX hbl hbA hS1 (hv 3 (by decide)) dL_law_241 ?_
  refine lv_aload_n hx hb dL_law_242 rfl (lv_at hl 0 rfl) ?_
  refine lv_iload_n hx hb dL_law_243 rfl (lv_at hl 3 rfl) ?_
  refine lv_iconst (v := 4) hx hb dL_law_244 (by decide) ?_
  refine lv_iadd hx hb dL_law_245 ?_
  refine va_sld hx hb hX hbl hbA hS1 (hv 4 (by decide)) dL_law_246 ?_
  refine lv_aload_n hx hb dL_law_247 rfl (lv_at hl 0 rfl) ?_
  refine lv_iload_n hx hb dL_law_248 rfl (lv_at hl 3 rfl) ?_
  refine lv_iconst (v := 5) hx hb dL_law_249 (by decide) ?_
  refine lv_iadd hx hb dL_law_250 ?_
  refine va_sld hx hb hX hbl hbA hS1 (hv 5 (by decide)) dL_law_251 ?_
  refine lw_call (as := [.int (xs ((i + 1).toNatClampNeg)), .int (xs ((i + 2).toNatClampNeg)), .int (xs ((i + 3).toNatClampNeg)), .int (xs ((i + 4).toNatClampNeg)), .int (xs ((i + 5).toNatClampNeg))]) (rest := []) (ci := 12) (T := TX12) (N := 113) C0 hK hN hZ (pM_feed hiM) mT_205 rfl cw_2218 cw_2219 cw_2220 yk_205 ⟨s2, qm, hqm, [xs ((i + 1).toNatClampNeg), xs ((i + 2).toNatClampNeg), xs ((i + 3).toNatClampNeg), xs ((i + 4).toNatClampNeg), xs ((i + 5).toNatClampNeg)], rfl, rfl⟩ eM hPM1 s7 hS1 (by decide) hl.1 dL_law_252 (fun ov wsM1 H2 locs2 hQ hadM hP2 hD2 hk2 hS2 => ?_)
  have hPX2 := lw_kept (mI_ad s2) i1.1 hP1 (fun i j q h1 h2 => hap j i q h2 h1) hk2
  obtain ⟨⟨z2, rfl⟩, t2, i2⟩ := hQ
  refine lv_pop hx hb dL_law_255 rfl ?_
  refine lv_goto (tgt := 1237) hx hb dL_law_256 (by decide) ?_
  exact kk wsX1 wsM1 H2 locs2 ⟨i1, i2, by omega, hPX2, hP2, hD1, hD2, hS2⟩
theorem law_later (C0 : lw_At p s m meth c b L xs) (hK : va_K D vwCl (ri_tys κ) s) (hN : ri_N s) (hZ : rc_Z D [] s) (hiX : ∀ (i j q : Nat), adX[i]? = some q → adX[j]? = some q → i = j) (hiM : ∀ (i j q : Nat), adM[i]? = some q → adM[j]? = some q → i = j) (hap : ∀ (i j q : Nat), adX[i]? = some q → adM[j]? = some q → False) {qx qm : Nat} (hqx : adX[0]? = some qx) (hqm : adM[0]? = some qm) {i : Int32} (hv : ∀ j : Int32, 1 ≤ j.toInt ∧ j.toInt ≤ 5 → vp_in (i + j) L) {wsX wsM : va_W} {H : Heap} {locs : List Loc} (hLS : lw_LS s κ D adX adM wsX wsM H locs) {ls : Array Slot} (hl : lv_has ls 4 [(0, .ref b), (1, .ref qx), (2, .ref qm), (3, .int i)]) (kk : ∀ (wsX1 wsM1 : va_W) (H1 : Heap) (locs1 : List Loc), lw_LS s κ D adX adM wsX1 wsM1 H1 locs1 → W p l e room_1 s m #[Value.ref b] below meth c H1 locs1 211 15503 (lw_Z below #[Value.ref b] s) (F0 m 1237 ls [])) : W p l e room_1 s m #[Value.ref b] below meth c H locs 211 15503 (lw_Z below #[Value.ref b] s) (F0 m 1079 ls []) := by
  obtain ⟨hx, hb, hr, hml, hown, hts0, hX, hbl, hlocks, hgv⟩ := id C0
  have hbA : ¬ (fun q : Nat => s.heap.size ≤ q) b := Nat.not_le.mpr hbl
  obtain ⟨s1, s2, s3, s4, s5, s6, s7, s8⟩ := hLS
  obtain ⟨vX, eX⟩ := xI_cell s1 hqx
  obtain ⟨vM, eM⟩ := mI_cell s2 hqm
  refine lv_aload_n hx hb dL_law_1079 rfl (lv_at hl 1 rfl) ?_
  refine lv_aload_n hx hb dL_law_1080 rfl (lv_at hl 0 rfl) ?_
  refine lv_iload_n hx hb dL_law_1081 rfl (lv_at hl 3 rfl) ?_
  refine lv_iconst (v := 1) hx hb dL_law_1082 (by decide) ?_
  refine lv_iadd hx hb dL_law_1083 ?_
  refine va_sld hx hb hX hbl hbA s8 (hv 1 (by decide)) dL_law_1084 ?_
  refine lw_call (as := [.int (xs ((i + 1).toNatClampNeg))]) (rest := []) (ci := 11) (T := TX11) (N := 11) C0 hK hN hZ (pX_later hiX) mT_153 rfl cw_1317 cw_1318 cw_1319 yk_153 ⟨s1, qx, _, hqx, rfl⟩ eX s4 s6 s8 (by decide) hl.1 dL_law_1085 (fun ov wsX1 H1 locs1 hQ hadX hP1 hD1 hk1 hS1 => ?_)
  have hPM1 := lw_kept s1.1 (mI_ad s2) s5 hap hk1
  obtain ⟨⟨z1, rfl, e1⟩, t1, i1⟩ := hQ
  refine lv_aload_n hx hb dL_law_1088 rfl (lv_at hl 2 rfl) ?_
  refine lv_aload_n hx hb dL_law_1089 rfl (lv_at hl 0 rfl) ?_
  refine lv_iload_n hx hb dL_law_1090 rfl (lv_at hl 3 rfl) ?_
  refine lv_iconst (v := 1) hx hb dL_law_1091 (by decide) ?_
  refine lv_iadd hx hb dL_law_1092 ?_
  refine va_sld hx hb hX hbl hbA hS1 (hv 1 (by decide)) dL_law_1093 ?_
  refine lw_call (as := [.int (xs ((i + 1).toNatClampNeg))]) (rest := [.int z1]) (ci := 12) (T := TX12) (N := 113) C0 hK hN hZ (pM_later hiM) mT_239 rfl cw_2182 cw_2183 cw_2184 yk_239 ⟨s2, qm, _, hqm, rfl⟩ eM hPM1 s7 hS1 (Nat.le_of_ble_eq_true rfl) hl.1 dL_law_1094 (fun ov wsM1 H2 locs2 hQ hadM hP2 hD2 hk2 hS2 => ?_)
  have hPX2 := lw_kept (mI_ad s2) i1.1 hP1 (fun i j q h1 h2 => hap j i q h2 h1) hk2
  obtain ⟨⟨z2, rfl, e2⟩, t2, i2⟩ := hQ
  have ez : z1 = z2 := Int32.toInt_inj.mp (by rw [e1, e2, s3]; rfl)
  refine lv_icmp_eq (tgt := 1237) hx hb dL_law_1097 (by decide) (fun _ => ?_) (fun g => absurd ez g)
  exact kk wsX1 wsM1 H2 locs2 ⟨i1, i2, by rw [t1, t2, s3]; rfl, hPX2, hP2, hD1, hD2, hS2⟩
end LW
