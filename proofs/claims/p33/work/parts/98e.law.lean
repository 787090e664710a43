section LW
variable {p : Program} {l : Launch} {e : Env} {s : State} {m : MethodId} {below : List Frame} {meth : Method} {c : Code} {b L : Nat} {xs : Nat → Int32} {D : va_G} {κ : Nat → ClassId} {adX adM : List Nat}
theorem law_event (C0 : lw_At p s m meth c b L xs) (hK : va_K D vwCl (ri_tys κ) s) (hN : ri_N s) (hZ : rc_Z D [] s) (hiX : ∀ (i j q : Nat), adX[i]? = some q → adX[j]? = some q → i = j) (hiM : ∀ (i j q : Nat), adM[i]? = some q → adM[j]? = some q → i = j) (hap : ∀ (i j q : Nat), adX[i]? = some q → adM[j]? = some q → False) {qx qm : Nat} (hqx : adX[0]? = some qx) (hqm : adM[0]? = some qm) {i : Int32} (hv : ∀ j : Int32, 1 ≤ j.toInt ∧ j.toInt ≤ 5 → vp_in (i + j) L) {wsX wsM : va_W} {H : Heap} {locs : List Loc} (hLS : lw_LS s κ D adX adM wsX wsM H locs) {ls : Array Slot} (hl : lv_has ls 4 [(0, .ref b), (1, .ref qx), (2, .ref qm), (3, .int i)]) (kk : ∀ (wsX1 wsM1 : va_W) (H1 : Heap) (locs1 : List Loc), lw_LS s κ D adX adM wsX1 wsM1 H1 locs1 → W p l e room_1 s m #[Value.ref b] below meth c H1 locs1 211 15503 (lw_Z below #[Value.ref b] s) (F0 m 1237 ls [])) : W p l e room_1 s m #[Value.ref b] below meth c H locs 211 15503 (lw_Z below #[Value.ref b] s) (F0 m 713 ls []) := by
  obtain ⟨hx, hb, hr, hml, hown, hts0, hX, hbl, hlocks, hgv⟩ := id C0
  have hbA : ¬ (fun q : Nat => s.heap.size ≤ q) b := Nat.not_le.mpr hbl
  obtain ⟨s1, s2, s3, s4, s5, s6, s7, s8⟩ := hLS
  obtain ⟨vX, eX⟩ := xI_cell s1 hqx
  obtain ⟨vM, eM⟩ := mI_cell s2 hqm
  refine lv_aload_n hx hb dL_law_713 rfl (lv_at hl 1 rfl) ?_
  refine lv_aload_n hx hb dL_law_714 rfl (lv_at hl 0 rfl) ?_
  refine lv_iload_n hx hb dL_law_715 rfl (lv_at hl 3 rfl) ?_
  refine lv_iconst (v := 1) hx hb dL_law_716 (by decide) ?_
  refine lv_iadd hx hb dL_law_717 ?_
  refine va_sld hx hb hX hbl hbA s8 (hv 1 (by decide)) dL_law_718 ?_
  refine lv_aload_n hx hb dL_law_719 rfl (lv_at hl 0 rfl) ?_
  refine lv_iload_n hx hb dL_law_720 rfl (lv_at hl 3 rfl) ?_
  refine lv_iconst (v := 2) hx hb dL_law_721 (by decide) ?_
  refine lv_iadd hx hb dL_law_722 ?_
  refine va_sld hx hb hX hbl hbA s8 (hv 2 (by decide)) dL_law_723 ?_
  refine lw_call (as := [.int (xs ((i + 1).toNatClampNeg)), .int (xs ((i + 2).toNatClampNeg))]) (rest := []) (ci := 11) (T := TX11) (N := 11) C0 hK hN hZ (pX_event hiX) mT_144 rfl cw_1212 cw_1213 cw_1214 yk_144 ⟨s1, qx, hqx, [xs ((i + 1).toNatClampNeg), xs ((i + 2).toNatClampNeg)], rfl, rfl⟩ eX s4 s6 s8 (by decide) hl.1 dL_law_724 (fun ov wsX1 H1 locs1 hQ hadX hP1 hD1 hk1 hS1 => ?_)
  have hPM1 := lw_kept s1.1 (mI_ad s2) s5 hap hk1
  obtain ⟨⟨z1, rfl⟩, t1, i1⟩ := hQ
  refine lv_pop hx hb dL_law_727 rfl ?_
  refine lv_aload_n hx hb dL_law_728 rfl (lv_at hl 2 rfl) ?_
  refine lv_aload_n hx hb dL_law_729 rfl (lv_at hl 0 rfl) ?_
  refine lv_iload_n hx hb dL_law_730 rfl (lv_at hl 3 rfl) ?_
  refine lv_iconst (v := 1) hx hb dL_law_731 (by decide) ?_
  refine lv_iadd hx hb dL_law_732 ?_
  refine va_sld hx hb hX hbl hbA hS1 (hv 1 (by decide)) dL_law_733 ?_
  refine lv_aload_n hx hb dL_law_734 rfl (lv_at hl 0 rfl) ?_
  refine lv_iload_n hx hb dL_law_735 rfl (lv_at hl 3 rfl) ?_
  refine lv_iconst (v := 2) hx hb dL_law_736 (by decide) ?_
  refine lv_iadd hx hb dL_law_737 ?_
  refine va_sld hx hb hX hbl hbA hS1 (hv 2 (by decide)) dL_law_738 ?_
  refine lw_call (as := [.int (xs ((i + 1).toNatClampNeg)), .int (xs ((i + 2).toNatClampNeg))]) (rest := []) (ci := 12) (T := TX12) (N := 113) C0 hK hN hZ (pM_event hiM) mT_201 rfl cw_2091 cw_2092 cw_2093 yk_201 ⟨s2, qm, hqm, [xs ((i + 1).toNatClampNeg), xs ((i + 2).toNatClampNeg)], rfl, rfl⟩ eM hPM1 s7 hS1 (by decide) hl.1 dL_law_739 (fun ov wsM1 H2 locs2 hQ hadM hP2 hD2 hk2 hS2 => ?_)
  have hPX2 := lw_kept (mI_ad s2) i1.1 hP1 (fun i j q h1 h2 => hap j i q h2 h1) hk2
  obtain ⟨⟨z2, rfl⟩, t2, i2⟩ := hQ
  refine lv_pop hx hb dL_law_742 rfl ?_
  refine lv_goto (tgt := 1237) hx hb dL_law_743 (by decide) ?_
  exact kk wsX1 wsM1 H2 locs2 ⟨i1, i2, by omega, hPX2, hP2, hD1, hD2, hS2⟩
theorem law_coasts (C0 : lw_At p s m meth c b L xs) (hK : va_K D vwCl (ri_tys κ) s) (hN : ri_N s) (hZ : rc_Z D [] s) (hiX : ∀ (i j q : Nat), adX[i]? = some q → adX[j]? = some q → i = j) (hiM : ∀ (i j q : Nat), adM[i]? = some q → adM[j]? = some q → i = j) (hap : ∀ (i j q : Nat), adX[i]? = some q → adM[j]? = some q → False) {qx qm : Nat} (hqx : adX[0]? = some qx) (hqm : adM[0]? = some qm) {i : Int32} (hv : ∀ j : Int32, 1 ≤ j.toInt ∧ j.toInt ≤ 5 → vp_in (i + j) L) {wsX wsM : va_W} {H : Heap} {locs : List Loc} (hLS : lw_LS s κ D adX adM wsX wsM H locs) {ls : Array Slot} (hl : lv_has ls 4 [(0, .ref b), (1, .ref qx), (2, .ref qm), (3, .int i)]) (kk : ∀ (wsX1 wsM1 : va_W) (H1 : Heap) (locs1 : List Loc), lw_LS s κ D adX adM wsX1 wsM1 H1 locs1 → W p l e room_1 s m #[Value.ref b] below meth c H1 locs1 211 15503 (lw_Z below #[Value.ref b] s) (F0 m 1237 ls [])) : W p l e room_1 s m #[Value.ref b] below meth c H locs 211 15503 (lw_Z below #[Value.ref b] s) (F0 m 746 ls []) := by
  obtain ⟨hx, hb, hr, hml, hown, hts0, hX, hbl, hlocks, hgv⟩ := id C0
  have hbA : ¬ (fun q : Nat => s.heap.size ≤ q) b := Nat.not_le.mpr hbl
  obtain ⟨s1, s2, s3, s4, s5, s6, s7, s8⟩ := hLS
  obtain ⟨vX, eX⟩ := xI_cell s1 hqx
  obtain ⟨vM, eM⟩ := mI_cell s2 hqm
  refine lv_aload_n hx hb dL_law_746 rfl (lv_at hl 1 rfl) ?_
  refine lv_aload_n hx hb dL_law_747 rfl (lv_at hl 0 rfl) ?_
  refine lv_iload_n hx hb dL_law_748 rfl (lv_at hl 3 rfl) ?_
  refine lv_iconst (v := 1) hx hb dL_law_749 (by decide) ?_
  refine lv_iadd hx hb dL_law_750 ?_
  refine va_sld hx hb hX hbl hbA s8 (hv 1 (by decide)) dL_law_751 ?_
  refine lv_aload_n hx hb dL_law_752 rfl (lv_at hl 0 rfl) ?_
  refine lv_iload_n hx hb dL_law_753 rfl (lv_at hl 3 rfl) ?_
  refine lv_iconst (v := 2) hx hb dL_law_754 (by decide) ?_
  refine lv_iadd hx hb dL_law_755 ?_
  refine va_sld hx hb hX hbl hbA s8 (hv 2 (by decide)) dL_law_756 ?_
  refine lv_aload_n hx hb dL_law_757 rfl (lv_at hl 0 rfl) ?_
  refine lv_iload_n hx hb dL_law_758 rfl (lv_at hl 3 rfl) ?_
  refine lv_iconst (v := 3) hx hb dL_law_759 (by decide) ?_
  refine lv_iadd hx hb dL_law_760 ?_
  refine va_sld hx hb hX hbl hbA s8 (hv 3 (by decide)) dL_law_761 ?_
  refine lw_call (as := [.int (xs ((i + 1).toNatClampNeg)), .int (xs ((i + 2).toNatClampNeg)), .int (xs ((i + 3).toNatClampNeg))]) (rest := []) (ci := 11) (T := TX11) (N := 11) C0 hK hN hZ (pX_coasts hiX) mT_139 rfl cw_1220 cw_1221 cw_1222 yk_139 ⟨s1, qx, hqx, [xs ((i + 1).toNatClampNeg), xs ((i + 2).toNatClampNeg), xs ((i + 3).toNatClampNeg)], rfl, rfl⟩ eX s4 s6 s8 (by decide) hl.1 dL_law_762 (fun ov wsX1 H1 locs1 hQ hadX hP1 hD1 hk1 hS1 => ?_)
  have hPM1 := lw_kept s1.1 (mI_ad s2) s5 hap hk1
  obtain ⟨⟨z1, rfl⟩, t1, i1⟩ := hQ
  refine lv_pop hx hb dL_law_765 rfl ?_
  refine lv_aload_n hx hb dL_law_766 rfl (lv_at hl 2 rfl) ?_
  refine lv_aload_n hx hb dL_law_767 rfl (lv_at hl 0 rfl) ?_
  refine lv_iload_n hx hb dL_law_768 rfl (lv_at hl 3 rfl) ?_
  refine lv_iconst (v := 1) hx hb dL_law_769 (by decide) ?_
  refine lv_iadd hx hb dL_law_770 ?_
  refine va_sld hx hb hX hbl hbA hS1 (hv 1 (by decide)) dL_law_771 ?_
  refine lv_aload_n hx hb dL_law_772 rfl (lv_at hl 0 rfl) ?_
  refine lv_iload_n hx hb dL_law_773 rfl (lv_at hl 3 rfl) ?_
  refine lv_iconst (v := 2) hx hb dL_law_774 (by decide) ?_
  refine lv_iadd hx hb dL_law_775 ?_
  refine va_sld hx hb hX hbl hbA hS1 (hv 2 (by decide)) dL_law_776 ?_
  refine lv_aload_n hx hb dL_law_777 rfl (lv_at hl 0 rfl) ?_
  refine lv_iload_n hx hb dL_law_778 rfl (lv_at hl 3 rfl) ?_
  refine lv_iconst (v := 3) hx hb dL_law_779 (by decide) ?_
  refine lv_iadd hx hb dL_law_780 ?_
  refine va_sld hx hb hX hbl hbA hS1 (hv 3 (by decide)) dL_law_781 ?_
  refine lw_call (as := [.int (xs ((i + 1).toNatClampNeg)), .int (xs ((i + 2).toNatClampNeg)), .int (xs ((i + 3).toNatClampNeg))]) (rest := []) (ci := 12) (T := TX12) (N := 113) C0 hK hN hZ (pM_coasts hiM) mT_189 rfl cw_2130 cw_2131 cw_2132 yk_189 ⟨s2, qm, hqm, [xs ((i + 1).toNatClampNeg), xs ((i + 2).toNatClampNeg), xs ((i + 3).toNatClampNeg)], rfl, rfl⟩ eM hPM1 s7 hS1 (by decide) hl.1 dL_law_782 (fun ov wsM1 H2 locs2 hQ hadM hP2 hD2 hk2 hS2 => ?_)
  have hPX2 := lw_kept (mI_ad s2) i1.1 hP1 (fun i j q h1 h2 => hap j i q h2 h1) hk2
  obtain ⟨⟨z2, rfl⟩, t2, i2⟩ := hQ
  refine lv_pop hx hb dL_law_785 rfl ?_
  refine lv_goto (tgt := 1237) hx hb dL_law_786 (by decide) ?_
  exact kk wsX1 wsM1 H2 locs2 ⟨i1, i2, by omega, hPX2, hP2, hD1, hD2, hS2⟩
theorem law_need (C0 : lw_At p s m meth c b L xs) (hK : va_K D vwCl (ri_tys κ) s) (hN : ri_N s) (hZ : rc_Z D [] s) (hiX : ∀ (i j q : Nat), adX[i]? = some q → adX[j]? = some q → i = j) (hiM : ∀ (i j q : Nat), adM[i]? = some q → adM[j]? = some q → i = j) (hap : ∀ (i j q : Nat), adX[i]? = some q → adM[j]? = some q → False) {qx qm : Nat} (hqx : adX[0]? = some qx) (hqm : adM[0]? = some qm) {i : Int32} (hv : ∀ j : Int32, 1 ≤ j.toInt ∧ j.toInt ≤ 5 → vp_in (i + j) L) {wsX wsM : va_W} {H : Heap} {locs : List Loc} (hLS : lw_LS s κ D adX adM wsX wsM H locs) {ls : Array Slot} (hl : lv_has ls 4 [(0, .ref b), (1, .ref qx), (2, .ref qm), (3, .int i)]) (kk : ∀ (wsX1 wsM1 : va_W) (H1 : Heap) (locs1 : List Loc), lw_LS s κ D adX adM wsX1 wsM1 H1 locs1 → W p l e room_1 s m #[Value.ref b] below meth c H1 locs1 211 15503 (lw_Z below #[Value.ref b] s) (F0 m 1237 ls [])) : W p l e room_1 s m #[Value.ref b] below meth c H locs 211 15503 (lw_Z below #[Value.ref b] s) (F0 m 789 ls []) := by
  obtain ⟨hx, hb, hr, hml, hown, hts0, hX, hbl, hlocks, hgv⟩ := id C0
  have hbA : ¬ (fun q : Nat => s.heap.size ≤ q) b := Nat.not_le.mpr hbl
  obtain ⟨s1, s2, s3, s4, s5, s6, s7, s8⟩ := hLS
  obtain ⟨vX, eX⟩ := xI_cell s1 hqx
  obtain ⟨vM, eM⟩ := mI_cell s2 hqm
  refine lv_aload_n hx hb dL_law_789 rfl (lv_at hl 1 rfl) ?_
  refine lv_aload_n hx hb dL_law_790 rfl (lv_at hl 0 rfl) ?_
  refine lv_iload_n hx hb dL_law_791 rfl (lv_at hl 3 rfl) ?_
  refine lv_iconst (v := 1) hx hb dL_law_792 (by decide) ?_
  refine lv_iadd hx hb dL_law_793 ?_
  refine va_sld hx hb hX hbl hbA s8 (hv 1 (by decide)) dL_law_794 ?_
  refine lw_call (as := [.int (xs ((i + 1).toNatClampNeg))]) (rest := []) (ci := 11) (T := TX11) (N := 11) C0 hK hN hZ (pX_need hiX) mT_156 rfl cw_1234 cw_1235 cw_1236 yk_156 ⟨s1, qx, hqx, [xs ((i + 1).toNatClampNeg)], rfl, rfl⟩ eX s4 s6 s8 (by decide) hl.1 dL_law_795 (fun ov wsX1 H1 locs1 hQ hadX hP1 hD1 hk1 hS1 => ?_)
  have hPM1 := lw_kept s1.1 (mI_ad s2) s5 hap hk1
  obtain ⟨⟨z1, rfl⟩, t1, i1⟩ := hQ
  refine lv_pop hx hb dL_law_798 rfl ?_
  refine lv_aload_n hx hb dL_law_799 rfl (lv_at hl 2 rfl) ?_
  refine lv_aload_n hx hb dL_law_800 rfl (lv_at hl 0 rfl) ?_
  refine lv_iload_n hx hb dL_law_801 rfl (lv_at hl 3 rfl) ?_
  refine lv_iconst (v := 1) hx hb dL_law_802 (by decide) ?_
  refine lv_iadd hx hb dL_law_803 ?_
  refine va_sld hx hb hX hbl hbA hS1 (hv 1 (by decide)) dL_law_804 ?_
  refine lw_call (as := [.int (xs ((i + 1).toNatClampNeg))]) (rest := []) (ci := 12) (T := TX12) (N := 113) C0 hK hN hZ (pM_need hiM) mT_250 rfl cw_2141 cw_2142 cw_2143 yk_250 ⟨s2, qm, hqm, [xs ((i + 1).toNatClampNeg)], rfl, rfl⟩ eM hPM1 s7 hS1 (by decide) hl.1 dL_law_805 (fun ov wsM1 H2 locs2 hQ hadM hP2 hD2 hk2 hS2 => ?_)
  have hPX2 := lw_kept (mI_ad s2) i1.1 hP1 (fun i j q h1 h2 => hap j i q h2 h1) hk2
  obtain ⟨⟨z2, rfl⟩, t2, i2⟩ := hQ
  refine lv_pop hx hb dL_law_808 rfl ?_
  refine lv_goto (tgt := 1237) hx hb dL_law_809 (by decide) ?_
  exact kk wsX1 wsM1 H2 locs2 ⟨i1, i2, by omega, hPX2, hP2, hD1, hD2, hS2⟩
theorem law_takes (C0 : lw_At p s m meth c b L xs) (hK : va_K D vwCl (ri_tys κ) s) (hN : ri_N s) (hZ : rc_Z D [] s) (hiX : ∀ (i j q : Nat), adX[i]? = some q → adX[j]? = some q → i = j) (hiM : ∀ (i j q : Nat), adM[i]? = some q → adM[j]? = some q → i = j) (hap : ∀ (i j q : Nat), adX[i]? = some q → adM[j]? = some q → False) {qx qm : Nat} (hqx : adX[0]? = some qx) (hqm : adM[0]? = some qm) {i : Int32} (hv : ∀ j : Int32, 1 ≤ j.toInt ∧ j.toInt ≤ 5 → vp_in (i + j) L) {wsX wsM : va_W} {H : Heap} {locs : List Loc} (hLS : lw_LS s κ D adX adM wsX wsM H locs) {ls : Array Slot} (hl : lv_has ls 4 [(0, .ref b), (1, .ref qx), (2, .ref qm), (3, .int i)]) (kk : ∀ (wsX1 wsM1 : va_W) (H1 : Heap) (locs1 : List Loc), lw_LS s κ D adX adM wsX1 wsM1 H1 locs1 → W p l e room_1 s m #[Value.ref b] below meth c H1 locs1 211 15503 (lw_Z below #[Value.ref b] s) (F0 m 1237 ls [])) : W p l e room_1 s m #[Value.ref b] below meth c H locs 211 15503 (lw_Z below #[Value.ref b] s) (F0 m 812 ls []) := by
  obtain ⟨hx, hb, hr, hml, hown, hts0, hX, hbl, hlocks, hgv⟩ := id C0
  have hbA : ¬ (fun q : Nat => s.heap.size ≤ q) b := Nat.not_le.mpr hbl
  obtain ⟨s1, s2, s3, s4, s5, s6, s7, s8⟩ := hLS
  obtain ⟨vX, eX⟩ := xI_cell s1 hqx
  obtain ⟨vM, eM⟩ := mI_cell s2 hqm
  refine lv_aload_n hx hb dL_law_812 rfl (lv_at hl 1 rfl) ?_
  refine lw_call (as := []) (rest := []) (ci := 11) (T := TX11) (N := 11) C0 hK hN hZ (pX_takes hiX) mT_170 rfl cw_1243 cw_1244 cw_1245 yk_170 ⟨s1, qx, hqx, [], rfl, rfl⟩ eX s4 s6 s8 (by decide) hl.1 dL_law_813 (fun ov wsX1 H1 locs1 hQ hadX hP1 hD1 hk1 hS1 => ?_)
  have hPM1 := lw_kept s1.1 (mI_ad s2) s5 hap hk1
  obtain ⟨⟨z1, rfl⟩, t1, i1⟩ := hQ
  refine lv_pop hx hb dL_law_816 rfl ?_
  refine lv_aload_n hx hb dL_law_817 rfl (lv_at hl 2 rfl) ?_
  refine lw_call (as := []) (rest := []) (ci := 12) (T := TX12) (N := 113) C0 hK hN hZ (pM_takes hiM) mT_284 rfl cw_2145 cw_2146 cw_2147 yk_284 ⟨s2, qm, hqm, [], rfl, rfl⟩ eM hPM1 s7 hS1 (by decide) hl.1 dL_law_818 (fun ov wsM1 H2 locs2 hQ hadM hP2 hD2 hk2 hS2 => ?_)
  have hPX2 := lw_kept (mI_ad s2) i1.1 hP1 (fun i j q h1 h2 => hap j i q h2 h1) hk2
  obtain ⟨⟨z2, rfl⟩, t2, i2⟩ := hQ
  refine lv_pop hx hb dL_law_821 rfl ?_
  refine lv_goto (tgt := 1237) hx hb dL_law_822 (by decide) ?_
  exact kk wsX1 wsM1 H2 locs2 ⟨i1, i2, by omega, hPX2, hP2, hD1, hD2, hS2⟩
theorem law_head (C0 : lw_At p s m meth c b L xs) (hK : va_K D vwCl (ri_tys κ) s) (hN : ri_N s) (hZ : rc_Z D [] s) (hiX : ∀ (i j q : Nat), adX[i]? = some q → adX[j]? = some q → i = j) (hiM : ∀ (i j q : Nat), adM[i]? = some q → adM[j]? = some q → i = j) (hap : ∀ (i j q : Nat), adX[i]? = some q → adM[j]? = some q → False) {qx qm : Nat} (hqx : adX[0]? = some qx) (hqm : adM[0]? = some qm) {i : Int32} (hv : ∀ j : Int32, 1 ≤ j.toInt ∧ j.toInt ≤ 5 → vp_in (i + j) L) {wsX wsM : va_W} {H : Heap} {locs : List Loc} (hLS : lw_LS s κ D adX adM wsX wsM H locs) {ls : Array Slot} (hl : lv_has ls 4 [(0, .ref b), (1, .ref qx), (2, .ref qm), (3, .int i)]) (kk : ∀ (wsX1 wsM1 : va_W) (H1 : Heap) (locs1 : List Loc), lw_LS s κ D adX adM wsX1 wsM1 H1 locs1 → W p l e room_1 s m #[Value.ref b] below meth c H1 locs1 211 15503 (lw_Z below #[Value.ref b] s) (F0 m 1237 ls [])) : W p l e room_1 s m #[Value.ref b] below meth c H locs 211 15503 (lw_Z below #[Value.ref b] s) (F0 m 825 ls []) := by
  obtain ⟨hx, hb, hr, hml, hown, hts0, hX, hbl, hlocks, hgv⟩ := id C0
  have hbA : ¬ (fun q : Nat => s.heap.size ≤ q) b := Nat.not_le.mpr hbl
  obtain ⟨s1, s2, s3, s4, s5, s6, s7, s8⟩ := hLS
  obtain ⟨vX, eX⟩ := xI_cell s1 hqx
  obtain ⟨vM, eM⟩ := mI_cell s2 hqm
  refine lv_aload_n hx hb dL_law_825 rfl (lv_at hl 1 rfl) ?_
  refine lv_aload_n hx hb dL_law_826 rfl (lv_at hl 0 rfl) ?_
  refine lv_iload_n hx hb dL_law_827 rfl (lv_at hl 3 rfl) ?_
  refine lv_iconst (v := 1) hx hb dL_law_828 (by decide) ?_
  refine lv_iadd hx hb dL_law_829 ?_
  refine va_sld hx hb hX hbl hbA s8 (hv 1 (by decide)) dL_law_830 ?_
  refine lw_call (as := [.int (xs ((i + 1).toNatClampNeg))]) (rest := []) (ci := 11) (T := TX11) (N := 11) C0 hK hN hZ (pX_head hiX) mT_149 rfl cw_1251 cw_1252 cw_1253 yk_149 ⟨s1, qx, hqx, [xs ((i + 1).toNatClampNeg)], rfl, rfl⟩ eX s4 s6 s8 (by decide) hl.1 dL_law_831 (fun ov wsX1 H1 locs1 hQ hadX hP1 hD1 hk1 hS1 => ?_)
  have hPM1 := lw_kept s1.1 (mI_ad s2) s5 hap hk1
  obtain ⟨⟨z1, rfl⟩, t1, i1⟩ := hQ
  refine lv_pop hx hb dL_law_834 rfl ?_
  refine lv_aload_n hx hb dL_law_835 rfl (lv_at hl 2 rfl) ?_
  refine lv_aload_n hx hb dL_law_836 rfl (lv_at hl 0 rfl) ?_
  refine lv_iload_n hx hb dL_law_837 rfl (lv_at hl 3 rfl) ?_
  refine lv_iconst (v := 1) hx hb dL_law_838 (by decide) ?_
  refine lv_iadd hx hb dL_law_839 ?_
  refine va_sld hx hb hX hbl hbA hS1 (hv 1 (by decide)) dL_law_840 ?_
  refine lw_call (as := [.int (xs ((i + 1).toNatClampNeg))]) (rest := []) (ci := 12) (T := TX12) (N := 113) C0 hK hN hZ (pM_head hiM) mT_217 rfl cw_2149 cw_2150 cw_2151 yk_217 ⟨s2, qm, hqm, [xs ((i + 1).toNatClampNeg)], rfl, rfl⟩ eM hPM1 s7 hS1 (by decide) hl.1 dL_law_841 (fun ov wsM1 H2 locs2 hQ hadM hP2 hD2 hk2 hS2 => ?_)
  have hPX2 := lw_kept (mI_ad s2) i1.1 hP1 (fun i j q h1 h2 => hap j i q h2 h1) hk2
  obtain ⟨⟨z2, rfl⟩, t2, i2⟩ := hQ
  refine lv_pop hx hb dL_law_844 rfl ?_
  refine lv_goto (tgt := 1237) hx hb dL_law_845 (by decide) ?_
  exact kk wsX1 wsM1 H2 locs2 ⟨i1, i2, by omega, hPX2, hP2, hD1, hD2, hS2⟩
theorem law_spread (C0 : lw_At p s m meth c b L xs) (hK : va_K D vwCl (ri_tys κ) s) (hN : ri_N s) (hZ : rc_Z D [] s) (hiX : ∀ (i j q : Nat), adX[i]? = some q → adX[j]? = some q → i = j) (hiM : ∀ (i j q : Nat), adM[i]? = some q → adM[j]? = some q → i = j) (hap : ∀ (i j q : Nat), adX[i]? = some q → adM[j]? = some q → False) {qx qm : Nat} (hqx : adX[0]? = some qx) (hqm : adM[0]? = some qm) {i : Int32} (hv : ∀ j : Int32, 1 ≤ j.toInt ∧ j.toInt ≤ 5 → vp_in (i + j) L) {wsX wsM : va_W} {H : Heap} {locs : List Loc} (hLS : lw_LS s κ D adX adM wsX wsM H locs) {ls : Array Slot} (hl : lv_has ls 4 [(0, .ref b), (1, .ref qx), (2, .ref qm), (3, .int i)]) (kk : ∀ (wsX1 wsM1 : va_W) (H1 : Heap) (locs1 : List Loc), lw_LS s κ D adX adM wsX1 wsM1 H1 locs1 → W p l e room_1 s m #[Value.ref b] below meth c H1 locs1 211 15503 (lw_Z below #[Value.ref b] s) (F0 m 1237 ls [])) : W p l e room_1 s m #[Value.ref b] below meth c H locs 211 15503 (lw_Z below #[Value.ref b] s) (F0 m 848 ls []) := by
  obtain ⟨hx, hb, hr, hml, hown, hts0, hX, hbl, hlocks, hgv⟩ := id C0
  have hbA : ¬ (fun q : Nat => s.heap.size ≤ q) b := Nat.not_le.mpr hbl
  obtain ⟨s1, s2, s3, s4, s5, s6, s7, s8⟩ := hLS
  obtain ⟨vX, eX⟩ := xI_cell s1 hqx
  obtain ⟨vM, eM⟩ := mI_cell s2 hqm
  refine lv_aload_n hx hb dL_law_848 rfl (lv_at hl 1 rfl) ?_
  refine lv_aload_n hx hb dL_law_849 rfl (lv_at hl 0 rfl) ?_
  refine lv_iload_n hx hb dL_law_850 rfl (lv_at hl 3 rfl) ?_
  refine lv_iconst (v := 1) hx hb dL_law_851 (by decide) ?_
  refine lv_iadd hx hb dL_law_852 ?_
  refine va_sld hx hb hX hbl hbA s8 (hv 1 (by decide)) dL_law_853 ?_
  refine lv_aload_n hx hb dL_law_854 rfl (lv_at hl 0 rfl) ?_
  refine lv_iload_n hx hb dL_law_855 rfl (lv_at hl 3 rfl) ?_
  refine lv_iconst (v := 2) hx hb dL_law_856 (by decide) ?_
  refine lv_iadd hx hb dL_law_857 ?_
  refine va_sld hx hb hX hbl hbA s8 (hv 2 (by decide)) dL_law_858 ?_
  refine lw_call (as := [.int (xs ((i + 1).toNatClampNeg)), .int (xs ((i + 2).toNatClampNeg))]) (rest := []) (ci := 11) (T := TX11) (N := 11) C0 hK hN hZ (pX_spread hiX) mT_166 rfl cw_1271 cw_1272 cw_1273 yk_166 ⟨s1, qx, hqx, [xs ((i + 1).toNatClampNeg), xs ((i + 2).toNatClampNeg)], rfl, rfl⟩ eX s4 s6 s8 (by decide) hl.1 dL_law_859 (fun ov wsX1 H1 locs1 hQ hadX hP1 hD1 hk1 hS1 => ?_)
  have hPM1 := lw_kept s1.1 (mI_ad s2) s5 hap hk1
  obtain ⟨⟨z1, rfl⟩, t1, i1⟩ := hQ
  refine lv_pop hx hb dL_law_862 rfl ?_
  refine lv_aload_n hx hb dL_law_863 rfl (lv_at hl 2 rfl) ?_
  refine lv_aload_n hx hb dL_law_864 rfl (lv_at hl 0 rfl) ?_
  refine lv_iload_n hx hb dL_law_865 rfl (lv_at hl 3 rfl) ?_
  refine lv_iconst (v := 1) hx hb dL_law_866 (by decide) ?_
  refine lv_iadd hx hb dL_law_867 ?_
  refine va_sld hx hb hX hbl hbA hS1 (hv 1 (by decide)) dL_law_868 ?_
  refine lv_aload_n hx hb dL_law_869 rfl (lv_at hl 0 rfl) ?_
  refine lv_iload_n hx hb dL_law_870 rfl (lv_at hl 3 rfl) ?_
  refine lv_iconst (v := 2) hx hb dL_law_871 (by decide) ?_
  refine lv_iadd hx hb dL_law_872 ?_
  refine va_sld hx hb hX hbl hbA hS1 (hv 2 (by decide)) dL_law_873 ?_
  refine lw_call (as := [.int (xs ((i + 1).toNatClampNeg)), .int (xs ((i + 2).toNatClampNeg))]) (rest := []) (ci := 12) (T := TX12) (N := 113) C0 hK hN hZ (pM_spread hiM) mT_279 rfl cw_2157 cw_2158 cw_2159 yk_279 ⟨s2, qm, hqm, [xs ((i + 1).toNatClampNeg), xs ((i + 2).toNatClampNeg)], rfl, rfl⟩ eM hPM1 s7 hS1 (by decide) hl.1 dL_law_874 (fun ov wsM1 H2 locs2 hQ hadM hP2 hD2 hk2 hS2 => ?_)
  have hPX2 := lw_kept (mI_ad s2) i1.1 hP1 (fun i j q h1 h2 => hap j i q h2 h1) hk2
  obtain ⟨⟨z2, rfl⟩, t2, i2⟩ := hQ
  refine lv_pop hx hb dL_law_877 rfl ?_
  refine lv_goto (tgt := 1237) hx hb dL_law_878 (by decide) ?_
  exact kk wsX1 wsM1 H2 locs2 ⟨i1, i2, by omega, hPX2, hP2, hD1, hD2, hS2⟩
theorem law_power (C0 : lw_At p s m meth c b L xs) (hK : va_K D vwCl (ri_tys κ) s) (hN : ri_N s) (hZ : rc_Z D [] s) (hiX : ∀ (i j q : Nat), adX[i]? = some q → adX[j]? = some q → i = j) (hiM : ∀ (i j q : Nat), adM[i]? = some q → adM[j]? = some q → i = j) (hap : ∀ (i j q : Nat), adX[i]? = some q → adM[j]? = some q → False) {qx qm : Nat} (hqx : adX[0]? = some qx) (hqm : adM[0]? = some qm) {i : Int32} (hv : ∀ j : Int32, 1 ≤ j.toInt ∧ j.toInt ≤ 5 → vp_in (i + j) L) {wsX wsM : va_W} {H : Heap} {locs : List Loc} (hLS : lw_LS s κ D adX adM wsX wsM H locs) {ls : Array Slot} (hl : lv_has ls 4 [(0, .ref b), (1, .ref qx), (2, .ref qm), (3, .int i)]) (kk : ∀ (wsX1 wsM1 : va_W) (H1 : Heap) (locs1 : List Loc), lw_LS s κ D adX adM wsX1 wsM1 H1 locs1 → W p l e room_1 s m #[Value.ref b] below meth c H1 locs1 211 15503 (lw_Z below #[Value.ref b] s) (F0 m 1237 ls [])) : W p l e room_1 s m #[Value.ref b] below meth c H locs 211 15503 (lw_Z below #[Value.ref b] s) (F0 m 881 ls []) := by
  obtain ⟨hx, hb, hr, hml, hown, hts0, hX, hbl, hlocks, hgv⟩ := id C0
  have hbA : ¬ (fun q : Nat => s.heap.size ≤ q) b := Nat.not_le.mpr hbl
  obtain ⟨s1, s2, s3, s4, s5, s6, s7, s8⟩ := hLS
  obtain ⟨vX, eX⟩ := xI_cell s1 hqx
  obtain ⟨vM, eM⟩ := mI_cell s2 hqm
  refine lv_aload_n hx hb dL_law_881 rfl (lv_at hl 1 rfl) ?_
  refine lv_aload_n hx hb dL_law_882 rfl (lv_at hl 0 rfl) ?_
  refine lv_iload_n hx hb dL_law_883 rfl (lv_at hl 3 rfl) ?_
  refine lv_iconst (v := 1) hx hb dL_law_884 (by decide) ?_
  refine lv_iadd hx hb dL_law_885 ?_
  refine va_sld hx hb hX hbl hbA s8 (hv 1 (by decide)) dL_law_886 ?_
  refine lv_aload_n hx hb dL_law_887 rfl (lv_at hl 0 rfl) ?_
  refine lv_iload_n hx hb dL_law_888 rfl (lv_at hl 3 rfl) ?_
  refine lv_iconst (v := 2) hx hb dL_law_889 (by decide) ?_
  refine lv_iadd hx hb dL_law_890 ?_
  refine va_sld hx hb hX hbl hbA s8 (hv 2 (by decide)) dL_law_891 ?_
  refine lw_call (as := [.int (xs ((i + 1).toNatClampNeg)), .int (xs ((i + 2).toNatClampNeg))]) (rest := []) (ci := 11) (T := TX11) (N := 11) C0 hK hN hZ (pX_power hiX) mT_158 rfl cw_1275 cw_1276 cw_1277 yk_158 ⟨s1, qx, hqx, [xs ((i + 1).toNatClampNeg), xs ((i + 2).toNatClampNeg)], rfl, rfl⟩ eX s4 s6 s8 (by decide) hl.1 dL_law_892 (fun ov wsX1 H1 locs1 hQ hadX hP1 hD1 hk1 hS1 => ?_)
  have hPM1 := lw_kept s1.1 (mI_ad s2) s5 hap hk1
  obtain ⟨⟨z1, rfl⟩, t1, i1⟩ := hQ
  refine lv_pop hx hb dL_law_895 rfl ?_
  refine lv_aload_n hx hb dL_law_896 rfl (lv_at hl 2 rfl) ?_
  refine lv_aload_n hx hb dL_law_897 rfl (lv_at hl 0 rfl) ?_
  refine lv_iload_n hx hb dL_law_898 rfl (lv_at hl 3 rfl) ?_
  refine lv_iconst (v := 1) hx hb dL_law_899 (by decide) ?_
  refine lv_iadd hx hb dL_law_900 ?_
  refine va_sld hx hb hX hbl hbA hS1 (hv 1 (by decide)) dL_law_901 ?_
  refine lv_aload_n hx hb dL_law_902 rfl (lv_at hl 0 rfl) ?_
  refine lv_iload_n hx hb dL_law_903 rfl (lv_at hl 3 rfl) ?_
  refine lv_iconst (v := 2) hx hb dL_law_904 (by decide) ?_
  refine lv_iadd hx hb dL_law_905 ?_
  refine va_sld hx hb hX hbl hbA hS1 (hv 2 (by decide)) dL_law_906 ?_
  refine lw_call (as := [.int (xs ((i + 1).toNatClampNeg)), .int (xs ((i + 2).toNatClampNeg))]) (rest := []) (ci := 12) (T := TX12) (N := 113) C0 hK hN hZ (pM_power hiM) mT_254 rfl cw_2161 cw_2127 cw_2128 yk_254 ⟨s2, qm, hqm, [xs ((i + 1).toNatClampNeg), xs ((i + 2).toNatClampNeg)], rfl, rfl⟩ eM hPM1 s7 hS1 (by decide) hl.1 dL_law_907 (fun ov wsM1 H2 locs2 hQ hadM hP2 hD2 hk2 hS2 => ?_)
  have hPX2 := lw_kept (mI_ad s2) i1.1 hP1 (fun i j q h1 h2 => hap j i q h2 h1) hk2
  obtain ⟨⟨z2, rfl⟩, t2, i2⟩ := hQ
  refine lv_pop hx hb dL_law_910 rfl ?_
  refine lv_goto (tgt := 1237) hx hb dL_law_911 (by decide) ?_
  exact kk wsX1 wsM1 H2 locs2 ⟨i1, i2, by omega, hPX2, hP2, hD1, hD2, hS2⟩
theorem law_runaway (C0 : lw_At p s m meth c b L xs) (hK : va_K D vwCl (ri_tys κ) s) (hN : ri_N s) (hZ : rc_Z D [] s) (hiX : ∀ (i j q : Nat), adX[i]? = some q → adX[j]? = some q → i = j) (hiM : ∀ (i j q : Nat), adM[i]? = some q → adM[j]? = some q → i = j) (hap : ∀ (i j q : Nat), adX[i]? = some q → adM[j]? = some q → False) {qx qm : Nat} (hqx : adX[0]? = some qx) (hqm : adM[0]? = some qm) {i : Int32} (hv : ∀ j : Int32, 1 ≤ j.toInt ∧ j.toInt ≤ 5 → vp_in (i + j) L) {wsX wsM : va_W} {H : Heap} {locs : List Loc} (hLS : lw_LS s κ D adX adM wsX wsM H locs) {ls : Array Slot} (hl : lv_has ls 4 [(0, .ref b), (1, .ref qx), (2, .ref qm), (3, .int i)]) (kk : ∀ (wsX1 wsM1 : va_W) (H1 : Heap) (locs1 : List Loc), lw_LS s κ D adX adM wsX1 wsM1 H1 locs1 → W p l e room_1 s m #[Value.ref b] below meth c H1 locs1 211 15503 (lw_Z below #[Value.ref b] s) (F0 m 1237 ls [])) : W p l e room_1 s m #[Value.ref b] below meth c H locs 211 15503 (lw_Z below #[Value.ref b] s) (F0 m 914 ls []) := by
  obtain ⟨hx, hb, hr, hml, hown, hts0, hX, hbl, hlocks, hgv⟩ := id C0
  have hbA : ¬ (fun q : Nat => s.heap.size ≤ q) b := Nat.not_le.mpr hbl
  obtain ⟨s1, s2, s3, s4, s5, s6, s7, s8⟩ := hLS
  obtain ⟨vX, eX⟩ := xI_cell s1 hqx
  obtain ⟨vM, eM⟩ := mI_cell s2 hqm
  refine lv_aload_n hx hb dL_law_914 rfl (lv_at hl 1 rfl) ?_
  refine lv_aload_n hx hb dL_law_915 rfl (lv_at hl 0 rfl) ?_
  refine lv_iload_n hx hb dL_law_916 rfl (lv_at hl 3 rfl) ?_
  refine lv_iconst (v := 1) hx hb dL_law_917 (by decide) ?_
  refine lv_iadd hx hb dL_law_918 ?_
  refine va_sld hx hb hX hbl hbA s8 (hv 1 (by decide)) dL_law_919 ?_
  refine lv_aload_n hx hb dL_law_920 rfl (lv_at hl 0 rfl) ?_
  refine lv_iload_n hx hb dL_law_921 rfl (lv_at hl 3 rfl) ?_
  refine lv_iconst (v := 2) hx hb dL_law_922 (by decide) ?_
  refine lv_iadd hx hb dL_law_923 ?_
  refine va_sld hx hb hX hbl hbA s8 (hv 2 (by decide)) dL_law_924 ?_
  refine lw_call (as := [.int (xs ((i + 1).toNatClampNeg)), .int (xs ((i + 2).toNatClampNeg))]) (rest := []) (ci := 11) (T := TX11) (N := 11) C0 hK hN hZ (pX_runaway hiX) mT_163 rfl cw_1279 cw_1280 cw_1281 yk_163 ⟨s1, qx, hqx, [xs ((i + 1).toNatClampNeg), xs ((i + 2).toNatClampNeg)], rfl, rfl⟩ eX s4 s6 s8 (by decide) hl.1 dL_law_925 (fun ov wsX1 H1 locs1 hQ hadX hP1 hD1 hk1 hS1 => ?_)
  have hPM1 := lw_kept s1.1 (mI_ad s2) s5 hap hk1
  obtain ⟨⟨z1, rfl⟩, t1, i1⟩ := hQ
  refine lv_pop hx hb dL_law_928 rfl ?_
  refine lv_aload_n hx hb dL_law_929 rfl (lv_at hl 2 rfl) ?_
  refine lv_aload_n hx hb dL_law_930 rfl (lv_at hl 0 rfl) ?_
  refine lv_iload_n hx hb dL_law_931 rfl (lv_at hl 3 rfl) ?_
  refine lv_iconst (v := 1) hx hb dL_law_932 (by decide) ?_
  refine lv_iadd hx hb dL_law_933 ?_
  refine va_sld hx hb hX hbl hbA hS1 (hv 1 (by decide)) dL_law_934 ?_
  refine lv_aload_n hx hb dL_law_935 rfl (lv_at hl 0 rfl) ?_
  refine lv_iload_n hx hb dL_law_936 rfl (lv_at hl 3 rfl) ?_
  refine lv_iconst (v := 2) hx hb dL_law_937 (by decide) ?_
  refine lv_iadd hx hb dL_law_938 ?_
  refine va_sld hx hb hX hbl hbA hS1 (hv 2 (by decide)) dL_law_939 ?_
  refine lw_call (as := [.int (xs ((i + 1).toNatClampNeg)), .int (xs ((i + 2).toNatClampNeg))]) (rest := []) (ci := 12) (T := TX12) (N := 113) C0 hK hN hZ (pM_runaway hiM) mT_271 rfl cw_2162 cw_2163 cw_2164 yk_271 ⟨s2, qm, hqm, [xs ((i + 1).toNatClampNeg), xs ((i + 2).toNatClampNeg)], rfl, rfl⟩ eM hPM1 s7 hS1 (by decide) hl.1 dL_law_940 (fun ov wsM1 H2 locs2 hQ hadM hP2 hD2 hk2 hS2 => ?_)
  have hPX2 := lw_kept (mI_ad s2) i1.1 hP1 (fun i j q h1 h2 => hap j i q h2 h1) hk2
  obtain ⟨⟨z2, rfl⟩, t2, i2⟩ := hQ
  refine lv_pop hx hb dL_law_943 rfl ?_
  refine lv_goto (tgt := 1237) hx hb dL_law_944 (by decide) ?_
  exact kk wsX1 wsM1 H2 locs2 ⟨i1, i2, by omega, hPX2, hP2, hD1, hD2, hS2⟩
theorem law_order (C0 : lw_At p s m meth c b L xs) (hK : va_K D vwCl (ri_tys κ) s) (hN : ri_N s) (hZ : rc_Z D [] s) (hiX : ∀ (i j q : Nat), adX[i]? = some q → adX[j]? = some q → i = j) (hiM : ∀ (i j q : Nat), adM[i]? = some q → adM[j]? = some q → i = j) (hap : ∀ (i j q : Nat), adX[i]? = some q → adM[j]? = some q → False) {qx qm : Nat} (hqx : adX[0]? = some qx) (hqm : adM[0]? = some qm) {i : Int32} (hv : ∀ j : Int32, 1 ≤ j.toInt ∧ j.toInt ≤ 5 → vp_in (i + j) L) {wsX wsM : va_W} {H : Heap} {locs : List Loc} (hLS : lw_LS s κ D adX adM wsX wsM H locs) {ls : Array Slot} (hl : lv_has ls 4 [(0, .ref b), (1, .ref qx), (2, .ref qm), (3, .int i)]) (kk : ∀ (wsX1 wsM1 : va_W) (H1 : Heap) (locs1 : List Loc), lw_LS s κ D adX adM wsX1 wsM1 H1 locs1 → W p l e room_1 s m #[Value.ref b] below meth c H1 locs1 211 15503 (lw_Z below #[Value.ref b] s) (F0 m 1237 ls [])) : W p l e room_1 s m #[Value.ref b] below meth c H locs 211 15503 (lw_Z below #[Value.ref b] s) (F0 m 947 ls []) := by
  obtain ⟨hx, hb, hr, hml, hown, hts0, hX, hbl, hlocks, hgv⟩ := id C0
  have hbA : ¬ (fun q : Nat => s.heap.size ≤ q) b := Nat.not_le.mpr hbl
  obtain ⟨s1, s2, s3, s4, s5, s6, s7, s8⟩ := hLS
  obtain ⟨vX, eX⟩ := xI_cell s1 hqx
  obtain ⟨vM, eM⟩ := mI_cell s2 hqm
  refine lv_aload_n hx hb dL_law_947 rfl (lv_at hl 1 rfl) ?_
  refine lv_aload_n hx hb dL_law_948 rfl (lv_at hl 0 rfl) ?_
  refine lv_iload_n hx hb dL_law_949 rfl (lv_at hl 3 rfl) ?_
  refine lv_iconst (v := 1) hx hb dL_law_950 (by decide) ?_
  refine lv_iadd hx hb dL_law_951 ?_
  refine va_sld hx hb hX hbl hbA s8 (hv 1 (by decide)) dL_law_952 ?_
  refine lw_call (as := [.int (xs ((i + 1).toNatClampNeg))]) (rest := []) (ci := 11) (T := TX11) (N := 11) C0 hK hN hZ (pX_order hiX) mT_157 rfl cw_1287 cw_1288 cw_1289 yk_157 ⟨s1, qx, hqx, [xs ((i + 1).toNatClampNeg)], rfl, rfl⟩ eX s4 s6 s8 (by decide) hl.1 dL_law_953 (fun ov wsX1 H1 locs1 hQ hadX hP1 hD1 hk1 hS1 => ?_)
  have hPM1 := lw_kept s1.1 (mI_ad s2) s5 hap hk1
  obtain ⟨⟨z1, rfl⟩, t1, i1⟩ := hQ
  refine lv_pop hx hb dL_law_956 rfl ?_
  refine lv_aload_n hx hb dL_law_957 rfl (lv_at hl 2 rfl) ?_
  refine lv_aload_n hx hb dL_law_958 rfl (lv_at hl 0 rfl) ?_
  refine lv_iload_n hx hb dL_law_959 rfl (lv_at hl 3 rfl) ?_
  refine lv_iconst (v := 1) hx hb dL_law_960 (by decide) ?_
  refine lv_iadd hx hb dL_law_961 ?_
  refine va_sld hx hb hX hbl hbA hS1 (hv 1 (by decide)) dL_law_962 ?_
  refine lw_call (as := [.int (xs ((i + 1).toNatClampNeg))]) (rest := []) (ci := 12) (T := TX12) (N := 113) C0 hK hN hZ (pM_order hiM) mT_253 rfl cw_2166 cw_2167 cw_2168 yk_253 ⟨s2, qm, hqm, [xs ((i + 1).toNatClampNeg)], rfl, rfl⟩ eM hPM1 s7 hS1 (by decide) hl.1 dL_law_963 (fun ov wsM1 H2 locs2 hQ hadM hP2 hD2 hk2 hS2 => ?_)
  have hPX2 := lw_kept (mI_ad s2) i1.1 hP1 (fun i j q h1 h2 => hap j i q h2 h1) hk2
  obtain ⟨⟨z2, rfl⟩, t2, i2⟩ := hQ
  refine lv_pop hx hb dL_law_966 rfl ?_
  refine lv_goto (tgt := 1237) hx hb dL_law_967 (by decide) ?_
  exact kk wsX1 wsM1 H2 locs2 ⟨i1, i2, by omega, hPX2, hP2, hD1, hD2, hS2⟩
end LW
