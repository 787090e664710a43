/-! Steps that store into arrays, make cells, switch, copy -/
theorem ri_gA_set {τ : Nat → Int} {ad : List Nat} {κ : Nat → ClassId} {t i : Nat} {es : List ri_V} {f : Nat → Int32} {a : ri_V} {z : Int32} (ht : t ≤ 2) (hf : ∀ (j : Nat) (a : ri_V), es[j]? = some a → ri_gV τ ad a (.int (f j))) (hz : ri_gV τ ad a (.int z)) : ri_gA τ ad κ t (es.set i a) (.inl (κ t, es.length, .inl (upd f i z))) := by
  rw [ri_gA_i ht]
  refine ⟨upd f i z, by rw [List.length_set], fun j b hb => ?_⟩
  rw [List.getElem?_set] at hb
  by_cases e : i = j
  · subst e
    rw [if_pos rfl] at hb
    by_cases hl : i < es.length
    · rw [if_pos hl] at hb
      cases hb
      simpa [upd] using hz
    · rw [if_neg hl] at hb
      cases hb
  · rw [if_neg e] at hb
    have e' : ¬ j = i := fun q => e q.symm
    simpa [upd, e'] using hf j b hb
theorem ri_gA_setr {τ : Nat → Int} {ad : List Nat} {κ : Nat → ClassId} {t i : Nat} {es : List ri_V} {f : Nat → Option Nat} {a : ri_V} {z : Option Nat} (ht : 4 ≤ t) (hf : ∀ (j : Nat) (a : ri_V), es[j]? = some a → ri_gV τ ad a (va_rf (f j))) (hz : ri_gV τ ad a (va_rf z)) : ri_gA τ ad κ t (es.set i a) (.inl (κ t, es.length, .inr (.inr (.inr (.inr (va_up f i z)))))) := by
  rw [ri_gA_r ht]
  refine ⟨va_up f i z, by rw [List.length_set], fun j b hb => ?_⟩
  rw [List.getElem?_set] at hb
  by_cases e : i = j
  · subst e
    rw [if_pos rfl] at hb
    by_cases hl : i < es.length
    · rw [if_pos hl] at hb
      cases hb
      simpa [va_up] using hz
    · rw [if_neg hl] at hb
      cases hb
  · rw [if_neg e] at hb
    have e' : ¬ j = i := fun q => e q.symm
    simpa [va_up, e'] using hf j b hb
section RI10
variable {p : Program} {l : Launch} {e : Env} {R : Room} {s : State} {m : MethodId} {args : Array Value} {below : List Frame} {meth : Method} {c : Code} {cc : ByteArray} {nL n0 z0 : Nat} {τ : Nat → Int} {κ : Nat → ClassId} {D : va_G} {A : Nat → Prop} {H0 : Heap} {ad0 : List Nat} {Q : State → Prop} {own : String} {E : ri_E} {r : ri_R} {S : ri_S} {L : List ri_S}
theorem rs_ast {t1 t2 : Nat} (h20 : t2 ≤ 2) (hE : ri_okE E τ) (hi : ∀ {ws : va_W} {H : Heap} {locs : List Loc} {cells slots : Nat} {ls : Array Slot} {rest : List Value} {t a q n : Nat} {f : Nat → Int32} {u z : Int32}, t1 ≤ t → t ≤ t2 → va_P D vwCl ws H → va_D A ws → va_S A H0 H locs → ws[a]? = some (q, .inl (κ t, n, .inl f)) → vp_in u n → (t = 1 → z = 0 ∨ z = 1) → (t = 2 → z.toInt8.toInt32 = z) → (∀ (H1 : Heap) (locs1 : List Loc), va_P D vwCl (ws.set a (q, .inl (κ t, n, .inl (upd f u.toNatClampNeg z)))) H1 → va_D A (ws.set a (q, .inl (κ t, n, .inl (upd f u.toNatClampNeg z)))) → va_S A H0 H1 locs1 → W p l e R s m args below meth c H1 locs1 cells slots Q (F0 m (S.1 + r.2.1) ls rest)) → W p l e R s m args below meth c H locs cells slots Q (F0 m S.1 ls (.int z :: .int u :: .ref q :: rest))) (h : ri_ast E t1 t2 r S = some L) (k : ∀ S' ∈ L, ri_At p l e R s m args below meth c nL n0 z0 τ κ D A H0 ad0 Q S') : ri_At p l e R s m args below meth c nL n0 z0 τ κ D A H0 ad0 Q S := by
  unfold ri_ast at h
  obtain ⟨pc, lo, st0, hp, N', Z'⟩ := S
  rcases st0 with _ | ⟨v, _ | ⟨x | x, _ | ⟨y | (_ | a) | y, st0⟩⟩⟩
  all_goals first | (cases h; done) | skip
  have h : (match ri_nth hp a with
    | some (.inr o) => cond (Nat.ble t1 o.1) (cond (Nat.ble o.1 t2) (match ri_idx E x (ri_len o.2) with
      | some i => cond (match o.1 with
          | 0 => ri_fit E 0 v
          | 1 => ri_fit E 1 v
          | 2 => ri_fit E 3 v
          | _ => false) (some [((Nat.add pc r.2.1, lo, st0, ri_set (.inr (o.1, ri_set v o.2 i)) hp a, N', Z') : ri_S)]) none
      | none => none) none) none
    | _ => none) = some L := h
  rw [ri_nth_eq] at h
  cases ho : hp[a]? with
  | none => rw [ho] at h; cases h
  | some o =>
    rw [ho] at h
    rcases o with o | ⟨t, es⟩
    · cases h
    · have h : cond (Nat.ble t1 t) (cond (Nat.ble t t2) (match ri_idx E x (ri_len es) with
        | some i => cond (match (generalizing := false) t with
            | 0 => ri_fit E 0 v
            | 1 => ri_fit E 1 v
            | 2 => ri_fit E 3 v
            | _ => false) (some [((Nat.add pc r.2.1, lo, st0, ri_set (.inr (t, ri_set v es i)) hp a, N', Z') : ri_S)]) none
        | none => none) none) none = some L := h
      obtain ⟨c1, h⟩ := ri_cond h rfl
      obtain ⟨c2, h⟩ := ri_cond h rfl
      have c1 := Nat.le_of_ble_eq_true c1
      have c2 := Nat.le_of_ble_eq_true c2
      cases hx : ri_idx E x (ri_len es) with
      | none => rw [hx] at h; cases h
      | some i =>
        rw [hx] at h
        obtain ⟨c3, h⟩ := ri_cond h rfl
        cases h
        intro ws H locs ls st cells slots hH hP hD hS hL hst had hc hz
        have hqs := hst
        clear hst
        obtain ⟨val, st, rfl, gv, hst⟩ := ri_gS_cons hqs
        have hqs := hst
        clear hst
        obtain ⟨_, st, rfl, ⟨u, rfl, gu⟩, hst⟩ := ri_gS_cons hqs
        have hqs := hst
        clear hst
        obtain ⟨w, st, rfl, gw, hst⟩ := ri_gS_cons hqs
        obtain ⟨q, e0, rfl, he, ht7, hA0⟩ := ri_cell hH gw ho
        have ht2 : t ≤ 2 := Nat.le_trans c2 h20
        obtain ⟨f, rfl, hf⟩ := (ri_gA_i ht2).mp hA0
        obtain ⟨i1, i2, i3, i4⟩ := ri_idx_ok hE hx gu
        rw [ri_len_eq] at i3
        have vz : ∃ z : Int32, val = .int z ∧ (t = 1 → z = 0 ∨ z = 1) ∧ (t = 2 → z.toInt8.toInt32 = z) := by
          rcases v with vx | vx
          · obtain ⟨z, rfl, gz⟩ := gv
            refine ⟨z, rfl, fun e => ?_, fun e => ?_⟩
            · subst e
              exact ri_fit1 hE c3 gz
            · subst e
              exact ri_fit3 hE c3 gz
          · rcases (show t = 0 ∨ t = 1 ∨ t = 2 by omega) with rfl | rfl | rfl <;> cases c3
        obtain ⟨z, rfl, z1, z2⟩ := vz
        refine hi c1 c2 hP hD hS he (fun g => g.elim i4 (fun g => by have g : es.length ≤ _ := g; omega)) z1 z2 (fun H1 locs1 hP1 hD1 hS1 => ?_)
        have ead := ri_ad_set (e' := .inl (κ t, es.length, .inl (upd f u.toNatClampNeg z))) he
        exact k _ (List.mem_singleton.mpr rfl) _ H1 locs1 ls st cells slots (by
          show ri_gH τ κ (ri_set _ hp a) _
          rw [ri_set_eq]
          refine ri_gH_set hH he (c' := .inr (t, ri_set v es i)) ⟨ht7, ?_⟩
          show ri_gA τ (ri_ad ws) κ t (ri_set v es i) _
          rw [ri_set_eq, i2]
          exact ri_gA_set ht2 hf gv) hP1 hD1 hS1 (by rw [ead]; exact hL) (by rw [ead]; exact hst) (by rw [ead]; exact had) hc hz
theorem rs_iast (hx : p.tables.exec = Jvm.exec) (hb : c.code = cc) (hK : va_K D vwCl (ri_tys κ) s) (hE : ri_okE E τ) (hl : r.2.1 = 1) (hd : decode cc S.1 = .ok (.iastore, 1)) (h : ri_ast E 0 0 r S = some L) (k : ∀ S' ∈ L, ri_At p l e R s m args below meth c nL n0 z0 τ κ D A H0 ad0 Q S') : ri_At p l e R s m args below meth c nL n0 z0 τ κ D A H0 ad0 Q S := by
  refine rs_ast (by decide) hE ?_ h k
  intro ws H locs cells slots ls rest t a q n f u z h1 h2 hP hD hS he hin z1 z2 kk
  obtain rfl : t = 0 := by omega
  rw [hl] at kk
  exact va_iast hx hb hK hP hD hS a 0 he rfl hin hd kk
theorem rs_bast (hx : p.tables.exec = Jvm.exec) (hb : c.code = cc) (hK : va_K D vwCl (ri_tys κ) s) (hE : ri_okE E τ) (hl : r.2.1 = 1) (hd : decode cc S.1 = .ok (.bastore, 1)) (h : ri_ast E 1 2 r S = some L) (k : ∀ S' ∈ L, ri_At p l e R s m args below meth c nL n0 z0 τ κ D A H0 ad0 Q S') : ri_At p l e R s m args below meth c nL n0 z0 τ κ D A H0 ad0 Q S := by
  refine rs_ast (by decide) hE ?_ h k
  intro ws H locs cells slots ls rest t a q n f u z h1 h2 hP hD hS he hin z1 z2 kk
  rw [hl] at kk
  rcases (show t = 1 ∨ t = 2 by omega) with rfl | rfl
  · have ez : vp_nar .boolean z = z := by
      rcases z1 rfl with rfl | rfl
      · decide +kernel
      · decide +kernel
    refine va_zast hx hb hK hP hD hS a 1 he rfl hin hd ?_
    rw [ez]
    exact kk
  · have ez : vp_nar .byte z = z := z2 rfl
    refine va_bast hx hb hK hP hD hS a 2 he rfl hin hd ?_
    rw [ez]
    exact kk
theorem rs_aast (hx : p.tables.exec = Jvm.exec) (hb : c.code = cc) (hK : va_K D vwCl (ri_tys κ) s) (hE : ri_okE E τ) (hl : r.2.1 = 1) (hd : decode cc S.1 = .ok (.aastore, 1)) (h : ri_aast E ri_oc r S = some L) (k : ∀ S' ∈ L, ri_At p l e R s m args below meth c nL n0 z0 τ κ D A H0 ad0 Q S') : ri_At p l e R s m args below meth c nL n0 z0 τ κ D A H0 ad0 Q S := by
  unfold ri_aast at h
  obtain ⟨pc, lo, st0, hp, N', Z'⟩ := S
  rcases st0 with _ | ⟨v | (_ | b) | v, _ | ⟨x | x, _ | ⟨y | (_ | a) | y, st0⟩⟩⟩
  all_goals first | (cases h; done) | skip
  have h : (match ri_nth hp a with
    | some (.inr o) => (match ri_nth hp b with
      | some (.inl ob) => cond (Nat.ble 4 o.1) (cond (Nat.ble o.1 6) (cond (Nat.beq ob.1 (ri_oc o.1)) (match ri_idx E x (ri_len o.2) with
        | some i => some [((Nat.add pc r.2.1, lo, st0, ri_set (.inr (o.1, ri_set (.inr (.inl (some b))) o.2 i)) hp a, N', Z') : ri_S)]
        | none => none) none) none) none
      | _ => none)
    | _ => none) = some L := h
  rw [ri_nth_eq, ri_nth_eq] at h
  cases ho : hp[a]? with
  | none => rw [ho] at h; cases h
  | some o =>
    rw [ho] at h
    rcases o with o | ⟨t, es⟩
    · cases h
    · cases hob : hp[b]? with
      | none => rw [hob] at h; cases h
      | some ob =>
        rw [hob] at h
        rcases ob with ob | ob
        · have h : cond (Nat.ble 4 t) (cond (Nat.ble t 6) (cond (Nat.beq ob.1 (ri_oc t)) (match ri_idx E x (ri_len es) with
            | some i => some [((Nat.add pc r.2.1, lo, st0, ri_set (.inr (t, ri_set (.inr (.inl (some b))) es i)) hp a, N', Z') : ri_S)]
            | none => none) none) none) none = some L := h
          obtain ⟨c1, h⟩ := ri_cond h rfl
          obtain ⟨c2, h⟩ := ri_cond h rfl
          obtain ⟨c3, h⟩ := ri_cond h rfl
          have c1 := Nat.le_of_ble_eq_true c1
          have c2 := Nat.le_of_ble_eq_true c2
          have c3 := Nat.eq_of_beq_eq_true c3
          cases hx0 : ri_idx E x (ri_len es) with
          | none => rw [hx0] at h; cases h
          | some i =>
            rw [hx0] at h
            cases h
            intro ws H locs ls st cells slots hH hP hD hS hL hst had hc hz
            have hqs := hst
            clear hst
            obtain ⟨val, st, rfl, gv, hst⟩ := ri_gS_cons hqs
            have hqs := hst
            clear hst
            obtain ⟨_, st, rfl, ⟨u, rfl, gu⟩, hst⟩ := ri_gS_cons hqs
            have hqs := hst
            clear hst
            obtain ⟨w, st, rfl, gw, hst⟩ := ri_gS_cons hqs
            obtain ⟨q, e0, rfl, he, ht7, hA0⟩ := ri_cell hH gw ho
            obtain ⟨qb, eb, rfl, heb, vs, rfl, -⟩ := ri_cell hH gv hob
            obtain ⟨f, rfl, hf⟩ := (ri_gA_r c1).mp hA0
            obtain ⟨i1, i2, i3, i4⟩ := ri_idx_ok hE hx0 gu
            rw [ri_len_eq] at i3
            have hin : vp_in u es.length := fun g => g.elim i4 (fun g => by rw [i2] at g; omega)
            have fin : ∀ (H1 : Heap) (locs1 : List Loc), va_P D vwCl (ws.set a (q, .inl (κ t, es.length, .inr (.inr (.inr (.inr (va_up f u.toNatClampNeg (some qb)))))))) H1 → va_D A (ws.set a (q, .inl (κ t, es.length, .inr (.inr (.inr (.inr (va_up f u.toNatClampNeg (some qb)))))))) → va_S A H0 H1 locs1 → W p l e R s m args below meth c H1 locs1 cells slots Q (F0 m (pc + 1) ls st) := fun H1 locs1 hP1 hD1 hS1 => by
              have ead := ri_ad_set (e' := .inl (κ t, es.length, .inr (.inr (.inr (.inr (va_up f u.toNatClampNeg (some qb))))))) he
              have := k _ (List.mem_singleton.mpr rfl) _ H1 locs1 ls st cells slots (by
                show ri_gH τ κ (ri_set _ hp a) _
                rw [ri_set_eq]
                refine ri_gH_set hH he (c' := .inr (t, ri_set (.inr (.inl (some b))) es i)) ⟨ht7, ?_⟩
                show ri_gA τ (ri_ad ws) κ t (ri_set _ es i) _
                rw [ri_set_eq, i2]
                exact ri_gA_setr c1 hf gv) hP1 hD1 hS1 (by rw [ead]; exact hL) (by rw [ead]; exact hst) (by rw [ead]; exact had) hc hz
              rw [hl] at this
              exact this
            rcases (show t = 4 ∨ t = 5 ∨ t = 6 by omega) with rfl | rfl | rfl
            · exact va_astq (r := (RX9, TX9, 5)) hx hb hK hP hD hS a 4 b 9 he rfl (by rw [heb, c3]; rfl) rfl hin hd fin
            · exact va_astq (r := (RX0, TX0, 11)) hx hb hK hP hD hS a 5 b 0 he rfl (by rw [heb, c3]; rfl) rfl hin hd fin
            · exact va_astq (r := (RX10, TX10, 11)) hx hb hK hP hD hS a 6 b 10 he rfl (by rw [heb, c3]; rfl) rfl hin hd fin
        · cases h
/-- a new object -/
theorem rs_new (hx : p.tables.exec = Jvm.exec) (hb : c.code = cc) (hown : s.vm.findClass own = some m.cls) (hts : ∀ w ∈ gU, w.before args s = true) (hK : va_K D vwCl (ri_tys κ) s) (hA : ∀ q, H0.size ≤ q → A q) {idx N : Nat} {C : String} {T : u_T} {ty0 : Nat → FieldType} {df : List ri_V} (hl : r.2.1 = 3) (hc0 : vwCl[r.2.2.1]? = some (C, T, N)) (hin : ∀ w ∈ u_ws C T N, w ∈ gU) (hty : ∀ k, k < N → parseFieldDescriptor (T k).2.2.1 = some (ty0 k)) (hdf : ri_df[r.2.2.1]? = some df) (hdl : df.length = N) (hdv : ∀ (k : Nat) (a : ri_V), df[k]? = some a → ∀ (τ : Nat → Int) (ad : List Nat), ri_gV τ ad a (defaultValue (ty0 k))) (hcl : Cond.classLink own idx C ∈ gU) (hin1 : Cond.instantiable C N ∈ gU) (hin2 : Cond.initialized C ∈ gU) (hd : decode cc S.1 = .ok (.new idx, 3)) (h : ri_new ri_df r S = some L) (hroom : ∀ S' ∈ L, S'.2.2.2.2.1 ≤ n0 + R.cells ∧ S'.2.2.2.2.2 ≤ z0 + R.slots) (k : ∀ S' ∈ L, ri_At p l e R s m args below meth c nL n0 z0 τ κ D A H0 ad0 Q S') : ri_At p l e R s m args below meth c nL n0 z0 τ κ D A H0 ad0 Q S := by
  unfold ri_new at h
  rw [ri_nth_eq, hdf] at h
  cases h
  obtain ⟨pc, lo, st0, hp, N', Z'⟩ := S
  have hr := hroom _ (List.mem_singleton.mpr rfl)
  have hr1 : N' + 1 ≤ n0 + R.cells := hr.1
  have hr2 : Z' + ri_len df ≤ z0 + R.slots := hr.2
  rw [ri_len_eq, hdl] at hr2
  intro ws H locs ls st cells slots hH hP hD hS hL hst had hc hz
  have hc : cells + n0 = N' := hc
  have hz : slots + z0 = Z' := hz
  have hvs : ∀ j, j < N → defaultValue (ty0 j) = vp_V ((List.range N).map fun j => defaultValue (ty0 j)) j := fun j hj => by
    simp [vp_V, hj]
  refine va_new (Ts := gU) (ci := r.2.2.1) (fs := (List.range N).map fun j => defaultValue (ty0 j)) hx hb hts hin ty0 hty hown (hts _ hcl) (hts _ hin1) (hts _ hin2) hK hP hD hS hA hc0 hvs (by omega) (by omega) hd (fun q H1 hP1 hD1 hS1 => ?_)
  have hpre : ri_ad ws <+: ri_ad (ws ++ [(q, .inr (r.2.2.1, (List.range N).map fun j => defaultValue (ty0 j)))]) := ⟨[q], by simp [ri_ad]⟩
  have hlast : (ri_ad (ws ++ [(q, .inr (r.2.2.1, (List.range N).map fun j => defaultValue (ty0 j)))]))[ri_len hp]? = some q := by
    rw [ri_len_eq, ← hH.1]
    simp [ri_ad]
  have := k _ (List.mem_singleton.mpr rfl) _ H1 locs ls (.ref q :: st) (cells + 1) (slots + N) (ri_gH_app hH rfl (fun j c hj => by
    cases j with
    | zero =>
      cases hj
      refine ⟨q, _, rfl, _, rfl, by simp [hdl], fun i a ha => ?_⟩
      have hi : i < N := by rw [← hdl]; exact (List.getElem?_eq_some_iff.mp ha).1
      exact ⟨_, by simp [hi], hdv i a ha _ _⟩
    | succ j => simp at hj)) hP1 hD1 hS1 (ri_gL_mono hL hpre) ⟨⟨q, hlast, rfl⟩, ri_gS_mono hpre hst⟩ (List.IsPrefix.trans had hpre) (by show cells + 1 + n0 = N' + 1; omega) (by show slots + N + z0 = Z' + ri_len df; rw [ri_len_eq, hdl]; omega)
  rw [hl] at this
  exact this
theorem ri_rep_eq (n : Nat) (v : ri_V) : ri_rep n v = List.replicate n v := by
  induction n with
  | zero => rfl
  | succ n ih => exact congrArg (v :: ·) ih
/-- a new array: its cell joins the others -/
theorem rs_newx (hE : ri_okE E τ) {f : Nat → va_E} (hi : ∀ {ws : va_W} {H : Heap} {locs : List Loc} {cells slots n : Nat} {ls : Array Slot} {rest : List Value} {u : Int32}, va_P D vwCl ws H → va_D A ws → va_S A H0 H locs → ¬ u < 0 → u.toNatClampNeg = n → n < 100000 → cells + 1 ≤ R.cells → slots + n ≤ R.slots → (∀ (q : Nat) (H1 : Heap), va_P D vwCl (ws ++ [(q, f n)]) H1 → va_D A (ws ++ [(q, f n)]) → va_S A H0 H1 locs → W p l e R s m args below meth c H1 locs (cells + 1) (slots + n) Q (F0 m (S.1 + r.2.1) ls (.ref q :: rest))) → W p l e R s m args below meth c H locs cells slots Q (F0 m S.1 ls (.int u :: rest))) (hf : ∀ (n : Nat) (ad : List Nat), ri_gC τ ad κ (.inr (r.2.2.1, ri_rep n (ri_dflt r.2.2.1))) (f n)) (h : ri_newa E r S = some L) (hroom : ∀ S' ∈ L, S'.2.2.2.2.1 ≤ n0 + R.cells ∧ S'.2.2.2.2.2 ≤ z0 + R.slots) (k : ∀ S' ∈ L, ri_At p l e R s m args below meth c nL n0 z0 τ κ D A H0 ad0 Q S') : ri_At p l e R s m args below meth c nL n0 z0 τ κ D A H0 ad0 Q S := by
  unfold ri_newa at h
  obtain ⟨pc, lo, st0, hp, N', Z'⟩ := S
  rcases st0 with _ | ⟨x | x, st0⟩
  · cases h
  · have h : (match ri_idx E x 100000 with
      | some n => some [((Nat.add pc r.2.1, lo, .inr (.inl (some (ri_len hp))) :: st0, List.append hp [.inr (r.2.2.1, ri_rep n (ri_dflt r.2.2.1))], Nat.succ N', Nat.add Z' n) : ri_S)]
      | none => none) = some L := h
    cases hx : ri_idx E x 100000 with
    | none => rw [hx] at h; cases h
    | some n =>
      rw [hx] at h
      cases h
      have hr := hroom _ (List.mem_singleton.mpr rfl)
      have hr1 : N' + 1 ≤ n0 + R.cells := hr.1
      have hr2 : Z' + n ≤ z0 + R.slots := hr.2
      intro ws H locs ls st cells slots hH hP hD hS hL hst had hc hz
      have hc : cells + n0 = N' := hc
      have hz : slots + z0 = Z' := hz
      have hqs := hst
      clear hst
      obtain ⟨_, st, rfl, ⟨u, rfl, gu⟩, hst⟩ := ri_gS_cons hqs
      obtain ⟨i1, i2, i3, i4⟩ := ri_idx_ok hE hx gu
      refine hi hP hD hS i4 i2 i3 (by omega) (by omega) (fun q H1 hP1 hD1 hS1 => ?_)
      have hpre : ri_ad ws <+: ri_ad (ws ++ [(q, f n)]) := ⟨[q], by simp [ri_ad]⟩
      have hlast : (ri_ad (ws ++ [(q, f n)]))[ri_len hp]? = some q := by
        rw [ri_len_eq, ← hH.1]
        simp [ri_ad]
      exact k _ (List.mem_singleton.mpr rfl) _ H1 locs ls (.ref q :: st) (cells + 1) (slots + n) (ri_gH_app hH rfl (fun j c hj => by
        cases j with
        | zero =>
          cases hj
          exact ⟨q, _, rfl, hf n _⟩
        | succ j => simp at hj)) hP1 hD1 hS1 (ri_gL_mono hL hpre) ⟨⟨q, hlast, rfl⟩, ri_gS_mono hpre hst⟩ (List.IsPrefix.trans had hpre) (by show cells + 1 + n0 = N' + 1; omega) (by show slots + n + z0 = Z' + n; omega)
  · cases h
end RI10
