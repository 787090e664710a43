section RI11
variable {p : Program} {l : Launch} {e : Env} {R : Room} {s : State} {m : MethodId} {args : Array Value} {below : List Frame} {meth : Method} {c : Code} {cc : ByteArray} {nL n0 z0 : Nat} {τ : Nat → Int} {κ : Nat → ClassId} {D : va_G} {A : Nat → Prop} {H0 : Heap} {ad0 : List Nat} {Q : State → Prop} {own : String} {E : ri_E} {r : ri_R} {S : ri_S} {L : List ri_S}
theorem ri_gV_0 (τ : Nat → Int) (ad : List Nat) : ri_gV τ ad (.inl (0, 0, 0)) (.int 0) := ⟨0, rfl, ri_gI_0.mpr ⟨Int.le_refl _, Int.le_refl _⟩⟩
theorem ri_rep_at {n j : Nat} {v a : ri_V} (h : (ri_rep n v)[j]? = some a) : a = v := by
  rw [ri_rep_eq, List.getElem?_replicate] at h
  split at h
  · exact (Option.some.inj h).symm
  · cases h
theorem ri_rep_len (n : Nat) (v : ri_V) : (ri_rep n v).length = n := by rw [ri_rep_eq, List.length_replicate]
theorem ri_cA (hK : va_K D vwCl (ri_tys κ) s) {t : Nat} (ht : t ≤ 7) {cA : ClassId} {ty : FieldType} (hty : ri_ty t = ty) (hK2 : va_K D vwCl (ri_tys κ ++ [(cA, ty)]) s) : cA = κ t := by
  have h1 := (hK.2 t _ (ri_tys_at κ ht)).2
  have h2 : va_RA s cA ty := (hK2.2 8 (cA, ty) rfl).2
  rw [hty] at h1
  cases ty with
  | object C =>
    obtain ⟨_, _, _, _, _, a4⟩ := h1
    obtain ⟨_, _, _, _, _, b4⟩ := h2
    exact Option.some.inj (b4.symm.trans a4)
  | _ => exact Option.some.inj (Eq.trans (Eq.symm h2) h1)
theorem rs_newarr (hx : p.tables.exec = Jvm.exec) (hb : c.code = cc) (hts : ∀ w ∈ gU, w.before args s = true) (hK : va_K D vwCl (ri_tys κ) s) (hE : ri_okE E τ) (hA : ∀ q, H0.size ≤ q → A q) {at0 : ArrayType} (hl : r.2.1 = 2) (hta : r.2.2.1 ≤ 3) (htb : newarray.typeOf at0 = ri_ty r.2.2.1) (harr : Cond.arrayClass (ri_ty r.2.2.1) ∈ gU) (hd : decode cc S.1 = .ok (.newarray at0, 2)) (h : ri_newa E r S = some L) (hroom : ∀ S' ∈ L, S'.2.2.2.2.1 ≤ n0 + R.cells ∧ S'.2.2.2.2.2 ≤ z0 + R.slots) (k : ∀ S' ∈ L, ri_At p l e R s m args below meth c nL n0 z0 τ κ D A H0 ad0 Q S') : ri_At p l e R s m args below meth c nL n0 z0 τ κ D A H0 ad0 Q S := by
  rcases (show r.2.2.1 ≤ 2 ∨ r.2.2.1 = 3 by omega) with h2 | h3
  · refine rs_newx hE (f := fun n => .inl (κ r.2.2.1, n, .inl (fun _ => 0))) ?_ ?_ h hroom k
    · intro ws H locs cells slots n ls rest u hP hD hS u1 u2 u3 u4 u5 kk
      rw [hl] at kk
      refine va_newa (ty := ri_ty r.2.2.1) (a0 := (n, .inl (fun _ => 0))) hx hb (by rw [htb]; exact hts _ harr) htb hK hP hD hS hA (fun cA => ?_) u1 u2 ?_ u4 u5 hd (fun q cA H1 hK2 hP1 hD1 hS1 => ?_)
      · rcases (show r.2.2.1 = 0 ∨ r.2.2.1 = 1 ∨ r.2.2.1 = 2 by omega) with g | g | g <;> rw [g] <;> rfl
      · have : componentBytes (ri_ty r.2.2.1) ≤ 8 := by
          rcases (show r.2.2.1 = 0 ∨ r.2.2.1 = 1 ∨ r.2.2.1 = 2 by omega) with g | g | g <;> rw [g] <;> decide
        have := Nat.mul_le_mul_left n this
        omega
      · have e := ri_cA hK (t := r.2.2.1) (by omega) rfl hK2
        subst e
        exact kk q H1 hP1 hD1 hS1
    · intro n ad
      refine ⟨by show r.2.2.1 ≤ 7; omega, ?_⟩
      show ri_gA τ ad κ r.2.2.1 (ri_rep n (ri_dflt r.2.2.1)) _
      rw [ri_gA_i h2]
      refine ⟨_, by rw [ri_rep_len], fun j a ha => ?_⟩
      rw [ri_rep_at ha]
      rcases (show r.2.2.1 = 0 ∨ r.2.2.1 = 1 ∨ r.2.2.1 = 2 by omega) with g | g | g <;> rw [g] <;> exact ri_gV_0 τ ad
  · refine rs_newx hE (f := fun n => .inl (κ 3, n, .inr (.inl (fun _ => 0)))) ?_ ?_ h hroom k
    · intro ws H locs cells slots n ls rest u hP hD hS u1 u2 u3 u4 u5 kk
      rw [hl] at kk
      rw [h3] at htb harr
      refine va_newa (ty := .long) (a0 := (n, .inr (.inl (fun _ => 0)))) hx hb (by rw [htb]; exact hts _ harr) htb hK hP hD hS hA (fun cA => rfl) u1 u2 ?_ u4 u5 hd (fun q cA H1 hK2 hP1 hD1 hS1 => ?_)
      · show n * 8 ≤ _
        omega
      · have e := ri_cA hK (t := 3) (by omega) rfl hK2
        subst e
        exact kk q H1 hP1 hD1 hS1
    · intro n ad
      refine ⟨by show r.2.2.1 ≤ 7; omega, ?_⟩
      show ri_gA τ ad κ r.2.2.1 (ri_rep n (ri_dflt r.2.2.1)) _
      rw [h3]
      exact ⟨_, by rw [ri_rep_len]⟩
theorem rs_anew (hx : p.tables.exec = Jvm.exec) (hb : c.code = cc) (hown : s.vm.findClass own = some m.cls) (hts : ∀ w ∈ gU, w.before args s = true) (hK : va_K D vwCl (ri_tys κ) s) (hN : ri_N s) (hE : ri_okE E τ) (hA : ∀ q, H0.size ≤ q → A q) {idx : Nat} {C : String} (hl : r.2.1 = 3) (h4 : 4 ≤ r.2.2.1) (h6 : r.2.2.1 ≤ 6) (hC : ri_ty r.2.2.1 = .object C) (hcl : Cond.classLink own idx C ∈ gU) (hd : decode cc S.1 = .ok (.anewarray idx, 3)) (h : ri_newa E r S = some L) (hroom : ∀ S' ∈ L, S'.2.2.2.2.1 ≤ n0 + R.cells ∧ S'.2.2.2.2.2 ≤ z0 + R.slots) (k : ∀ S' ∈ L, ri_At p l e R s m args below meth c nL n0 z0 τ κ D A H0 ad0 Q S') : ri_At p l e R s m args below meth c nL n0 z0 τ κ D A H0 ad0 Q S := by
  have hover : va_AO C s := by
    rcases (show r.2.2.1 = 4 ∨ r.2.2.1 = 5 ∨ r.2.2.1 = 6 by omega) with g | g | g
    · rw [g] at hC; cases hC; exact hN.2.1
    · rw [g] at hC; cases hC; exact hN.2.2.1
    · rw [g] at hC; cases hC; exact hN.2.2.2.1
  refine rs_newx hE (f := fun n => .inl (κ r.2.2.1, n, .inr (.inr (.inr (.inr (fun _ => none)))))) ?_ ?_ h hroom k
  · intro ws H locs cells slots n ls rest u hP hD hS u1 u2 u3 u4 u5 kk
    rw [hl] at kk
    refine va_newq hx hb hown (hts _ hcl) hover hK hP hD hS hA u1 u2 (by omega) u4 u5 hd (fun q cA H1 hK2 hP1 hD1 hS1 => ?_)
    have e := ri_cA hK (t := r.2.2.1) (by omega) hC hK2
    subst e
    exact kk q H1 hP1 hD1 hS1
  · intro n ad
    refine ⟨by show r.2.2.1 ≤ 7; omega, ?_⟩
    show ri_gA τ ad κ r.2.2.1 (ri_rep n (ri_dflt r.2.2.1)) _
    rw [ri_gA_r h4]
    refine ⟨_, by rw [ri_rep_len], fun j a ha => ?_⟩
    rw [ri_rep_at ha]
    rcases (show r.2.2.1 = 4 ∨ r.2.2.1 = 5 ∨ r.2.2.1 = 6 by omega) with g | g | g <;> rw [g] <;> rfl
theorem rs_tsw (hx : p.tables.exec = Jvm.exec) (hb : c.code = cc) (hE : ri_okE E τ) {d lo hi : Int} {offs : Array Int} {len : Nat} (htd : 0 ≤ (S.1 : Int) + d) (hto : ∀ o ∈ offs.toList, 0 ≤ (S.1 : Int) + o) (hd : decode cc S.1 = .ok (.tableswitch d lo hi offs, len)) (h : ri_tsw E d lo hi offs S = some L) (k : ∀ S' ∈ L, ri_At p l e R s m args below meth c nL n0 z0 τ κ D A H0 ad0 Q S') : ri_At p l e R s m args below meth c nL n0 z0 τ κ D A H0 ad0 Q S := by
  unfold ri_tsw at h
  obtain ⟨pc, lo0, st0, hp, N', Z'⟩ := S
  rcases st0 with _ | ⟨x | x, st0⟩
  · cases h
  · have h : (match ri_abs E x with
      | some a => cond (ri_lt a.2 lo) (some [((Int.toNat (Int.add (.ofNat pc) d), lo0, st0, hp, N', Z') : ri_S)]) (cond (ri_lt hi a.1) (some [((Int.toNat (Int.add (.ofNat pc) d), lo0, st0, hp, N', Z') : ri_S)]) (cond (ri_le a.2 a.1) (cond (ri_le lo a.1) (cond (ri_le a.1 hi) (match ri_nth offs.toList (Int.toNat (Int.sub a.1 lo)) with
        | some o => some [((Int.toNat (Int.add (.ofNat pc) o), lo0, st0, hp, N', Z') : ri_S)]
        | none => none) none) none) none))
      | none => none) = some L := h
    cases ha : ri_abs E x with
    | none => rw [ha] at h; cases h
    | some a =>
      rw [ha] at h
      have h : cond (ri_lt a.2 lo) (some [((Int.toNat (Int.add (.ofNat pc) d), lo0, st0, hp, N', Z') : ri_S)]) (cond (ri_lt hi a.1) (some [((Int.toNat (Int.add (.ofNat pc) d), lo0, st0, hp, N', Z') : ri_S)]) (cond (ri_le a.2 a.1) (cond (ri_le lo a.1) (cond (ri_le a.1 hi) (match ri_nth offs.toList (Int.toNat (Int.sub a.1 lo)) with
        | some o => some [((Int.toNat (Int.add (.ofNat pc) o), lo0, st0, hp, N', Z') : ri_S)]
        | none => none) none) none) none)) = some L := h
      intro ws H locs ls st cells slots hH hP hD hS hL hst had hc hz
      have hqs := hst
      clear hst
      obtain ⟨_, st, rfl, ⟨u, rfl, gu⟩, hst⟩ := ri_gS_cons hqs
      have h1 := ri_abs_ok hE ha gu
      have htd : 0 ≤ (pc : Int) + d := htd
      have hto : ∀ o ∈ offs.toList, 0 ≤ (pc : Int) + o := hto
      have out : (u.toInt < lo ∨ hi < u.toInt) → some L = some [((Int.toNat (Int.add (.ofNat pc) d), lo0, st0, hp, N', Z') : ri_S)] → W p l e R s m args below meth c H locs cells slots Q (F0 m pc ls (.int u :: st)) := fun g e0 => by
        cases e0
        refine lv_tableOut (tgt := Int.toNat ((pc : Int) + d)) hx hb hd g (by omega) ?_
        exact k _ (List.mem_singleton.mpr rfl) ws H locs ls st cells slots hH hP hD hS hL hst had hc hz
      cases c1 : ri_lt a.2 lo with
      | true =>
        rw [c1] at h
        have := ri_lt_iff.mp c1
        exact out (by omega) h.symm
      | false =>
        cases c2 : ri_lt hi a.1 with
        | true =>
          rw [c1, c2] at h
          have := ri_lt_iff.mp c2
          exact out (by omega) h.symm
        | false =>
          rw [c1, c2] at h
          have h : cond (ri_le a.2 a.1) (cond (ri_le lo a.1) (cond (ri_le a.1 hi) (match ri_nth offs.toList (Int.toNat (Int.sub a.1 lo)) with
            | some o => some [((Int.toNat (Int.add (.ofNat pc) o), lo0, st0, hp, N', Z') : ri_S)]
            | none => none) none) none) none = some L := h
          obtain ⟨c3, h⟩ := ri_cond h rfl
          obtain ⟨c4, h⟩ := ri_cond h rfl
          obtain ⟨c5, h⟩ := ri_cond h rfl
          have c3 := ri_le_iff.mp c3
          have c4 := ri_le_iff.mp c4
          have c5 := ri_le_iff.mp c5
          rw [ri_nth_eq] at h
          cases ho : offs.toList[Int.toNat (Int.sub a.1 lo)]? with
          | none => rw [ho] at h; cases h
          | some o =>
            rw [ho] at h
            cases h
            have eu : u.toInt = a.1 := by omega
            have hpo := hto o (List.mem_of_getElem? ho)
            refine lv_tableIn (off := o) (tgt := Int.toNat ((pc : Int) + o)) hx hb hd (by omega) (by omega) (by
              rw [eu, ← Array.getElem?_toList]
              exact ho) (by omega) ?_
            exact k _ (List.mem_singleton.mpr rfl) ws H locs ls st cells slots hH hP hD hS hL hst had hc hz
  · cases h
theorem ri_cp_ok : ∀ (n : Nat) {l m q : List ri_V}, ri_cp n l m = some q → n ≤ l.length ∧ n ≤ m.length ∧ q.length = m.length ∧ ∀ j, q[j]? = if j < n then l[j]? else m[j]?
  | 0, l, m, q, h => by
    cases h
    exact ⟨Nat.zero_le _, Nat.zero_le _, rfl, fun j => by simp⟩
  | n + 1, [], m, q, h => by cases h
  | n + 1, a :: l, [], q, h => by cases h
  | n + 1, a :: l, b :: m, q, h => by
    have h : (match ri_cp n l m with
      | some q => some (a :: q)
      | none => none) = some q := h
    cases hq : ri_cp n l m with
    | none => rw [hq] at h; cases h
    | some q' =>
      rw [hq] at h
      cases h
      obtain ⟨h1, h2, h3, h4⟩ := ri_cp_ok n hq
      refine ⟨by simp; omega, by simp; omega, by simp [h3], fun j => ?_⟩
      cases j with
      | zero => simp
      | succ j => simpa using h4 j
theorem ri_allfit_ok (hE : ri_okE E τ) : ∀ {l : List ri_V}, ri_allfit E l = true → ∀ (j : Nat) (a : ri_V), l[j]? = some a → ri_fit E 1 a = true
  | [], _, j, a, ha => by simp at ha
  | b :: l, h, j, a, ha => by
    have h : cond (ri_fit E 1 b) (ri_allfit E l) false = true := h
    cases hb : ri_fit E 1 b with
    | false => rw [hb] at h; cases h
    | true =>
      rw [hb] at h
      cases j with
      | zero =>
        simp at ha
        rw [← ha]
        exact hb
      | succ j => exact ri_allfit_ok hE h j a (by simpa using ha)
theorem ri_cats (st : List Value) : (st.map fun v => v.category).sum ≤ 2 * st.length := by
  induction st with
  | nil => simp
  | cons v t ih =>
    have := lv_cat v
    simp
    omega
theorem rs_acp (hx : p.tables.exec = Jvm.exec) (hb : c.code = cc) (hml : c.maxLocals = nL) (hown : s.vm.findClass own = some m.cls) (hts : ∀ w ∈ gU, w.before args s = true) (hK : va_K D vwCl (ri_tys κ) s) (hE : ri_okE E τ) (hfr : 1 ≤ R.frames) (hlo : 100 ≤ R.locals) {idx : Nat} (hl : r.2.1 = 3) (hlink : Cond.methodLink own idx arraycopyName ∈ gU) (hnat : Cond.native arraycopyName ∈ gU) (hsta : Cond.static arraycopyName ∈ gU) (hini : Cond.initialized "java/lang/System" ∈ gU) (hd : decode cc S.1 = .ok (.invokestatic idx, 3)) (hst8 : S.2.2.1.length ≤ 8) (h : ri_acp E r S = some L) (k : ∀ S' ∈ L, ri_At p l e R s m args below meth c nL n0 z0 τ κ D A H0 ad0 Q S') : ri_At p l e R s m args below meth c nL n0 z0 τ κ D A H0 ad0 Q S := by
  unfold ri_acp at h
  obtain ⟨pc, lo, st0, hp, N', Z'⟩ := S
  rcases st0 with _ | ⟨n0' | x, _ | ⟨dp | x, _ | ⟨x | (_ | b) | x, _ | ⟨sp | x, _ | ⟨x | (_ | a) | x, st0⟩⟩⟩⟩⟩
  all_goals first | (cases h; done) | skip
  have h : (match ri_idx E n0' 100000 with
    | none => none
    | some n => (match ri_idx E dp 1 with
      | none => none
      | some _ => (match ri_idx E sp 1 with
        | none => none
        | some _ => (match ri_nth hp a with
          | some (.inr oa) => (match ri_nth hp b with
            | some (.inr ob) => cond (Nat.beq oa.1 ob.1) (cond (match oa.1 with
              | 0 => true
              | 1 => ri_allfit E oa.2
              | _ => false) (match ri_cp n oa.2 ob.2 with
              | some q => some [((Nat.add pc r.2.1, lo, st0, ri_set (.inr (ob.1, q)) hp b, N', Z') : ri_S)]
              | none => none) none) none
            | _ => none)
          | _ => none)))) = some L := h
  cases hn : ri_idx E n0' 100000 with
  | none => rw [hn] at h; cases h
  | some n =>
    cases hdp : ri_idx E dp 1 with
    | none => rw [hn, hdp] at h; cases h
    | some dp' =>
      cases hsp : ri_idx E sp 1 with
      | none => rw [hn, hdp, hsp] at h; cases h
      | some sp' =>
        rw [hn, hdp, hsp, ri_nth_eq, ri_nth_eq] at h
        cases hoa : hp[a]? with
        | none => rw [hoa] at h; cases h
        | some oa =>
          cases hob : hp[b]? with
          | none => rw [hoa, hob] at h; rcases oa with oa | oa <;> cases h
          | some ob =>
            rw [hoa, hob] at h
            rcases oa with oa | ⟨t, ea⟩
            · cases h
            · rcases ob with ob | ⟨t', eb⟩
              · cases h
              · have h : cond (Nat.beq t t') (cond (match (generalizing := false) t with
                  | 0 => true
                  | 1 => ri_allfit E ea
                  | _ => false) (match ri_cp n ea eb with
                  | some q => some [((Nat.add pc r.2.1, lo, st0, ri_set (.inr (t', q)) hp b, N', Z') : ri_S)]
                  | none => none) none) none = some L := h
                obtain ⟨c1, h⟩ := ri_cond h rfl
                obtain ⟨c2, h⟩ := ri_cond h rfl
                have c1 := Nat.eq_of_beq_eq_true c1
                subst c1
                cases hq : ri_cp n ea eb with
                | none => rw [hq] at h; cases h
                | some qs =>
                  rw [hq] at h
                  cases h
                  have ht1 : t ≤ 1 := by
                    rcases t with _ | _ | t
                    · omega
                    · omega
                    · cases c2
                  obtain ⟨q1, q2, q3, q4⟩ := ri_cp_ok n hq
                  intro ws H locs ls st cells slots hH hP hD hS hL hst had hc hz
                  have hqs := hst
                  clear hst
                  obtain ⟨_, st, rfl, ⟨un, rfl, gn⟩, hst⟩ := ri_gS_cons hqs
                  have hqs := hst
                  clear hst
                  obtain ⟨_, st, rfl, ⟨ud, rfl, gd⟩, hst⟩ := ri_gS_cons hqs
                  have hqs := hst
                  clear hst
                  obtain ⟨wb, st, rfl, gwb, hst⟩ := ri_gS_cons hqs
                  have hqs := hst
                  clear hst
                  obtain ⟨_, st, rfl, ⟨us, rfl, gs⟩, hst⟩ := ri_gS_cons hqs
                  have hqs := hst
                  clear hst
                  obtain ⟨wa, st, rfl, gwa, hst⟩ := ri_gS_cons hqs
                  obtain ⟨qa, e0, rfl, hea, ht7, hA0⟩ := ri_cell hH gwa hoa
                  obtain ⟨qb, e1, rfl, heb, -, hB0⟩ := ri_cell hH gwb hob
                  obtain ⟨f, rfl, hf⟩ := (ri_gA_i (by omega)).mp hA0
                  obtain ⟨g, rfl, hg⟩ := (ri_gA_i (by omega)).mp hB0
                  obtain ⟨n1, n2, n3, n4⟩ := ri_idx_ok hE hn gn
                  obtain ⟨d1, d2, d3, d4⟩ := ri_idx_ok hE hdp gd
                  obtain ⟨s1, s2, s3, s4⟩ := ri_idx_ok hE hsp gs
                  have hlen := ri_gS_len hst
                  have hst8 : (st0.length + 5) ≤ 8 := by simpa using hst8
                  have hcat := ri_cats st
                  have hnw : nativeFrameWords "java/lang/System" "arraycopy" 5 = 7 := by decide +kernel
                  refine va_copyi (ty := ri_ty t) hx hb (by rw [hml]; obtain ⟨lv, l1, -⟩ := hL; exact l1.1.symm) hown (hts _ hlink) (hts _ hnat) (hts _ hsta) (hts _ hini) hK hP hD hS a b t t hea heb (ri_tys_at κ (by omega)) (ri_tys_at κ (by omega)) (by rcases (show t = 0 ∨ t = 1 by omega) with rfl | rfl <;> rfl) s4 d4 n4 (by show _ ≤ ea.length; omega) (by show _ ≤ eb.length; omega) (fun i hi => ?_) hfr (by rw [hnw]; omega) hd (fun H1 locs1 hP1 hD1 hS1 => ?_)
                  · rcases (show t = 0 ∨ t = 1 by omega) with rfl | rfl
                    · rfl
                    · have hlt : us.toNatClampNeg + i < ea.length := by omega
                      have hfa := ri_allfit_ok hE c2 _ _ (List.getElem?_eq_getElem hlt)
                      have hga := hf _ _ (List.getElem?_eq_getElem hlt)
                      rcases hv : ea[us.toNatClampNeg + i] with z | z
                      · rw [hv] at hfa hga
                        obtain ⟨w, ew, gw⟩ := hga
                        rcases ri_fit1 hE hfa gw with g0 | g0
                        · rw [ew, g0]; decide +kernel
                        · rw [ew, g0]; decide +kernel
                      · rw [hv] at hfa
                        cases hfa
                  · have ead := ri_ad_set (e' := .inl (κ t, eb.length, .inl (va_cpy f g us.toNatClampNeg ud.toNatClampNeg un.toNatClampNeg))) heb
                    have := k _ (List.mem_singleton.mpr rfl) _ H1 locs1 ls st cells slots (by
                      show ri_gH τ κ (ri_set _ hp b) _
                      rw [ri_set_eq]
                      refine ri_gH_set hH heb (c' := .inr (t, qs)) ⟨ht7, ?_⟩
                      show ri_gA τ (ri_ad ws) κ t qs _
                      rw [ri_gA_i (by omega)]
                      refine ⟨_, by rw [q3], fun j a0 hj => ?_⟩
                      rw [q4 j] at hj
                      have es : us.toNatClampNeg = 0 := by omega
                      have ed : ud.toNatClampNeg = 0 := by omega
                      by_cases hjn : j < n
                      · rw [if_pos hjn] at hj
                        have := hf j a0 hj
                        simpa [va_cpy, es, ed, n2, hjn] using this
                      · rw [if_neg hjn] at hj
                        have := hg j a0 hj
                        simpa [va_cpy, es, ed, n2, hjn] using this) hP1 hD1 hS1 (by rw [ead]; exact hL) (by rw [ead]; exact hst) (by rw [ead]; exact had) hc hz
                    rw [hl] at this
                    exact this
end RI11
