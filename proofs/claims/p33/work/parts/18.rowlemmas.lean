/-! The tables' rows, one by one -/
def ri_P1 (P : Nat → ri_R → Prop) : Nat → List ri_R → Prop
  | _, [] => True
  | b, r :: t => P b r ∧ ri_P1 P (b + 1) t
def ri_P2 (P : Nat → ri_R → Prop) : Nat → List (List ri_R) → Prop
  | _, [] => True
  | b, w :: t => ri_P1 P b w ∧ ri_P2 P (b + 16) t
theorem ri_P1_at {P : Nat → ri_R → Prop} : ∀ {l : List ri_R} {b j : Nat} {r : ri_R}, ri_P1 P b l → l[j]? = some r → P (b + j) r
  | [], b, j, r, h, hj => by simp at hj
  | a :: t, b, 0, r, h, hj => by
    cases hj
    exact h.1
  | a :: t, b, j + 1, r, h, hj => by
    have := ri_P1_at h.2 (j := j) (by simpa using hj)
    rw [show b + (j + 1) = b + 1 + j by omega]
    exact this
theorem ri_P2_at {P : Nat → ri_R → Prop} : ∀ {l : List (List ri_R)} {b c j : Nat} {w : List ri_R} {r : ri_R}, ri_P2 P b l → l[c]? = some w → w[j]? = some r → P (b + 16 * c + j) r
  | [], b, c, j, w, r, h, hc, hj => by simp at hc
  | a :: t, b, 0, j, w, r, h, hc, hj => by
    cases hc
    exact ri_P1_at h.1 hj
  | a :: t, b, c + 1, j, w, r, h, hc, hj => by
    have := ri_P2_at h.2 (c := c) (by simpa using hc) hj
    rw [show b + 16 * (c + 1) + j = b + 16 + 16 * c + j by omega]
    exact this
abbrev ri_PR (mT : List ri_MT) (q : ri_MT) (pc : Nat) (r : ri_R) : Prop := r.1 = .nop ∨ ri_rowOK mT q.1 q.2.1 q.2.2.1 q.2.2.2 pc r
theorem ri_rows {mT : List ri_MT} {mt : List ri_M} {mi : Nat} {w : ri_M} {q : ri_MT} (hm : mt[mi]? = some w) (hr : ri_P2 (ri_PR mT q) 0 w.1) : ∀ (pc : Nat) (r : ri_R), ri_fetch mt mi pc = some r → ri_PR mT q pc r := by
  intro pc r h
  unfold ri_fetch at h
  rw [ri_nth_eq, hm] at h
  have h : (match ri_nth w.1 (Nat.div pc 16) with
    | some w => ri_nth w (Nat.mod pc 16)
    | none => none) = some r := h
  rw [ri_nth_eq] at h
  cases hc : w.1[Nat.div pc 16]? with
  | none => rw [hc] at h; cases h
  | some u =>
    rw [hc] at h
    have h : ri_nth u (Nat.mod pc 16) = some r := h
    rw [ri_nth_eq] at h
    have := ri_P2_at hr hc h
    rw [show 0 + 16 * Nat.div pc 16 + Nat.mod pc 16 = pc by
      show 0 + 16 * (pc / 16) + pc % 16 = pc
      omega] at this
    exact this
def ri_TK (mT : List ri_MT) (mt : List ri_M) (mi : Nat) (q : ri_MT) : Prop := Cond.code q.1 q.2.1 q.2.2.1 q.2.2.2 ∈ gU ∧ Cond.initialized q.1.cls ∈ gU ∧ plainName q.1.cls = true ∧ q.2.2.1 ≤ 60 ∧ (∃ w, mt[mi]? = some w ∧ w.2 = q.2.2.1) ∧ ∀ (pc : Nat) (r : ri_R), ri_fetch mt mi pc = some r → ri_PR mT q pc r
def ri_T1 (P : Nat → ri_MT → Prop) : Nat → List ri_MT → Prop
  | _, [] => True
  | b, r :: t => P b r ∧ ri_T1 P (b + 1) t
theorem ri_T1_at {P : Nat → ri_MT → Prop} : ∀ {l : List ri_MT} {b j : Nat} {r : ri_MT}, ri_T1 P b l → l[j]? = some r → P (b + j) r
  | [], b, j, r, h, hj => by simp at hj
  | a :: t, b, 0, r, h, hj => by
    cases hj
    exact h.1
  | a :: t, b, j + 1, r, h, hj => by
    have := ri_T1_at h.2 (j := j) (by simpa using hj)
    rw [show b + (j + 1) = b + 1 + j by omega]
    exact this
theorem ri_tab_of {mT : List ri_MT} {mt : List ri_M} (h : ri_T1 (ri_TK mT mt) 0 mT) : ri_tabOK mT mt := by
  intro mi y cc nL ret hm
  have := ri_T1_at h hm
  rw [Nat.zero_add] at this
  exact this
section RI18
variable {mT : List ri_MT} {y : MethodName} {nL pc a b j n : Nat} {ret : Option FieldType} {v : Int}
theorem ok_iload_n {k : Fin 4} (h : (k : Nat) = a) : ri_opOK mT y nL ret pc (.iload_n k, 1, a, b, v) := ⟨rfl, h⟩
theorem ok_aload_n {k : Fin 4} (h : (k : Nat) = a) : ri_opOK mT y nL ret pc (.aload_n k, 1, a, b, v) := ⟨rfl, h⟩
theorem ok_iload : ri_opOK mT y nL ret pc (.iload a, 2, a, b, v) := ⟨rfl, rfl⟩
theorem ok_aload : ri_opOK mT y nL ret pc (.aload a, 2, a, b, v) := ⟨rfl, rfl⟩
theorem ok_istore_n {k : Fin 4} (h : (k : Nat) = a) (h2 : a < nL) : ri_opOK mT y nL ret pc (.istore_n k, 1, a, b, v) := ⟨rfl, h, h2⟩
theorem ok_astore_n {k : Fin 4} (h : (k : Nat) = a) (h2 : a < nL) : ri_opOK mT y nL ret pc (.astore_n k, 1, a, b, v) := ⟨rfl, h, h2⟩
theorem ok_istore (h2 : a < nL) : ri_opOK mT y nL ret pc (.istore a, 2, a, b, v) := ⟨rfl, rfl, h2⟩
theorem ok_astore (h2 : a < nL) : ri_opOK mT y nL ret pc (.astore a, 2, a, b, v) := ⟨rfl, rfl, h2⟩
theorem ok_iconst {k : Int} (h : (Int32.ofInt k).toInt = v) : ri_opOK mT y nL ret pc (.iconst k, 1, a, b, v) := ⟨rfl, h⟩
theorem ok_bipush {k : Int} (h : ((Int8.ofInt k).toInt32).toInt = v) : ri_opOK mT y nL ret pc (.bipush k, 2, a, b, v) := ⟨rfl, h⟩
theorem ok_sipush {k : Int} (h : ((Int16.ofInt k).toInt32).toInt = v) : ri_opOK mT y nL ret pc (.sipush k, 3, a, b, v) := ⟨rfl, h⟩
theorem ok_ldc {w : Int32} (h : Cond.constant y.cls j w ∈ gU) (h2 : w.toInt = v) : ri_opOK mT y nL ret pc (.ldc j, 2, a, b, v) := ⟨rfl, w, h, h2⟩
theorem ok_ldc_w {w : Int32} (h : Cond.constant y.cls j w ∈ gU) (h2 : w.toInt = v) : ri_opOK mT y nL ret pc (.ldc_w j, 3, a, b, v) := ⟨rfl, w, h, h2⟩
theorem ok_iinc {k : Int} (h2 : a < nL) (h : (Int32.ofInt k).toInt = v) : ri_opOK mT y nL ret pc (.iinc a k, 3, a, b, v) := ⟨rfl, rfl, h2, h⟩
theorem ok_goto {o : Int} (h : (pc : Int) + o = (a : Int)) : ri_opOK mT y nL ret pc (.goto o, 3, a, b, v) := ⟨h, rfl⟩
theorem ok_ifCond {k : Jvm.ClassFile.Cond} {o : Int} (h : (pc : Int) + o = (a : Int)) : ri_opOK mT y nL ret pc (.ifCond k o, 3, a, b, v) := ⟨h, rfl⟩
theorem ok_if_icmp {k : Jvm.ClassFile.Cond} {o : Int} (h : (pc : Int) + o = (a : Int)) : ri_opOK mT y nL ret pc (.if_icmp k o, 3, a, b, v) := ⟨h, rfl⟩
theorem ok_tsw {d lo hi : Int} {offs : Array Int} {len : Nat} (h : 0 ≤ (pc : Int) + d) (h2 : ∀ o ∈ offs.toList, 0 ≤ (pc : Int) + o) : ri_opOK mT y nL ret pc (.tableswitch d lo hi offs, len, a, b, v) := ⟨h, h2⟩
theorem ok_getfield {C : String} {T : u_T} {N : Nat} (h1 : vwCl[a]? = some (C, T, N)) (h2 : b < N) (h3 : Cond.fieldLink y.cls j (T b).1 (T b).2.1 (T b).2.2.1 ∈ gU) : ri_opOK mT y nL ret pc (.getfield j, 3, a, b, v) := ⟨rfl, C, T, N, h1, h2, h3⟩
theorem ok_putfield {C : String} {T : u_T} {N : Nat} {ty : FieldType} (h1 : vwCl[a]? = some (C, T, N)) (h2 : b < N) (h3 : Cond.fieldLink y.cls j (T b).1 (T b).2.1 (T b).2.2.1 ∈ gU) (h4 : parseFieldDescriptor (T b).2.2.1 = some ty) (h5 : ri_fty v ty) (h6 : (T b).2.2.2 = false ∨ ((T b).2.2.2 = true ∧ y.name = "<init>" ∧ (T b).1 = y.cls)) : ri_opOK mT y nL ret pc (.putfield j, 3, a, b, v) := ⟨rfl, C, T, N, ty, h1, h2, h3, h4, h5, h6⟩
theorem ok_new {C : String} {T : u_T} {N : Nat} (h1 : vwCl[a]? = some (C, T, N)) (h2 : Cond.classLink y.cls j C ∈ gU) : ri_opOK mT y nL ret pc (.new j, 3, a, b, v) := ⟨rfl, C, T, N, h1, h2⟩
theorem ok_newarray {t : ArrayType} (h : a ≤ 3) (h2 : newarray.typeOf t = ri_ty a) : ri_opOK mT y nL ret pc (.newarray t, 2, a, b, v) := ⟨rfl, h, h2⟩
theorem ok_anewarray {C : String} (h : 4 ≤ a) (h2 : a ≤ 6) (h3 : ri_ty a = .object C) (h4 : Cond.classLink y.cls j C ∈ gU) : ri_opOK mT y nL ret pc (.anewarray j, 3, a, b, v) := ⟨rfl, h, h2, C, h3, h4⟩
theorem ok_multianewarray (h : Cond.classLink y.cls j "[[I" ∈ gU) : ri_opOK mT y nL ret pc (.multianewarray j 2, 4, a, b, v) := ⟨rfl, rfl, h⟩
theorem ok_ireturn : ri_opOK mT y nL (some .int) pc (.ireturn, 1, 0, b, v) := ⟨rfl, Or.inl ⟨rfl, rfl⟩⟩
theorem ok_zreturn : ri_opOK mT y nL (some .boolean) pc (.ireturn, 1, 1, b, v) := ⟨rfl, Or.inr ⟨rfl, rfl⟩⟩
theorem ok_return : ri_opOK mT y nL none pc (.return_, 1, a, b, v) := ⟨rfl, rfl⟩
theorem ok_virtual {yy : MethodName} {cc' : ByteArray} {nL' : Nat} {ret' : Option FieldType} {ci : Nat} {T : u_T} {N : Nat} (h1 : mT[b]? = some (yy, cc', nL', ret')) (h2 : vwCl[ci]? = some (yy.cls, T, N)) (h3 : Cond.methodLink y.cls j yy ∈ gU) (h4 : Cond.instanceMethod yy ∈ gU) (h5 : Cond.selects yy.cls yy yy ∈ gU) (h6 : ri_yOK yy n) (h7 : n + 1 ≤ nL') : ri_opOK mT y nL ret pc (.invokevirtual j, 3, ci + 4, b, ((n + 1 : Nat) : Int)) := ⟨rfl, yy, cc', nL', ret', ci, T, N, n, h1, rfl, h2, h3, h4, h5, h6, rfl, h7⟩
theorem ok_object (h : Cond.methodLink y.cls j objectInit ∈ gU) : ri_opOK mT y nL ret pc (.invokespecial j, 3, 1, b, v) := ⟨rfl, Or.inl ⟨rfl, h⟩⟩
theorem ok_init {yy : MethodName} {cc' : ByteArray} {nL' : Nat} (h1 : mT[b]? = some (yy, cc', nL', none)) (h2 : yy.name = "<init>") (h3 : Cond.methodLink y.cls j yy ∈ gU ∨ ∃ host, (y.cls, j, yy, host) ∈ ri_nests) (h4 : Cond.instanceMethod yy ∈ gU) (h6 : ri_yOK yy n) (h7 : n + 1 ≤ nL') : ri_opOK mT y nL ret pc (.invokespecial j, 3, 3, b, ((n + 1 : Nat) : Int)) := ⟨rfl, Or.inr ⟨rfl, yy, cc', nL', n, h1, h2, h3, h4, h6, rfl, h7⟩⟩
theorem ok_copy (h : Cond.methodLink y.cls j arraycopyName ∈ gU) : ri_opOK mT y nL ret pc (.invokestatic j, 3, 2, 0, v) := ⟨rfl, Or.inl ⟨rfl, Or.inl ⟨rfl, h⟩⟩⟩
theorem ok_max (h : Cond.methodLink y.cls j Lib.Math.max.name ∈ gU) : ri_opOK mT y nL ret pc (.invokestatic j, 3, 2, 1, v) := ⟨rfl, Or.inl ⟨rfl, Or.inr (Or.inl ⟨rfl, h⟩)⟩⟩
theorem ok_min (h : Cond.methodLink y.cls j Lib.Math.min.name ∈ gU) : ri_opOK mT y nL ret pc (.invokestatic j, 3, 2, 2, v) := ⟨rfl, Or.inl ⟨rfl, Or.inr (Or.inr (Or.inl ⟨rfl, h⟩))⟩⟩
theorem ok_abs (h : Cond.methodLink y.cls j Lib.Math.abs.name ∈ gU) : ri_opOK mT y nL ret pc (.invokestatic j, 3, 2, 3, v) := ⟨rfl, Or.inl ⟨rfl, Or.inr (Or.inr (Or.inr ⟨rfl, h⟩))⟩⟩
theorem ok_lload_n {k : Fin 4} (h : (k : Nat) = a) : ri_opOK mT y nL ret pc (.lload_n k, 1, a, b, v) := ⟨rfl, h⟩
theorem ok_lload : ri_opOK mT y nL ret pc (.lload a, 2, a, b, v) := ⟨rfl, rfl⟩
theorem ok_lstore_n {k : Fin 4} (h : (k : Nat) = a) (h2 : a + 1 < nL) : ri_opOK mT y nL ret pc (.lstore_n k, 1, a, b, v) := ⟨rfl, h, h2⟩
theorem ok_lstore (h2 : a + 1 < nL) : ri_opOK mT y nL ret pc (.lstore a, 2, a, b, v) := ⟨rfl, rfl, h2⟩
theorem ok_ldc2_w {w : Int64} (h : Cond.constantLong y.cls j w ∈ gU) (h2 : w.toInt = v) : ri_opOK mT y nL ret pc (.ldc2_w j, 3, a, b, v) := ⟨rfl, w, h, h2⟩
theorem ok_lreturn : ri_opOK mT y nL (some .long) pc (.lreturn, 1, a, b, v) := ⟨rfl, rfl⟩
theorem ok_lsw {d : Int} {ps : Array (Int × Int)} {len : Nat} (h0 : (ps.toList.zip (ps.toList.drop 1)).all (fun (a, next) => a.1 < next.1) = true) (h : 0 ≤ (pc : Int) + d) (h2 : ∀ o ∈ ps.toList, 0 ≤ (pc : Int) + o.2) : ri_opOK mT y nL ret pc (.lookupswitch d ps, len, a, b, v) := ⟨h0, h, h2⟩
theorem ok_static {yy : MethodName} {cc' : ByteArray} {nL' : Nat} {ret' : Option FieldType} (h1 : mT[b]? = some (yy, cc', nL', ret')) (h3 : Cond.methodLink y.cls j yy ∈ gU) (h4 : Cond.static yy ∈ gU) (h6 : ri_yOK yy n) (h7 : n ≤ nL') : ri_opOK mT y nL ret pc (.invokestatic j, 3, 0, b, (n : Int)) := ⟨rfl, Or.inr ⟨rfl, yy, cc', nL', ret', n, h1, h3, h4, h6, rfl, h7⟩⟩
end RI18
theorem ri_sel {q : MethodName × Nat} (h : q ∈ lw_privs) : Cond.selects q.1.cls q.1 q.1 ∈ lw_tbl := List.mem_append_left _ (List.mem_map.mpr ⟨q, h, rfl⟩)
