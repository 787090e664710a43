/-! The machine over lists: what each instruction does to locals, stack and cells -/
/-- place, locals, stack, cells -/
abbrev rc_C : Type := Nat × List (Option Value) × List Value × va_W
/-- locals; from place 20 on there are ghosts, which the machine does not have -/
def rc_L (A : List (Option Value)) (nL : Nat) (ls : Array Slot) : Prop := ∃ l : List (Nat × Value), lv_has ls nL l ∧ ∀ (i : Nat) (v : Value), i < 20 → A[i]? = some (some v) → (i, v) ∈ l
theorem rc_L_get {A : List (Option Value)} {nL : Nat} {ls : Array Slot} (h : rc_L A nL ls) {i : Nat} {v : Value} (hi : i < 20) (ha : A[i]? = some (some v)) : ls[i]? = some (.val v) := by
  obtain ⟨l, h1, h2⟩ := h
  exact h1.2.2 _ (h2 i v hi ha)
/-- locals behind a store -/
def rc_sto (A A' : List (Option Value)) (k : Nat) (v : Value) : Prop := ∀ (i : Nat) (w : Value), A'[i]? = some (some w) → (i = k ∧ w = v) ∨ (i ≠ k ∧ A[i]? = some (some w) ∧ ¬ (i + 1 = k ∧ w.category = 2) ∧ ¬ (v.category = 2 ∧ i = k + 1))
theorem rc_L_sto {A A' : List (Option Value)} {nL k : Nat} {v : Value} {l : List (Nat × Value)} {ls' : Array Slot} (h2 : ∀ (i : Nat) (v : Value), i < 20 → A[i]? = some (some v) → (i, v) ∈ l) (hs : rc_sto A A' k v) (h : lv_has ls' nL ((k, v) :: l.filter (fun q => !(q.1 == k) && !(q.1 + 1 == k && q.2.category == 2)))) : rc_L A' nL ls' := by
  refine ⟨_, h, fun i w hi hw => ?_⟩
  rcases hs i w hw with ⟨rfl, rfl⟩ | ⟨e, ha, hc, -⟩
  · exact List.mem_cons_self
  · refine List.mem_cons_of_mem _ (List.mem_filter.mpr ⟨h2 i w hi ha, ?_⟩)
    simp [e]
    by_cases e2 : i + 1 = k
    · exact Or.inr (fun e3 => hc ⟨e2, e3⟩)
    · exact Or.inl e2
theorem rc_L_stoL {A A' : List (Option Value)} {nL k : Nat} {x : Int64} {l : List (Nat × Value)} {ls' : Array Slot} (h2 : ∀ (i : Nat) (v : Value), i < 20 → A[i]? = some (some v) → (i, v) ∈ l) (hs : rc_sto A A' k (.long x)) (h : lv_has ls' nL ((k, .long x) :: l.filter (fun q => !(q.1 == k) && (!(q.1 == k + 1) && !(q.1 + 1 == k && q.2.category == 2))))) : rc_L A' nL ls' := by
  refine ⟨_, h, fun i w hi hw => ?_⟩
  rcases hs i w hw with ⟨rfl, rfl⟩ | ⟨e, ha, hc, hd⟩
  · exact List.mem_cons_self
  · refine List.mem_cons_of_mem _ (List.mem_filter.mpr ⟨h2 i w hi ha, ?_⟩)
    have e2 : ¬ i = k + 1 := fun q => hd ⟨rfl, q⟩
    simp [e, e2]
    by_cases e3 : i + 1 = k
    · exact Or.inr (fun e4 => hc ⟨e3, e4⟩)
    · exact Or.inl e3
def rc_At (p : Program) (l : Launch) (e : Env) (R : Room) (s : State) (m : MethodId) (args : Array Value) (below : List Frame) (meth : Method) (c : Code) (nL : Nat) (D : va_G) (A : Nat → Prop) (H0 : Heap) (Q : State → Prop) (a : rc_C) : Prop :=
  ∀ (H : Heap) (locs : List Loc) (ls : Array Slot), va_P D vwCl a.2.2.2 H → va_D A a.2.2.2 → va_S A H0 H locs → rc_L a.2.1 nL ls → W p l e R s m args below meth c H locs 0 0 Q (F0 m a.1 ls a.2.2.1)
/-- the next place, with this stack -/
abbrev rc_nx (r : ri_R) (a : rc_C) (st : List Value) : rc_C := (a.1 + r.2.1, a.2.1, st, a.2.2.2)
def rc_iload (r : ri_R) (a : rc_C) (K : rc_C → Prop) : Prop := r.2.2.1 < 20 ∧ ∃ x : Int32, a.2.1[r.2.2.1]? = some (some (.int x)) ∧ K (rc_nx r a (.int x :: a.2.2.1))
def rc_aload (r : ri_R) (a : rc_C) (K : rc_C → Prop) : Prop := r.2.2.1 < 20 ∧ ∃ q : Nat, a.2.1[r.2.2.1]? = some (some (.ref q)) ∧ K (rc_nx r a (.ref q :: a.2.2.1))
def rc_lload (r : ri_R) (a : rc_C) (K : rc_C → Prop) : Prop := r.2.2.1 < 20 ∧ ∃ x : Int64, a.2.1[r.2.2.1]? = some (some (.long x)) ∧ K (rc_nx r a (.long x :: a.2.2.1))
def rc_istore (r : ri_R) (a : rc_C) (K : rc_C → Prop) : Prop := ∃ (x : Int32) (st : List Value) (A' : List (Option Value)), a.2.2.1 = .int x :: st ∧ rc_sto a.2.1 A' r.2.2.1 (.int x) ∧ K (a.1 + r.2.1, A', st, a.2.2.2)
def rc_astore (r : ri_R) (a : rc_C) (K : rc_C → Prop) : Prop := ∃ (q : Nat) (st : List Value) (A' : List (Option Value)), a.2.2.1 = .ref q :: st ∧ rc_sto a.2.1 A' r.2.2.1 (.ref q) ∧ K (a.1 + r.2.1, A', st, a.2.2.2)
def rc_lstore (r : ri_R) (a : rc_C) (K : rc_C → Prop) : Prop := ∃ (x : Int64) (st : List Value) (A' : List (Option Value)), a.2.2.1 = .long x :: st ∧ rc_sto a.2.1 A' r.2.2.1 (.long x) ∧ K (a.1 + r.2.1, A', st, a.2.2.2)
def rc_push (r : ri_R) (a : rc_C) (K : rc_C → Prop) : Prop := ∃ z : Int32, z.toInt = r.2.2.2.2 ∧ K (rc_nx r a (.int z :: a.2.2.1))
def rc_bin (f : Int32 → Int32 → Int32) (r : ri_R) (a : rc_C) (K : rc_C → Prop) : Prop := ∃ (u v : Int32) (st : List Value), a.2.2.1 = .int v :: .int u :: st ∧ K (rc_nx r a (.int (f u v) :: st))
def rc_bin0 (f : Int32 → Int32 → Int32) (r : ri_R) (a : rc_C) (K : rc_C → Prop) : Prop := ∃ (u v : Int32) (st : List Value), a.2.2.1 = .int v :: .int u :: st ∧ ¬ v = 0 ∧ K (rc_nx r a (.int (f u v) :: st))
def rc_un (f : Int32 → Int32) (r : ri_R) (a : rc_C) (K : rc_C → Prop) : Prop := ∃ (u : Int32) (st : List Value), a.2.2.1 = .int u :: st ∧ K (rc_nx r a (.int (f u) :: st))
def rc_lbin (f : Int64 → Int64 → Int64) (r : ri_R) (a : rc_C) (K : rc_C → Prop) : Prop := ∃ (u v : Int64) (st : List Value), a.2.2.1 = .long v :: .long u :: st ∧ K (rc_nx r a (.long (f u v) :: st))
def rc_br (cnd : Jvm.ClassFile.Cond) (r : ri_R) (a : rc_C) (K : rc_C → Prop) (u v : Int32) (st : List Value) : Prop := (ri_hold cnd u.toInt v.toInt ∧ K (r.2.2.1, a.2.1, st, a.2.2.2)) ∨ (¬ ri_hold cnd u.toInt v.toInt ∧ K (rc_nx r a st))
/-- what may be stored in a field of that kind -/
def rc_fit (k : Int) (v : Value) : Prop := (k = 0 ∧ ∃ z : Int32, v = .int z) ∨ (k = 1 ∧ (v = .int 0 ∨ v = .int 1)) ∨ (k = 2 ∧ ∃ q : Nat, v = .ref q) ∨ (k = 4 ∧ ∃ z : Int64, v = .long z)
def rc_getf (r : ri_R) (a : rc_C) (K : rc_C → Prop) : Prop := ∃ (q k : Nat) (vs : List Value) (v : Value) (st : List Value), a.2.2.1 = .ref q :: st ∧ a.2.2.2[k]? = some (q, .inr (r.2.2.1, vs)) ∧ vs[r.2.2.2.1]? = some v ∧ K (rc_nx r a (v :: st))
def rc_putf (r : ri_R) (a : rc_C) (K : rc_C → Prop) : Prop := ∃ (q k : Nat) (vs : List Value) (v : Value) (st : List Value), a.2.2.1 = v :: .ref q :: st ∧ a.2.2.2[k]? = some (q, .inr (r.2.2.1, vs)) ∧ r.2.2.2.1 < vs.length ∧ rc_fit r.2.2.2.2 v ∧ K (a.1 + r.2.1, a.2.1, st, a.2.2.2.set k (q, .inr (r.2.2.1, vs.set r.2.2.2.1 v)))
/-- an element of an int-like array of the type t -/
def rc_ald (κ : Nat → ClassId) (t : Nat) (r : ri_R) (a : rc_C) (K : rc_C → Prop) : Prop := ∃ (q k n : Nat) (f : Nat → Int32) (u : Int32) (st : List Value), a.2.2.1 = .int u :: .ref q :: st ∧ a.2.2.2[k]? = some (q, .inl (κ t, n, .inl f)) ∧ vp_in u n ∧ K (rc_nx r a (.int (f u.toNatClampNeg) :: st))
def rc_lald (κ : Nat → ClassId) (r : ri_R) (a : rc_C) (K : rc_C → Prop) : Prop := ∃ (q k n : Nat) (f : Nat → Int64) (u : Int32) (st : List Value), a.2.2.1 = .int u :: .ref q :: st ∧ a.2.2.2[k]? = some (q, .inl (κ 3, n, .inr (.inl f))) ∧ vp_in u n ∧ K (rc_nx r a (.long (f u.toNatClampNeg) :: st))
def rc_aald (κ : Nat → ClassId) (r : ri_R) (a : rc_C) (K : rc_C → Prop) : Prop := ∃ (q k n t : Nat) (f : Nat → Option Nat) (u : Int32) (st : List Value), a.2.2.1 = .int u :: .ref q :: st ∧ 4 ≤ t ∧ t ≤ 7 ∧ a.2.2.2[k]? = some (q, .inl (κ t, n, .inr (.inr (.inr (.inr f))))) ∧ vp_in u n ∧ K (rc_nx r a (va_rf (f u.toNatClampNeg) :: st))
def rc_ast (κ : Nat → ClassId) (t : Nat) (r : ri_R) (a : rc_C) (K : rc_C → Prop) : Prop := ∃ (q k n : Nat) (f : Nat → Int32) (u z : Int32) (st : List Value), a.2.2.1 = .int z :: .int u :: .ref q :: st ∧ a.2.2.2[k]? = some (q, .inl (κ t, n, .inl f)) ∧ vp_in u n ∧ vp_nar (ri_ty t) z = z ∧ K (a.1 + r.2.1, a.2.1, st, a.2.2.2.set k (q, .inl (κ t, n, .inl (upd f u.toNatClampNeg z))))
def rc_last (κ : Nat → ClassId) (r : ri_R) (a : rc_C) (K : rc_C → Prop) : Prop := ∃ (q k n : Nat) (f : Nat → Int64) (u : Int32) (z : Int64) (st : List Value), a.2.2.1 = .long z :: .int u :: .ref q :: st ∧ a.2.2.2[k]? = some (q, .inl (κ 3, n, .inr (.inl f))) ∧ vp_in u n ∧ K (a.1 + r.2.1, a.2.1, st, a.2.2.2.set k (q, .inl (κ 3, n, .inr (.inl (vp_updL f u.toNatClampNeg z)))))
def rc_alen (κ : Nat → ClassId) (r : ri_R) (a : rc_C) (K : rc_C → Prop) : Prop := ∃ (q k t : Nat) (x : vp_A) (st : List Value), a.2.2.1 = .ref q :: st ∧ t ≤ 7 ∧ a.2.2.2[k]? = some (q, .inl (κ t, x)) ∧ K (rc_nx r a (.int (Int32.ofNat x.1) :: st))
def rc_acp (κ : Nat → ClassId) (r : ri_R) (a : rc_C) (K : rc_C → Prop) : Prop := ∃ (q0 q1 k0 k1 n0 n1 t : Nat) (f g : Nat → Int32) (sp dp n : Int32) (st : List Value), a.2.2.1 = .int n :: .int dp :: .ref q1 :: .int sp :: .ref q0 :: st ∧ st.length ≤ 8 ∧ t ≤ 1 ∧ a.2.2.2[k0]? = some (q0, .inl (κ t, n0, .inl f)) ∧ a.2.2.2[k1]? = some (q1, .inl (κ t, n1, .inl g)) ∧ ¬ sp < 0 ∧ ¬ dp < 0 ∧ ¬ n < 0 ∧ sp.toNatClampNeg + n.toNatClampNeg ≤ n0 ∧ dp.toNatClampNeg + n.toNatClampNeg ≤ n1 ∧ (∀ i, i < n.toNatClampNeg → fits (ri_ty t) (.int (f (sp.toNatClampNeg + i))) = true) ∧ K (a.1 + r.2.1, a.2.1, st, a.2.2.2.set k1 (q1, .inl (κ t, n1, .inl (va_cpy f g sp.toNatClampNeg dp.toNatClampNeg n.toNatClampNeg))))
def rc_mm (f : Int32 → Int32 → Int32) (r : ri_R) (a : rc_C) (K : rc_C → Prop) : Prop := ∃ (u v : Int32) (st : List Value), a.2.2.1 = .int v :: .int u :: st ∧ st.length ≤ 8 ∧ K (rc_nx r a (.int (f u v) :: st))
def rc_ab (r : ri_R) (a : rc_C) (K : rc_C → Prop) : Prop := ∃ (u : Int32) (st : List Value), a.2.2.1 = .int u :: st ∧ st.length ≤ 8 ∧ K (rc_nx r a (.int (if 0 ≤ u then u else 0 - u) :: st))
def rc_wp (κ : Nat → ClassId) (r : ri_R) (a : rc_C) (K : rc_C → Prop) : Prop := match r.1 with
  | .iload_n _ => rc_iload r a K
  | .iload _ => rc_iload r a K
  | .aload_n _ => rc_aload r a K
  | .aload _ => rc_aload r a K
  | .lload_n _ => rc_lload r a K
  | .lload _ => rc_lload r a K
  | .istore_n _ => rc_istore r a K
  | .istore _ => rc_istore r a K
  | .astore_n _ => rc_astore r a K
  | .astore _ => rc_astore r a K
  | .lstore_n _ => rc_lstore r a K
  | .lstore _ => rc_lstore r a K
  | .iconst _ => rc_push r a K
  | .bipush _ => rc_push r a K
  | .sipush _ => rc_push r a K
  | .ldc _ => rc_push r a K
  | .ldc_w _ => rc_push r a K
  | .lconst n => K (rc_nx r a (.long (Int64.ofNat (n : Nat)) :: a.2.2.1))
  | .iadd => rc_bin (fun u v => u + v) r a K
  | .isub => rc_bin (fun u v => u - v) r a K
  | .imul => rc_bin (fun u v => u * v) r a K
  | .idiv => rc_bin0 (fun u v => u / v) r a K
  | .irem => rc_bin0 (fun u v => u - u / v * v) r a K
  | .iand => rc_bin (fun u v => u &&& v) r a K
  | .ior => rc_bin (fun u v => u ||| v) r a K
  | .ishl => rc_bin (fun u v => u <<< (v &&& 31)) r a K
  | .ishr => rc_bin (fun u v => u >>> (v &&& 31)) r a K
  | .iushr => rc_bin (fun u v => (u.toUInt32 >>> (v.toUInt32 &&& Int32.toUInt32 31)).toInt32) r a K
  | .ineg => rc_un (fun u => -u) r a K
  | .i2b => rc_un (fun u => u.toInt8.toInt32) r a K
  | .i2c => rc_un (fun u => (u.toUInt32 % 65536).toInt32) r a K
  | .i2l => ∃ (u : Int32) (st : List Value), a.2.2.1 = .int u :: st ∧ K (rc_nx r a (.long u.toInt64 :: st))
  | .ladd => rc_lbin (fun u v => u + v) r a K
  | .lmul => rc_lbin (fun u v => u * v) r a K
  | .lor => rc_lbin (fun u v => u ||| v) r a K
  | .lshl => ∃ (u : Int64) (v : Int32) (st : List Value), a.2.2.1 = .int v :: .long u :: st ∧ K (rc_nx r a (.long (u <<< (v.toInt64 &&& 63)) :: st))
  | .lcmp => ∃ (u v : Int64) (st : List Value), a.2.2.1 = .long v :: .long u :: st ∧ K (rc_nx r a (.int (lg_cmp u v) :: st))
  | .dup => ∃ (v : Value) (st : List Value), a.2.2.1 = v :: st ∧ v.category = 1 ∧ K (rc_nx r a (v :: v :: st))
  | .dup_x1 => ∃ (v w : Value) (st : List Value), a.2.2.1 = v :: w :: st ∧ v.category = 1 ∧ w.category = 1 ∧ K (rc_nx r a (v :: w :: v :: st))
  | .dup2 => ∃ (v w : Value) (st : List Value), a.2.2.1 = v :: w :: st ∧ v.category = 1 ∧ w.category = 1 ∧ K (rc_nx r a (v :: w :: v :: w :: st))
  | .pop => ∃ (v : Value) (st : List Value), a.2.2.1 = v :: st ∧ v.category = 1 ∧ K (rc_nx r a st)
  | .iinc _ n => r.2.2.1 < 20 ∧ ∃ (x : Int32) (A' : List (Option Value)), a.2.1[r.2.2.1]? = some (some (.int x)) ∧ rc_sto a.2.1 A' r.2.2.1 (.int (x + Int32.ofInt n)) ∧ K (a.1 + r.2.1, A', a.2.2.1, a.2.2.2)
  | .goto _ => K (r.2.2.1, a.2.1, a.2.2.1, a.2.2.2)
  | .ifCond cnd _ => ∃ (u : Int32) (st : List Value), a.2.2.1 = .int u :: st ∧ rc_br cnd r a K u 0 st
  | .if_icmp cnd _ => ∃ (u v : Int32) (st : List Value), a.2.2.1 = .int v :: .int u :: st ∧ rc_br cnd r a K u v st
  | .tableswitch d lo hi offs => ∃ (u : Int32) (st : List Value), a.2.2.1 = .int u :: st ∧ (((u.toInt < lo ∨ hi < u.toInt) ∧ K (Int.toNat ((a.1 : Int) + d), a.2.1, st, a.2.2.2)) ∨ (¬ u.toInt < lo ∧ ¬ hi < u.toInt ∧ ∃ o, offs[(u.toInt - lo).toNat]? = some o ∧ K (Int.toNat ((a.1 : Int) + o), a.2.1, st, a.2.2.2)))
  | .lookupswitch d ps => ∃ (u : Int32) (st : List Value), a.2.2.1 = .int u :: st ∧ K (Int.toNat ((a.1 : Int) + Op.lookupswitch.offset ps.toList d u.toInt), a.2.1, st, a.2.2.2)
  | .getfield _ => rc_getf r a K
  | .putfield _ => rc_putf r a K
  | .iaload => rc_ald κ 0 r a K
  | .baload => rc_ald κ 1 r a K ∨ rc_ald κ 2 r a K
  | .laload => rc_lald κ r a K
  | .aaload => rc_aald κ r a K
  | .iastore => rc_ast κ 0 r a K
  | .bastore => rc_ast κ 1 r a K ∨ rc_ast κ 2 r a K
  | .lastore => rc_last κ r a K
  | .arraylength => rc_alen κ r a K
  | .invokestatic _ => r.2.2.1 = 2 ∧ ((r.2.2.2.1 = 0 ∧ rc_acp κ r a K) ∨ (r.2.2.2.1 = 1 ∧ rc_mm (fun u v => if u < v then v else u) r a K) ∨ (r.2.2.2.1 = 2 ∧ rc_mm (fun u v => if v < u then v else u) r a K) ∨ (r.2.2.2.1 = 3 ∧ rc_ab r a K))
  | .ldc2_w _ => ∀ z : Int64, z.toInt = r.2.2.2.2 → K (rc_nx r a (.long z :: a.2.2.1))
  | _ => False
section RC
variable {p : Program} {l : Launch} {e : Env} {R : Room} {s : State} {m : MethodId} {args : Array Value} {below : List Frame} {meth : Method} {c : Code} {cc : ByteArray} {nL : Nat} {κ : Nat → ClassId} {D : va_G} {A : Nat → Prop} {H0 : Heap} {Q : State → Prop} {own : String} {r : ri_R} {a : rc_C} {K : rc_C → Prop} {mT : List ri_MT} {y : MethodName} {ret : Option FieldType}
theorem rc_fit_ok {v : Int} {val : Value} (h : rc_fit v val) {ty : FieldType} (ht : ri_fty v ty) : narrow ty val = val ∧ fits ty val = true := by
  rcases h with ⟨rfl, z, rfl⟩ | ⟨rfl, h⟩ | ⟨rfl, q, rfl⟩ | ⟨rfl, z, rfl⟩
  · rcases ht with ⟨-, rfl⟩ | ⟨h, -⟩ | ⟨h, -⟩ | ⟨h, -⟩
    · exact ⟨rfl, rfl⟩
    · cases h
    · cases h
    · cases h
  · rcases ht with ⟨h0, -⟩ | ⟨-, rfl⟩ | ⟨h0, -⟩ | ⟨h0, -⟩
    · cases h0
    · rcases h with rfl | rfl
      · exact ⟨by decide +kernel, by decide +kernel⟩
      · exact ⟨by decide +kernel, by decide +kernel⟩
    · cases h0
    · cases h0
  · rcases ht with ⟨h, -⟩ | ⟨h, -⟩ | ⟨-, ht⟩ | ⟨h, -⟩
    · cases h
    · cases h
    · rcases ht with ⟨C, rfl⟩ | ⟨t, rfl⟩
      · exact ⟨rfl, rfl⟩
      · exact ⟨rfl, rfl⟩
    · cases h
  · rcases ht with ⟨h, -⟩ | ⟨h, -⟩ | ⟨h, -⟩ | ⟨-, rfl⟩
    · cases h
    · cases h
    · cases h
    · exact ⟨rfl, rfl⟩
theorem rc_bin_s {f : Int32 → Int32 → Int32} (hi : ∀ {H : Heap} {locs : List Loc} {ls : Array Slot} {rest : List Value} {u v : Int32}, W p l e R s m args below meth c H locs 0 0 Q (F0 m (a.1 + r.2.1) ls (.int (f u v) :: rest)) → W p l e R s m args below meth c H locs 0 0 Q (F0 m a.1 ls (.int v :: .int u :: rest))) (h : rc_bin f r a K) (k : ∀ b, K b → rc_At p l e R s m args below meth c nL D A H0 Q b) : rc_At p l e R s m args below meth c nL D A H0 Q a := by
  obtain ⟨u, v, st, e1, h⟩ := h
  intro H locs ls hP hD hS hL
  rw [e1]
  exact hi (k _ h H locs ls hP hD hS hL)
theorem rc_bin0_s {f : Int32 → Int32 → Int32} (hi : ∀ {H : Heap} {locs : List Loc} {ls : Array Slot} {rest : List Value} {u v : Int32}, ¬ v = 0 → W p l e R s m args below meth c H locs 0 0 Q (F0 m (a.1 + r.2.1) ls (.int (f u v) :: rest)) → W p l e R s m args below meth c H locs 0 0 Q (F0 m a.1 ls (.int v :: .int u :: rest))) (h : rc_bin0 f r a K) (k : ∀ b, K b → rc_At p l e R s m args below meth c nL D A H0 Q b) : rc_At p l e R s m args below meth c nL D A H0 Q a := by
  obtain ⟨u, v, st, e1, e2, h⟩ := h
  intro H locs ls hP hD hS hL
  rw [e1]
  exact hi e2 (k _ h H locs ls hP hD hS hL)
theorem rc_un_s {f : Int32 → Int32} (hi : ∀ {H : Heap} {locs : List Loc} {ls : Array Slot} {rest : List Value} {u : Int32}, W p l e R s m args below meth c H locs 0 0 Q (F0 m (a.1 + r.2.1) ls (.int (f u) :: rest)) → W p l e R s m args below meth c H locs 0 0 Q (F0 m a.1 ls (.int u :: rest))) (h : rc_un f r a K) (k : ∀ b, K b → rc_At p l e R s m args below meth c nL D A H0 Q b) : rc_At p l e R s m args below meth c nL D A H0 Q a := by
  obtain ⟨u, st, e1, h⟩ := h
  intro H locs ls hP hD hS hL
  rw [e1]
  exact hi (k _ h H locs ls hP hD hS hL)
theorem rc_lbin_s {f : Int64 → Int64 → Int64} (hi : ∀ {H : Heap} {locs : List Loc} {ls : Array Slot} {rest : List Value} {u v : Int64}, W p l e R s m args below meth c H locs 0 0 Q (F0 m (a.1 + r.2.1) ls (.long (f u v) :: rest)) → W p l e R s m args below meth c H locs 0 0 Q (F0 m a.1 ls (.long v :: .long u :: rest))) (h : rc_lbin f r a K) (k : ∀ b, K b → rc_At p l e R s m args below meth c nL D A H0 Q b) : rc_At p l e R s m args below meth c nL D A H0 Q a := by
  obtain ⟨u, v, st, e1, h⟩ := h
  intro H locs ls hP hD hS hL
  rw [e1]
  exact hi (k _ h H locs ls hP hD hS hL)
theorem rc_push_s {z : Int32} (hz : z.toInt = r.2.2.2.2) (hi : ∀ {H : Heap} {locs : List Loc} {ls : Array Slot} {rest : List Value}, W p l e R s m args below meth c H locs 0 0 Q (F0 m (a.1 + r.2.1) ls (.int z :: rest)) → W p l e R s m args below meth c H locs 0 0 Q (F0 m a.1 ls rest)) (h : rc_push r a K) (k : ∀ b, K b → rc_At p l e R s m args below meth c nL D A H0 Q b) : rc_At p l e R s m args below meth c nL D A H0 Q a := by
  obtain ⟨z', e1, h⟩ := h
  have : z' = z := Int32.toInt_inj.mp (by omega)
  subst this
  intro H locs ls hP hD hS hL
  exact hi (k _ h H locs ls hP hD hS hL)
theorem rc_iload_s (hi : ∀ {H : Heap} {locs : List Loc} {ls : Array Slot} {rest : List Value} {x : Int32}, ls[r.2.2.1]? = some (.val (.int x)) → W p l e R s m args below meth c H locs 0 0 Q (F0 m (a.1 + r.2.1) ls (.int x :: rest)) → W p l e R s m args below meth c H locs 0 0 Q (F0 m a.1 ls rest)) (h : rc_iload r a K) (k : ∀ b, K b → rc_At p l e R s m args below meth c nL D A H0 Q b) : rc_At p l e R s m args below meth c nL D A H0 Q a := by
  obtain ⟨h20, x, e1, h⟩ := h
  intro H locs ls hP hD hS hL
  exact hi (rc_L_get hL h20 e1) (k _ h H locs ls hP hD hS hL)
theorem rc_aload_s (hi : ∀ {H : Heap} {locs : List Loc} {ls : Array Slot} {rest : List Value} {x : Nat}, ls[r.2.2.1]? = some (.val (.ref x)) → W p l e R s m args below meth c H locs 0 0 Q (F0 m (a.1 + r.2.1) ls (.ref x :: rest)) → W p l e R s m args below meth c H locs 0 0 Q (F0 m a.1 ls rest)) (h : rc_aload r a K) (k : ∀ b, K b → rc_At p l e R s m args below meth c nL D A H0 Q b) : rc_At p l e R s m args below meth c nL D A H0 Q a := by
  obtain ⟨h20, x, e1, h⟩ := h
  intro H locs ls hP hD hS hL
  exact hi (rc_L_get hL h20 e1) (k _ h H locs ls hP hD hS hL)
theorem rc_lload_s (hi : ∀ {H : Heap} {locs : List Loc} {ls : Array Slot} {rest : List Value} {x : Int64}, ls[r.2.2.1]? = some (.val (.long x)) → W p l e R s m args below meth c H locs 0 0 Q (F0 m (a.1 + r.2.1) ls (.long x :: rest)) → W p l e R s m args below meth c H locs 0 0 Q (F0 m a.1 ls rest)) (h : rc_lload r a K) (k : ∀ b, K b → rc_At p l e R s m args below meth c nL D A H0 Q b) : rc_At p l e R s m args below meth c nL D A H0 Q a := by
  obtain ⟨h20, x, e1, h⟩ := h
  intro H locs ls hP hD hS hL
  exact hi (rc_L_get hL h20 e1) (k _ h H locs ls hP hD hS hL)
theorem rc_istore_s (hi : ∀ {H : Heap} {locs : List Loc} {ls : Array Slot} {rest : List Value} {x : Int32} {lv lv' : List (Nat × Value)}, lv_has ls nL lv → (r.2.2.1, Value.int x) :: lv.filter (fun q => !(q.1 == r.2.2.1) && !(q.1 + 1 == r.2.2.1 && q.2.category == 2)) = lv' → (∀ ls' : Array Slot, lv_has ls' nL lv' → W p l e R s m args below meth c H locs 0 0 Q (F0 m (a.1 + r.2.1) ls' rest)) → W p l e R s m args below meth c H locs 0 0 Q (F0 m a.1 ls (.int x :: rest))) (h : rc_istore r a K) (k : ∀ b, K b → rc_At p l e R s m args below meth c nL D A H0 Q b) : rc_At p l e R s m args below meth c nL D A H0 Q a := by
  obtain ⟨x, st, A', e1, e2, h⟩ := h
  intro H locs ls hP hD hS hL
  rw [e1]
  obtain ⟨lv, l1, l2⟩ := hL
  exact hi l1 rfl (fun ls' hl' => k _ h H locs ls' hP hD hS (rc_L_sto l2 e2 hl'))
theorem rc_astore_s (hi : ∀ {H : Heap} {locs : List Loc} {ls : Array Slot} {rest : List Value} {x : Nat} {lv lv' : List (Nat × Value)}, lv_has ls nL lv → (r.2.2.1, Value.ref x) :: lv.filter (fun q => !(q.1 == r.2.2.1) && !(q.1 + 1 == r.2.2.1 && q.2.category == 2)) = lv' → (∀ ls' : Array Slot, lv_has ls' nL lv' → W p l e R s m args below meth c H locs 0 0 Q (F0 m (a.1 + r.2.1) ls' rest)) → W p l e R s m args below meth c H locs 0 0 Q (F0 m a.1 ls (.ref x :: rest))) (h : rc_astore r a K) (k : ∀ b, K b → rc_At p l e R s m args below meth c nL D A H0 Q b) : rc_At p l e R s m args below meth c nL D A H0 Q a := by
  obtain ⟨x, st, A', e1, e2, h⟩ := h
  intro H locs ls hP hD hS hL
  rw [e1]
  obtain ⟨lv, l1, l2⟩ := hL
  exact hi l1 rfl (fun ls' hl' => k _ h H locs ls' hP hD hS (rc_L_sto l2 e2 hl'))
theorem rc_lstore_s (hi : ∀ {H : Heap} {locs : List Loc} {ls : Array Slot} {rest : List Value} {x : Int64} {lv lv' : List (Nat × Value)}, lv_has ls nL lv → (r.2.2.1, Value.long x) :: lv.filter (fun q => !(q.1 == r.2.2.1) && (!(q.1 == r.2.2.1 + 1) && !(q.1 + 1 == r.2.2.1 && q.2.category == 2))) = lv' → (∀ ls' : Array Slot, lv_has ls' nL lv' → W p l e R s m args below meth c H locs 0 0 Q (F0 m (a.1 + r.2.1) ls' rest)) → W p l e R s m args below meth c H locs 0 0 Q (F0 m a.1 ls (.long x :: rest))) (h : rc_lstore r a K) (k : ∀ b, K b → rc_At p l e R s m args below meth c nL D A H0 Q b) : rc_At p l e R s m args below meth c nL D A H0 Q a := by
  obtain ⟨x, st, A', e1, e2, h⟩ := h
  intro H locs ls hP hD hS hL
  rw [e1]
  obtain ⟨lv, l1, l2⟩ := hL
  exact hi l1 rfl (fun ls' hl' => k _ h H locs ls' hP hD hS (rc_L_stoL l2 e2 hl'))
theorem rc_ald_s {t : Nat} (hi : ∀ {ws : va_W} {H : Heap} {locs : List Loc} {ls : Array Slot} {rest : List Value} {q k n : Nat} {f : Nat → Int32} {u : Int32}, va_P D vwCl ws H → ws[k]? = some (q, .inl (κ t, n, .inl f)) → vp_in u n → W p l e R s m args below meth c H locs 0 0 Q (F0 m (a.1 + r.2.1) ls (.int (f u.toNatClampNeg) :: rest)) → W p l e R s m args below meth c H locs 0 0 Q (F0 m a.1 ls (.int u :: .ref q :: rest))) (h : rc_ald κ t r a K) (k : ∀ b, K b → rc_At p l e R s m args below meth c nL D A H0 Q b) : rc_At p l e R s m args below meth c nL D A H0 Q a := by
  obtain ⟨q, kk, n, f, u, st, e1, e2, e3, h⟩ := h
  intro H locs ls hP hD hS hL
  rw [e1]
  exact hi hP e2 e3 (k _ h H locs ls hP hD hS hL)
theorem rc_ast_s {t : Nat} (hi : ∀ {ws : va_W} {H : Heap} {locs : List Loc} {ls : Array Slot} {rest : List Value} {q k n : Nat} {f : Nat → Int32} {u z : Int32}, va_P D vwCl ws H → va_D A ws → va_S A H0 H locs → ws[k]? = some (q, .inl (κ t, n, .inl f)) → vp_in u n → vp_nar (ri_ty t) z = z → (∀ (H1 : Heap) (locs1 : List Loc), va_P D vwCl (ws.set k (q, .inl (κ t, n, .inl (upd f u.toNatClampNeg z)))) H1 → va_D A (ws.set k (q, .inl (κ t, n, .inl (upd f u.toNatClampNeg z)))) → va_S A H0 H1 locs1 → W p l e R s m args below meth c H1 locs1 0 0 Q (F0 m (a.1 + r.2.1) ls rest)) → W p l e R s m args below meth c H locs 0 0 Q (F0 m a.1 ls (.int z :: .int u :: .ref q :: rest))) (h : rc_ast κ t r a K) (k : ∀ b, K b → rc_At p l e R s m args below meth c nL D A H0 Q b) : rc_At p l e R s m args below meth c nL D A H0 Q a := by
  obtain ⟨q, kk, n, f, u, z, st, e1, e2, e3, e4, h⟩ := h
  intro H locs ls hP hD hS hL
  rw [e1]
  exact hi hP hD hS e2 e3 e4 (fun H1 locs1 hP1 hD1 hS1 => k _ h H1 locs1 ls hP1 hD1 hS1 hL)
theorem rc_br_s {cnd : Jvm.ClassFile.Cond} {u v : Int32} {st : List Value} (h : rc_br cnd r a K u v st) (k : ∀ b, K b → rc_At p l e R s m args below meth c nL D A H0 Q b) {H : Heap} {locs : List Loc} {ls : Array Slot} (hP : va_P D vwCl a.2.2.2 H) (hD : va_D A a.2.2.2) (hS : va_S A H0 H locs) (hL : rc_L a.2.1 nL ls) : (ri_hold cnd u.toInt v.toInt → W p l e R s m args below meth c H locs 0 0 Q (F0 m r.2.2.1 ls st)) ∧ (¬ ri_hold cnd u.toInt v.toInt → W p l e R s m args below meth c H locs 0 0 Q (F0 m (a.1 + r.2.1) ls st)) := by
  rcases h with ⟨h1, h⟩ | ⟨h1, h⟩
  · exact ⟨fun _ => k _ h H locs ls hP hD hS hL, fun q => absurd h1 q⟩
  · exact ⟨fun q => absurd q h1, fun _ => k _ h H locs ls hP hD hS hL⟩
set_option maxHeartbeats 4000000 in
theorem rc_sound (hco : ri_clsOK) (hao : ri_arrOK) (hx : p.tables.exec = Jvm.exec) (hb : c.code = cc) (hml : c.maxLocals = nL) (hown : s.vm.findClass y.cls = some m.cls) (hnm : meth.name = y.name) (hts : ∀ w ∈ gU, w.before args s = true) (hK : va_K D vwCl (ri_tys κ) s) (hfr : 1 ≤ R.frames) (hlo : 100 ≤ R.locals) (hrow : ri_rowOK mT y cc nL ret a.1 r) (h : rc_wp κ r a K) (k : ∀ b, K b → rc_At p l e R s m args below meth c nL D A H0 Q b) : rc_At p l e R s m args below meth c nL D A H0 Q a := by
  obtain ⟨hd, ho⟩ := hrow
  obtain ⟨i, len, x, z, v⟩ := r
  cases i
  all_goals first | (exact False.elim h; done) | skip
  case aaload =>
    obtain rfl : len = 1 := ho
    obtain ⟨q, kk, n, t, f, u, st, e1, e4, e7, e2, e3, h⟩ := h
    intro H locs ls hP hD hS hL
    rw [e1]
    have hlt : u.toNatClampNeg < n := Nat.not_le.mp fun q => e3 (Or.inr q)
    have href : (ri_ty t).isReference = true := by
      rcases (show t = 4 ∨ t = 5 ∨ t = 6 ∨ t = 7 by omega) with rfl | rfl | rfl | rfl <;> rfl
    exact W.aald (v := va_rf (f u.toNatClampNeg)) (ty := ri_ty t) hx hb (hP kk _ e2) ((hK.2 t _ (ri_tys_at κ e7)).1 n (fun j => va_rf (f j))) href (fun q => by cases q) (by show ¬ (u < 0 ∨ (arrV _ _ _).slots.size ≤ _); rw [arrV_size]; exact e3) (by show (arrV _ _ _).slots[_]? = _; rw [arrV_read _ _ hlt]) rfl rfl hd (k _ h H locs ls hP hD hS hL)
  case aload j =>
    obtain ⟨rfl, rfl⟩ : len = 2 ∧ j = x := ho
    exact rc_aload_s (fun hl kk => lv_aload hx hb hd hl kk) h k
  case aload_n j =>
    obtain ⟨rfl, h2⟩ : len = 1 ∧ (j : Nat) = x := ho
    exact rc_aload_s (fun hl kk => lv_aload_n hx hb hd h2 hl kk) h k
  case arraylength =>
    obtain rfl : len = 1 := ho
    obtain ⟨q, kk, t, x0, st, e1, e7, e2, h⟩ := h
    intro H locs ls hP hD hS hL
    rw [e1]
    exact va_alen hx hb hK hP kk t e2 (ri_tys_at κ e7) rfl hd (k _ h H locs ls hP hD hS hL)
  case astore j =>
    obtain ⟨rfl, rfl, h3⟩ : len = 2 ∧ j = x ∧ x < nL := ho
    exact rc_astore_s (fun l1 e1 kk => lv_astore hx hb hd l1 h3 e1 kk) h k
  case astore_n j =>
    obtain ⟨rfl, h2, h3⟩ : len = 1 ∧ (j : Nat) = x ∧ x < nL := ho
    exact rc_astore_s (fun l1 e1 kk => lv_astore_n hx hb hd h2 l1 h3 e1 kk) h k
  case baload =>
    obtain rfl : len = 1 := ho
    rcases h with h | h
    · exact rc_ald_s (fun hP e2 e3 kk => va_zald hx hb hK hP _ 1 e2 rfl e3 hd kk) h k
    · exact rc_ald_s (fun hP e2 e3 kk => va_bald hx hb hK hP _ 2 e2 rfl e3 hd kk) h k
  case bastore =>
    obtain rfl : len = 1 := ho
    rcases h with h | h
    · exact rc_ast_s (t := 1) (fun {_ _ _ _ _ _ _ _ _ _ zz} hP hD hS e2 e3 e4 kk => va_zast hx hb hK hP hD hS _ 1 e2 rfl e3 hd (by have e5 : vp_nar .boolean zz = zz := e4; rw [e5]; exact kk)) h k
    · exact rc_ast_s (t := 2) (fun {_ _ _ _ _ _ _ _ _ _ zz} hP hD hS e2 e3 e4 kk => va_bast hx hb hK hP hD hS _ 2 e2 rfl e3 hd (by have e5 : vp_nar .byte zz = zz := e4; rw [e5]; exact kk)) h k
  case bipush n =>
    obtain ⟨rfl, h2⟩ : len = 2 ∧ ((Int8.ofInt n).toInt32).toInt = v := ho
    exact rc_push_s h2 (fun kk => lv_bipush hx hb hd rfl kk) h k
  case dup =>
    obtain rfl : len = 1 := ho
    obtain ⟨w, st, e1, e2, h⟩ := h
    intro H locs ls hP hD hS hL
    rw [e1]
    exact lv_dup hx hb hd e2 (k _ h H locs ls hP hD hS hL)
  case dup_x1 =>
    obtain rfl : len = 1 := ho
    obtain ⟨w, w', st, e1, e2, e3, h⟩ := h
    intro H locs ls hP hD hS hL
    rw [e1]
    exact lv_dup_x1 hx hb hd e2 e3 (k _ h H locs ls hP hD hS hL)
  case dup2 =>
    obtain rfl : len = 1 := ho
    obtain ⟨w, w', st, e1, e2, e3, h⟩ := h
    intro H locs ls hP hD hS hL
    rw [e1]
    exact lv_dup2_11 hx hb hd e2 e3 (k _ h H locs ls hP hD hS hL)
  case getfield j =>
    obtain ⟨rfl, C, T, N, h1, h2, h3⟩ : len = 3 ∧ ∃ (C : String) (T : u_T) (N : Nat), vwCl[x]? = some (C, T, N) ∧ z < N ∧ Cond.fieldLink y.cls j (T z).1 (T z).2.1 (T z).2.2.1 ∈ gU := ho
    obtain ⟨q, kk, vs, w, st, e1, e2, e3, h⟩ := h
    intro H locs ls hP hD hS hL
    rw [e1]
    exact va_get (Ts := gU) hx hb hts (hco x C T N h1).1 hown hK hP kk e2 h1 _ h2 (hts _ h3) (fun _ g => g) e3 hd (k _ h H locs ls hP hD hS hL)
  case goto o =>
    obtain ⟨h1, rfl⟩ : (a.1 : Int) + o = (x : Int) ∧ len = 3 := ho
    intro H locs ls hP hD hS hL
    exact lv_goto hx hb hd h1 (k _ h H locs ls hP hD hS hL)
  case i2b =>
    obtain rfl : len = 1 := ho
    exact rc_un_s (fun kk => lv_i2b hx hb hd rfl kk) h k
  case i2c =>
    obtain rfl : len = 1 := ho
    exact rc_un_s (fun kk => lv_i2c hx hb hd rfl kk) h k
  case i2l =>
    obtain rfl : len = 1 := ho
    obtain ⟨u, st, e1, h⟩ := h
    intro H locs ls hP hD hS hL
    rw [e1]
    exact lv_i2l hx hb hd rfl (k _ h H locs ls hP hD hS hL)
  case iadd =>
    obtain rfl : len = 1 := ho
    exact rc_bin_s (fun kk => lv_iadd hx hb hd kk) h k
  case iaload =>
    obtain rfl : len = 1 := ho
    exact rc_ald_s (fun hP e2 e3 kk => va_iald hx hb hK hP _ 0 e2 rfl e3 hd kk) h k
  case iand =>
    obtain rfl : len = 1 := ho
    exact rc_bin_s (fun kk => lv_iand hx hb hd kk) h k
  case iastore =>
    obtain rfl : len = 1 := ho
    exact rc_ast_s (t := 0) (fun hP hD hS e2 e3 _ kk => va_iast hx hb hK hP hD hS _ 0 e2 rfl e3 hd kk) h k
  case iconst n =>
    obtain ⟨rfl, h2⟩ : len = 1 ∧ (Int32.ofInt n).toInt = v := ho
    exact rc_push_s h2 (fun kk => lv_iconst hx hb hd rfl kk) h k
  case idiv =>
    obtain rfl : len = 1 := ho
    exact rc_bin0_s (fun e2 kk => lv_idiv hx hb hd e2 kk) h k
  case if_icmp cnd o =>
    obtain ⟨h1, rfl⟩ : (a.1 : Int) + o = (x : Int) ∧ len = 3 := ho
    obtain ⟨u, w, st, e1, h⟩ := h
    intro H locs ls hP hD hS hL
    rw [e1]
    obtain ⟨t1, t2⟩ := rc_br_s h k hP hD hS hL
    cases cnd with
    | eq => exact lv_icmp_eq hx hb hd h1 (fun g => t1 (congrArg Int32.toInt g)) (fun g => t2 (fun q => g (Int32.toInt_inj.mp q)))
    | ne => exact lv_icmp_ne hx hb hd h1 (fun g => t1 (fun q => g (Int32.toInt_inj.mp q))) (fun g => t2 (fun q => q (congrArg Int32.toInt g)))
    | lt => exact lv_icmp_lt hx hb hd h1 (fun g => t1 (Int32.lt_iff_toInt_lt.mp g)) (fun g => t2 (fun q => g (Int32.lt_iff_toInt_lt.mpr q)))
    | ge => exact lv_icmp_ge hx hb hd h1 (fun g => t1 (Int32.le_iff_toInt_le.mp g)) (fun g => t2 (fun q => g (Int32.le_iff_toInt_le.mpr q)))
    | gt => exact lv_icmp_gt hx hb hd h1 (fun g => t1 (Int32.lt_iff_toInt_lt.mp g)) (fun g => t2 (fun q => g (Int32.lt_iff_toInt_lt.mpr q)))
    | le => exact lv_icmp_le hx hb hd h1 (fun g => t1 (Int32.le_iff_toInt_le.mp g)) (fun g => t2 (fun q => g (Int32.le_iff_toInt_le.mpr q)))
  case ifCond cnd o =>
    obtain ⟨h1, rfl⟩ : (a.1 : Int) + o = (x : Int) ∧ len = 3 := ho
    obtain ⟨u, st, e1, h⟩ := h
    intro H locs ls hP hD hS hL
    rw [e1]
    obtain ⟨t1, t2⟩ := rc_br_s h k hP hD hS hL
    cases cnd with
    | eq => exact lv_if_eq hx hb hd h1 (fun g => t1 (congrArg Int32.toInt g)) (fun g => t2 (fun q => g (Int32.toInt_inj.mp q)))
    | ne => exact lv_if_ne hx hb hd h1 (fun g => t1 (fun q => g (Int32.toInt_inj.mp q))) (fun g => t2 (fun q => q (congrArg Int32.toInt g)))
    | lt => exact lv_if_lt hx hb hd h1 (fun g => t1 (Int32.lt_iff_toInt_lt.mp g)) (fun g => t2 (fun q => g (Int32.lt_iff_toInt_lt.mpr q)))
    | ge => exact lv_if_ge hx hb hd h1 (fun g => t1 (Int32.le_iff_toInt_le.mp g)) (fun g => t2 (fun q => g (Int32.le_iff_toInt_le.mpr q)))
    | gt => exact lv_if_gt hx hb hd h1 (fun g => t1 (Int32.lt_iff_toInt_lt.mp g)) (fun g => t2 (fun q => g (Int32.lt_iff_toInt_lt.mpr q)))
    | le => exact lv_if_le hx hb hd h1 (fun g => t1 (Int32.le_iff_toInt_le.mp g)) (fun g => t2 (fun q => g (Int32.le_iff_toInt_le.mpr q)))
  case iinc j n =>
    obtain ⟨rfl, rfl, h2, h3⟩ : len = 3 ∧ j = x ∧ x < nL ∧ (Int32.ofInt n).toInt = v := ho
    obtain ⟨h20, u, A', e1, e2, h⟩ := h
    intro H locs ls hP hD hS hL
    obtain ⟨lv, l1, l2⟩ := hL
    obtain ⟨q, hq⟩ := List.getElem?_of_mem (l2 _ _ h20 e1)
    exact lv_iinc hx hb hd l1 (k := q) hq rfl h2 rfl (fun ls' hl' => k _ h H locs ls' hP hD hS (rc_L_sto l2 e2 hl'))
  case iload j =>
    obtain ⟨rfl, rfl⟩ : len = 2 ∧ j = x := ho
    exact rc_iload_s (fun hl kk => lv_iload hx hb hd hl kk) h k
  case iload_n j =>
    obtain ⟨rfl, h2⟩ : len = 1 ∧ (j : Nat) = x := ho
    exact rc_iload_s (fun hl kk => lv_iload_n hx hb hd h2 hl kk) h k
  case imul =>
    obtain rfl : len = 1 := ho
    exact rc_bin_s (fun kk => lv_imul hx hb hd kk) h k
  case ineg =>
    obtain rfl : len = 1 := ho
    exact rc_un_s (fun kk => lv_ineg hx hb hd kk) h k
  case invokestatic j =>
    obtain ⟨hx2, h⟩ := h
    have hx2 : x = 2 := hx2
    subst hx2
    obtain ⟨e3, ho⟩ := ho
    have e3 : len = 3 := e3
    subst e3
    rcases ho with ⟨-, ho⟩ | ⟨e0, -⟩
    · rcases h with ⟨ez, h⟩ | ⟨ez, h⟩ | ⟨ez, h⟩ | ⟨ez, h⟩
      · have ez : z = 0 := ez
        subst ez
        have hlink : Cond.methodLink y.cls j arraycopyName ∈ gU := by
          rcases ho with ⟨-, g⟩ | ⟨g, -⟩ | ⟨g, -⟩ | ⟨g, -⟩
          · exact g
          · cases g
          · cases g
          · cases g
        obtain ⟨q0, q1, k0, k1, n0, n1, t, f, g, sp, dp, n, st, e1, h8, ht1, e4, e5, e6, e7, e8, e9, e10, e11, h⟩ := h
        intro H locs ls hP hD hS hL
        rw [e1]
        have hcat := ri_cats st
        have hnw : nativeFrameWords "java/lang/System" "arraycopy" 5 = 7 := by decide +kernel
        exact va_copyi (ty := ri_ty t) hx hb (by rw [hml]; obtain ⟨lv, l1, -⟩ := hL; exact l1.1.symm) hown (hts _ hlink) (hts _ hao.2.2.2.2.1) (hts _ hao.2.2.2.2.2.1) (hts _ hao.2.2.2.2.2.2.1) hK hP hD hS k0 k1 t t e4 e5 (ri_tys_at κ (by omega)) (ri_tys_at κ (by omega)) (by rcases (show t = 0 ∨ t = 1 by omega) with rfl | rfl <;> rfl) e6 e7 e8 e9 e10 e11 hfr (by rw [hnw]; omega) hd (fun H1 locs1 hP1 hD1 hS1 => k _ h H1 locs1 ls hP1 hD1 hS1 hL)
      · have ez : z = 1 := ez
        subst ez
        have hlink : Cond.methodLink y.cls j Lib.Math.max.name ∈ gU := by
          rcases ho with ⟨g, -⟩ | ⟨-, g⟩ | ⟨g, -⟩ | ⟨g, -⟩
          · cases g
          · exact g
          · cases g
          · cases g
        obtain ⟨u, w, st, e1, h8, h⟩ := h
        intro H locs ls hP hD hS hL
        rw [e1]
        have hcat := ri_cats st
        exact va_mmax hx hb (by rw [hml]; obtain ⟨lv, l1, -⟩ := hL; exact l1.1.symm) hown (hts _ hlink) (hts _ hao.2.2.2.2.2.2.2.2.2.1) (hts _ hao.2.2.2.2.2.2.2.2.2.2.2.1) (hts _ hao.2.2.2.2.2.2.2.2.2.2.2.2.1) hfr (by omega) (Nat.zero_le _) (Nat.zero_le _) hd (k _ h H locs ls hP hD hS hL)
      · have ez : z = 2 := ez
        subst ez
        have hlink : Cond.methodLink y.cls j Lib.Math.min.name ∈ gU := by
          rcases ho with ⟨g, -⟩ | ⟨g, -⟩ | ⟨-, g⟩ | ⟨g, -⟩
          · cases g
          · cases g
          · exact g
          · cases g
        obtain ⟨u, w, st, e1, h8, h⟩ := h
        intro H locs ls hP hD hS hL
        rw [e1]
        have hcat := ri_cats st
        exact va_mmin hx hb (by rw [hml]; obtain ⟨lv, l1, -⟩ := hL; exact l1.1.symm) hown (hts _ hlink) (hts _ hao.2.2.2.2.2.2.2.2.2.2.1) (hts _ hao.2.2.2.2.2.2.2.2.2.2.2.1) (hts _ hao.2.2.2.2.2.2.2.2.2.2.2.2.2.1) hfr (by omega) (Nat.zero_le _) (Nat.zero_le _) hd (k _ h H locs ls hP hD hS hL)
      · have ez : z = 3 := ez
        subst ez
        have hlink : Cond.methodLink y.cls j Lib.Math.abs.name ∈ gU := by
          rcases ho with ⟨g, -⟩ | ⟨g, -⟩ | ⟨g, -⟩ | ⟨-, g⟩
          · cases g
          · cases g
          · cases g
          · exact g
        obtain ⟨u, st, e1, h8, h⟩ := h
        intro H locs ls hP hD hS hL
        rw [e1]
        have hcat := ri_cats st
        exact va_mabs hx hb (by rw [hml]; obtain ⟨lv, l1, -⟩ := hL; exact l1.1.symm) hown (hts _ hlink) (hts _ hao.2.2.2.2.2.2.2.2.2.2.2.2.2.2.1) (hts _ hao.2.2.2.2.2.2.2.2.2.2.2.1) (hts _ hao.2.2.2.2.2.2.2.2.2.2.2.2.2.2.2) hfr (by omega) (Nat.zero_le _) (Nat.zero_le _) hd (k _ h H locs ls hP hD hS hL)
    · cases e0
  case ior =>
    obtain rfl : len = 1 := ho
    exact rc_bin_s (fun kk => lv_ior hx hb hd kk) h k
  case irem =>
    obtain rfl : len = 1 := ho
    exact rc_bin0_s (fun e2 kk => lv_irem hx hb hd e2 kk) h k
  case ishl =>
    obtain rfl : len = 1 := ho
    exact rc_bin_s (fun kk => lv_ishl hx hb hd kk) h k
  case ishr =>
    obtain rfl : len = 1 := ho
    exact rc_bin_s (fun kk => lv_ishr hx hb hd kk) h k
  case istore j =>
    obtain ⟨rfl, rfl, h3⟩ : len = 2 ∧ j = x ∧ x < nL := ho
    exact rc_istore_s (fun l1 e1 kk => lv_istore hx hb hd l1 h3 e1 kk) h k
  case istore_n j =>
    obtain ⟨rfl, h2, h3⟩ : len = 1 ∧ (j : Nat) = x ∧ x < nL := ho
    exact rc_istore_s (fun l1 e1 kk => lv_istore_n hx hb hd h2 l1 h3 e1 kk) h k
  case isub =>
    obtain rfl : len = 1 := ho
    exact rc_bin_s (fun kk => lv_isub hx hb hd kk) h k
  case iushr =>
    obtain rfl : len = 1 := ho
    exact rc_bin_s (fun kk => lv_iushr hx hb hd rfl kk) h k
  case ladd =>
    obtain rfl : len = 1 := ho
    exact rc_lbin_s (fun kk => lv_ladd hx hb hd kk) h k
  case laload =>
    obtain rfl : len = 1 := ho
    obtain ⟨q, kk, n, f, u, st, e1, e2, e3, h⟩ := h
    intro H locs ls hP hD hS hL
    rw [e1]
    exact va_lald hx hb hK hP kk 3 e2 rfl e3 hd (k _ h H locs ls hP hD hS hL)
  case lastore =>
    obtain rfl : len = 1 := ho
    obtain ⟨q, kk, n, f, u, w, st, e1, e2, e3, h⟩ := h
    intro H locs ls hP hD hS hL
    rw [e1]
    exact va_last hx hb hK hP hD hS kk 3 e2 rfl e3 hd (fun H1 locs1 hP1 hD1 hS1 => k _ h H1 locs1 ls hP1 hD1 hS1 hL)
  case lcmp =>
    obtain rfl : len = 1 := ho
    obtain ⟨u, w, st, e1, h⟩ := h
    intro H locs ls hP hD hS hL
    rw [e1]
    exact W.lcmp hx hb hd (k _ h H locs ls hP hD hS hL)
  case lconst n =>
    obtain rfl : len = 1 := ho
    intro H locs ls hP hD hS hL
    exact lv_lconst hx hb hd rfl (k _ h H locs ls hP hD hS hL)
  case ldc j =>
    obtain ⟨rfl, w, hw, h2⟩ : len = 2 ∧ ∃ w : Int32, Cond.constant y.cls j w ∈ gU ∧ w.toInt = v := ho
    exact rc_push_s h2 (fun kk => lv_ldc hx hb hown (hts _ hw) hd kk) h k
  case ldc_w j =>
    obtain ⟨rfl, w, hw, h2⟩ : len = 3 ∧ ∃ w : Int32, Cond.constant y.cls j w ∈ gU ∧ w.toInt = v := ho
    exact rc_push_s h2 (fun kk => lv_ldcw hx hb hown (hts _ hw) hd kk) h k
  case ldc2_w j =>
    obtain ⟨rfl, w, hw, h2⟩ : len = 3 ∧ ∃ w : Int64, Cond.constantLong y.cls j w ∈ gU ∧ w.toInt = v := ho
    intro H locs ls hP hD hS hL
    exact lv_ldc2 hx hb hown (hts _ hw) hd (k _ (h w h2) H locs ls hP hD hS hL)
  case lload j =>
    obtain ⟨rfl, rfl⟩ : len = 2 ∧ j = x := ho
    exact rc_lload_s (fun hl kk => lv_lload hx hb hd hl kk) h k
  case lload_n j =>
    obtain ⟨rfl, h2⟩ : len = 1 ∧ (j : Nat) = x := ho
    exact rc_lload_s (fun hl kk => lv_lload_n hx hb hd h2 hl kk) h k
  case lmul =>
    obtain rfl : len = 1 := ho
    exact rc_lbin_s (fun kk => lv_lmul hx hb hd kk) h k
  case lookupswitch d ps =>
    obtain ⟨h0, h1, h2⟩ : (ps.toList.zip (ps.toList.drop 1)).all (fun (a, next) => a.1 < next.1) = true ∧ 0 ≤ (a.1 : Int) + d ∧ ∀ o ∈ ps.toList, 0 ≤ (a.1 : Int) + o.2 := ho
    obtain ⟨u, st, e1, h⟩ := h
    intro H locs ls hP hD hS hL
    rw [e1]
    have ho : ∀ (l : List (Int × Int)) (k : Int), (∀ o ∈ l, 0 ≤ (a.1 : Int) + o.2) → 0 ≤ (a.1 : Int) + Op.lookupswitch.offset l d k := by
      intro l
      induction l with
      | nil =>
        intro k _
        rw [Op.lookupswitch.offset_nil]
        exact h1
      | cons o l ih =>
        intro k hl
        rw [Op.lookupswitch.offset_cons]
        split
        · exact hl _ List.mem_cons_self
        · exact ih k (fun o ho => hl o (List.mem_cons_of_mem _ ho))
    have := ho ps.toList u.toInt h2
    exact lv_lookup hx hb hd h0 rfl (tgt := Int.toNat ((a.1 : Int) + Op.lookupswitch.offset ps.toList d u.toInt)) (by omega) (k _ h H locs ls hP hD hS hL)
  case lor =>
    obtain rfl : len = 1 := ho
    exact rc_lbin_s (fun kk => lv_lor hx hb hd kk) h k
  case lshl =>
    obtain rfl : len = 1 := ho
    obtain ⟨u, w, st, e1, h⟩ := h
    intro H locs ls hP hD hS hL
    rw [e1]
    exact lv_lshl hx hb hd rfl (k _ h H locs ls hP hD hS hL)
  case lstore j =>
    obtain ⟨rfl, rfl, h3⟩ : len = 2 ∧ j = x ∧ x + 1 < nL := ho
    exact rc_lstore_s (fun l1 e1 kk => lv_lstore hx hb hd l1 h3 e1 kk) h k
  case lstore_n j =>
    obtain ⟨rfl, h2, h3⟩ : len = 1 ∧ (j : Nat) = x ∧ x + 1 < nL := ho
    exact rc_lstore_s (fun l1 e1 kk => lv_lstore_n hx hb hd h2 l1 h3 e1 kk) h k
  case pop =>
    obtain rfl : len = 1 := ho
    obtain ⟨w, st, e1, e2, h⟩ := h
    intro H locs ls hP hD hS hL
    rw [e1]
    exact lv_pop hx hb hd e2 (k _ h H locs ls hP hD hS hL)
  case putfield j =>
    obtain ⟨rfl, C, T, N, ty, h1, h2, h3, h4, h5, h6⟩ : len = 3 ∧ ∃ (C : String) (T : u_T) (N : Nat) (ty : FieldType), vwCl[x]? = some (C, T, N) ∧ z < N ∧ Cond.fieldLink y.cls j (T z).1 (T z).2.1 (T z).2.2.1 ∈ gU ∧ parseFieldDescriptor (T z).2.2.1 = some ty ∧ ri_fty v ty ∧ ((T z).2.2.2 = false ∨ ((T z).2.2.2 = true ∧ y.name = "<init>" ∧ (T z).1 = y.cls)) := ho
    obtain ⟨g1, g2, g3, ty0, df, g4, g5, g6, g7, g8⟩ := hco x C T N h1
    obtain ⟨q, kk, vs, w, st, e1, e2, e3, e4, h⟩ := h
    intro H locs ls hP hD hS hL
    rw [e1]
    obtain ⟨hn, hf⟩ := rc_fit_ok e4 h5
    have fin : ∀ (H1 : Heap) (locs1 : List Loc), va_P D vwCl (a.2.2.2.set kk (q, .inr (x, vs.set z w))) H1 → va_D A (a.2.2.2.set kk (q, .inr (x, vs.set z w))) → va_S A H0 H1 locs1 → W p l e R s m args below meth c H1 locs1 0 0 Q (F0 m (a.1 + 3) ls st) := fun H1 locs1 hP1 hD1 hS1 => k _ h H1 locs1 ls hP1 hD1 hS1 hL
    rcases h6 with hfin | ⟨hfin, hini, hdecl⟩
    · exact va_put (Ts := gU) hx hb hts g1 ty0 g4 g5 hown hK hP hD hS kk e2 h1 _ h2 (hts _ h3) (fun _ g => g) hfin h4 hn hf e3 hd fin
    · exact va_putF (Ts := gU) hx hb hts g1 ty0 g4 g5 hown hK hP hD hS kk e2 h1 _ h2 (hts _ h3) (fun _ g => g) hfin (hnm.trans hini) hdecl h4 hn hf e3 hd fin
  case sipush n =>
    obtain ⟨rfl, h2⟩ : len = 3 ∧ ((Int16.ofInt n).toInt32).toInt = v := ho
    exact rc_push_s h2 (fun kk => lv_sipush hx hb hd rfl kk) h k
  case tableswitch d lo hi offs =>
    obtain ⟨h1, h2⟩ : 0 ≤ (a.1 : Int) + d ∧ ∀ o ∈ offs.toList, 0 ≤ (a.1 : Int) + o := ho
    obtain ⟨u, st, e1, h⟩ := h
    intro H locs ls hP hD hS hL
    rw [e1]
    rcases h with ⟨e2, h⟩ | ⟨e2, e3, o, e4, h⟩
    · exact lv_tableOut hx hb hd e2 (tgt := Int.toNat ((a.1 : Int) + d)) (by omega) (k _ h H locs ls hP hD hS hL)
    · have := h2 o (by
        have := Array.mem_of_getElem? e4
        simpa using this)
      exact lv_tableIn hx hb hd e2 e3 e4 (tgt := Int.toNat ((a.1 : Int) + o)) (by omega) (k _ h H locs ls hP hD hS hL)
end RC
