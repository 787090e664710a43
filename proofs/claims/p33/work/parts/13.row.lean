/-! What a row of the tables must be; one step by its row -/
abbrev ri_MT : Type := MethodName × ByteArray × Nat × Option FieldType
/-- a method's name as a call takes it, with so many values -/
def ri_yOK (yy : MethodName) (n : Nat) : Prop := yy.cls ≠ "java/lang/invoke/MethodHandle" ∧ yy.cls ≠ "java/lang/invoke/VarHandle" ∧ (parseMethodDescriptor yy.desc).map (fun d => d.parameters.length) = some n
def ri_opOK (mT : List ri_MT) (y : MethodName) (nL : Nat) (ret : Option FieldType) (pc : Nat) (r : ri_R) : Prop := match r.1 with
  | .iload_n k => r.2.1 = 1 ∧ (k : Nat) = r.2.2.1
  | .iload j => r.2.1 = 2 ∧ j = r.2.2.1
  | .aload_n k => r.2.1 = 1 ∧ (k : Nat) = r.2.2.1
  | .aload j => r.2.1 = 2 ∧ j = r.2.2.1
  | .istore_n k => r.2.1 = 1 ∧ (k : Nat) = r.2.2.1 ∧ r.2.2.1 < nL
  | .istore j => r.2.1 = 2 ∧ j = r.2.2.1 ∧ r.2.2.1 < nL
  | .astore_n k => r.2.1 = 1 ∧ (k : Nat) = r.2.2.1 ∧ r.2.2.1 < nL
  | .astore j => r.2.1 = 2 ∧ j = r.2.2.1 ∧ r.2.2.1 < nL
  | .iconst n => r.2.1 = 1 ∧ (Int32.ofInt n).toInt = r.2.2.2.2
  | .bipush n => r.2.1 = 2 ∧ ((Int8.ofInt n).toInt32).toInt = r.2.2.2.2
  | .sipush n => r.2.1 = 3 ∧ ((Int16.ofInt n).toInt32).toInt = r.2.2.2.2
  | .ldc j => r.2.1 = 2 ∧ ∃ w : Int32, Cond.constant y.cls j w ∈ gU ∧ w.toInt = r.2.2.2.2
  | .ldc_w j => r.2.1 = 3 ∧ ∃ w : Int32, Cond.constant y.cls j w ∈ gU ∧ w.toInt = r.2.2.2.2
  | .iadd => r.2.1 = 1
  | .isub => r.2.1 = 1
  | .imul => r.2.1 = 1
  | .idiv => r.2.1 = 1
  | .iand => r.2.1 = 1
  | .ior => r.2.1 = 1
  | .ishr => r.2.1 = 1
  | .iushr => r.2.1 = 1
  | .ineg => r.2.1 = 1
  | .i2b => r.2.1 = 1
  | .dup => r.2.1 = 1
  | .dup_x1 => r.2.1 = 1
  | .dup2 => r.2.1 = 1
  | .pop => r.2.1 = 1
  | .iinc j n => r.2.1 = 3 ∧ j = r.2.2.1 ∧ r.2.2.1 < nL ∧ (Int32.ofInt n).toInt = r.2.2.2.2
  | .goto o => (pc : Int) + o = (r.2.2.1 : Int) ∧ r.2.1 = 3
  | .ifCond _ o => (pc : Int) + o = (r.2.2.1 : Int) ∧ r.2.1 = 3
  | .if_icmp _ o => (pc : Int) + o = (r.2.2.1 : Int) ∧ r.2.1 = 3
  | .tableswitch d _ _ offs => 0 ≤ (pc : Int) + d ∧ ∀ o ∈ offs.toList, 0 ≤ (pc : Int) + o
  | .getfield j => r.2.1 = 3 ∧ ∃ (C : String) (T : u_T) (N : Nat), vwCl[r.2.2.1]? = some (C, T, N) ∧ r.2.2.2.1 < N ∧ Cond.fieldLink y.cls j (T r.2.2.2.1).1 (T r.2.2.2.1).2.1 (T r.2.2.2.1).2.2.1 ∈ gU
  | .putfield j => r.2.1 = 3 ∧ ∃ (C : String) (T : u_T) (N : Nat) (ty : FieldType), vwCl[r.2.2.1]? = some (C, T, N) ∧ r.2.2.2.1 < N ∧ Cond.fieldLink y.cls j (T r.2.2.2.1).1 (T r.2.2.2.1).2.1 (T r.2.2.2.1).2.2.1 ∈ gU ∧ parseFieldDescriptor (T r.2.2.2.1).2.2.1 = some ty ∧ ri_fty r.2.2.2.2 ty ∧ ((T r.2.2.2.1).2.2.2 = false ∨ ((T r.2.2.2.1).2.2.2 = true ∧ y.name = "<init>" ∧ (T r.2.2.2.1).1 = y.cls))
  | .iaload => r.2.1 = 1
  | .baload => r.2.1 = 1
  | .aaload => r.2.1 = 1
  | .iastore => r.2.1 = 1
  | .bastore => r.2.1 = 1
  | .aastore => r.2.1 = 1
  | .arraylength => r.2.1 = 1
  | .new j => r.2.1 = 3 ∧ ∃ (C : String) (T : u_T) (N : Nat), vwCl[r.2.2.1]? = some (C, T, N) ∧ Cond.classLink y.cls j C ∈ gU
  | .newarray t => r.2.1 = 2 ∧ r.2.2.1 ≤ 3 ∧ newarray.typeOf t = ri_ty r.2.2.1
  | .anewarray j => r.2.1 = 3 ∧ 4 ≤ r.2.2.1 ∧ r.2.2.1 ≤ 6 ∧ ∃ C, ri_ty r.2.2.1 = .object C ∧ Cond.classLink y.cls j C ∈ gU
  | .multianewarray j n => n = 2 ∧ r.2.1 = 4 ∧ Cond.classLink y.cls j "[[I" ∈ gU
  | .ireturn => r.2.1 = 1 ∧ ((r.2.2.1 = 0 ∧ ret = some .int) ∨ (r.2.2.1 = 1 ∧ ret = some .boolean))
  | .return_ => r.2.1 = 1 ∧ ret = none
  | .invokevirtual j => r.2.1 = 3 ∧ ∃ (yy : MethodName) (cc' : ByteArray) (nL' : Nat) (ret' : Option FieldType) (ci : Nat) (T : u_T) (N n : Nat), mT[r.2.2.2.1]? = some (yy, cc', nL', ret') ∧ r.2.2.1 = ci + 4 ∧ vwCl[ci]? = some (yy.cls, T, N) ∧ Cond.methodLink y.cls j yy ∈ gU ∧ Cond.instanceMethod yy ∈ gU ∧ Cond.selects yy.cls yy yy ∈ gU ∧ ri_yOK yy n ∧ r.2.2.2.2 = ((n + 1 : Nat) : Int) ∧ n + 1 ≤ nL'
  | .invokespecial j => r.2.1 = 3 ∧ ((r.2.2.1 = 1 ∧ Cond.methodLink y.cls j objectInit ∈ gU) ∨ (r.2.2.1 = 3 ∧ ∃ (yy : MethodName) (cc' : ByteArray) (nL' n : Nat), mT[r.2.2.2.1]? = some (yy, cc', nL', none) ∧ yy.name = "<init>" ∧ (Cond.methodLink y.cls j yy ∈ gU ∨ ∃ host, (y.cls, j, yy, host) ∈ ri_nests) ∧ Cond.instanceMethod yy ∈ gU ∧ ri_yOK yy n ∧ r.2.2.2.2 = ((n + 1 : Nat) : Int) ∧ n + 1 ≤ nL'))
  | .invokestatic j => r.2.1 = 3 ∧ ((r.2.2.1 = 2 ∧ ((r.2.2.2.1 = 0 ∧ Cond.methodLink y.cls j arraycopyName ∈ gU) ∨ (r.2.2.2.1 = 1 ∧ Cond.methodLink y.cls j Lib.Math.max.name ∈ gU) ∨ (r.2.2.2.1 = 2 ∧ Cond.methodLink y.cls j Lib.Math.min.name ∈ gU) ∨ (r.2.2.2.1 = 3 ∧ Cond.methodLink y.cls j Lib.Math.abs.name ∈ gU))) ∨ (r.2.2.1 = 0 ∧ ∃ (yy : MethodName) (cc' : ByteArray) (nL' : Nat) (ret' : Option FieldType) (n : Nat), mT[r.2.2.2.1]? = some (yy, cc', nL', ret') ∧ Cond.methodLink y.cls j yy ∈ gU ∧ Cond.static yy ∈ gU ∧ ri_yOK yy n ∧ r.2.2.2.2 = (n : Int) ∧ n ≤ nL'))
  | .lload_n k => r.2.1 = 1 ∧ (k : Nat) = r.2.2.1
  | .lload j => r.2.1 = 2 ∧ j = r.2.2.1
  | .lstore_n k => r.2.1 = 1 ∧ (k : Nat) = r.2.2.1 ∧ r.2.2.1 + 1 < nL
  | .lstore j => r.2.1 = 2 ∧ j = r.2.2.1 ∧ r.2.2.1 + 1 < nL
  | .lconst _ => r.2.1 = 1
  | .ldc2_w j => r.2.1 = 3 ∧ ∃ w : Int64, Cond.constantLong y.cls j w ∈ gU ∧ w.toInt = r.2.2.2.2
  | .lcmp => r.2.1 = 1
  | .ladd => r.2.1 = 1
  | .lmul => r.2.1 = 1
  | .lor => r.2.1 = 1
  | .lshl => r.2.1 = 1
  | .i2l => r.2.1 = 1
  | .i2c => r.2.1 = 1
  | .irem => r.2.1 = 1
  | .ishl => r.2.1 = 1
  | .laload => r.2.1 = 1
  | .lastore => r.2.1 = 1
  | .lreturn => r.2.1 = 1 ∧ ret = some .long
  | .lookupswitch d ps => (ps.toList.zip (ps.toList.drop 1)).all (fun (a, next) => a.1 < next.1) = true ∧ 0 ≤ (pc : Int) + d ∧ ∀ o ∈ ps.toList, 0 ≤ (pc : Int) + o.2
  | _ => False
def ri_rowOK (mT : List ri_MT) (y : MethodName) (cc : ByteArray) (nL : Nat) (ret : Option FieldType) (pc : Nat) (r : ri_R) : Prop := decode cc pc = .ok (r.1, r.2.1) ∧ ri_opOK mT y nL ret pc r
/-- the classes' words, types, names, defaults -/
def ri_clsOK : Prop := ∀ (ci : Nat) (C : String) (T : u_T) (N : Nat), vwCl[ci]? = some (C, T, N) → (∀ w ∈ u_ws C T N, w ∈ gU) ∧ Cond.instantiable C N ∈ gU ∧ Cond.initialized C ∈ gU ∧ ∃ (ty0 : Nat → FieldType) (df : List ri_V), (∀ k, k < N → parseFieldDescriptor (T k).2.2.1 = some (ty0 k)) ∧ (∀ a, a < N → ∀ b, b < N → a ≠ b → (T a).2.1 ≠ (T b).2.1) ∧ ri_df[ci]? = some df ∧ df.length = N ∧ ∀ (k : Nat) (a : ri_V), df[k]? = some a → ∀ (τ : Nat → Int) (ad : List Nat), ri_gV τ ad a (defaultValue (ty0 k))
def ri_arrOK : Prop := Cond.arrayClass .int ∈ gU ∧ Cond.arrayClass .boolean ∈ gU ∧ Cond.arrayClass .byte ∈ gU ∧ Cond.arrayClass .long ∈ gU ∧ Cond.native arraycopyName ∈ gU ∧ Cond.static arraycopyName ∈ gU ∧ Cond.initialized "java/lang/System" ∈ gU ∧ Cond.instanceMethod objectInit ∈ gU ∧ Cond.code objectInit ⟨#[0xb1]⟩ 1 none ∈ gU ∧ Cond.static Lib.Math.max.name ∈ gU ∧ Cond.static Lib.Math.min.name ∈ gU ∧ Cond.initialized "java/lang/Math" ∈ gU ∧ Cond.code Lib.Math.max.name Lib.Math.max.code 2 (some .int) ∈ gU ∧ Cond.code Lib.Math.min.name Lib.Math.min.code 2 (some .int) ∈ gU ∧ Cond.static Lib.Math.abs.name ∈ gU ∧ Cond.code Lib.Math.abs.name Lib.Math.abs.code 1 (some .int) ∈ gU
section RI13
variable {p : Program} {l : Launch} {e : Env} {R : Room} {s : State} {m : MethodId} {args : Array Value} {below : List Frame} {meth : Method} {c : Code} {cc : ByteArray} {nL n0 z0 : Nat} {τ : Nat → Int} {κ : Nat → ClassId} {D : va_G} {A : Nat → Prop} {H0 : Heap} {ad0 : List Nat} {Q : State → Prop} {E : ri_E} {r : ri_R} {S : ri_S} {L : List ri_S} {mT : List ri_MT} {y : MethodName} {ret : Option FieldType}
set_option maxHeartbeats 4000000 in
theorem rs_step (hco : ri_clsOK) (hao : ri_arrOK) (hx : p.tables.exec = Jvm.exec) (hb : c.code = cc) (hown : s.vm.findClass y.cls = some m.cls) (hnm : meth.name = y.name) (hts : ∀ w ∈ gU, w.before args s = true) (hK : va_K D vwCl (ri_tys κ) s) (hN : ri_N s) (hE : ri_okE E τ) (hA : ∀ q, H0.size ≤ q → A q) (hrow : ri_rowOK mT y cc nL ret S.1 r) (h : ri_step E rD r S = some L) (hroom : ∀ S' ∈ L, S'.2.2.2.2.1 ≤ n0 + R.cells ∧ S'.2.2.2.2.2 ≤ z0 + R.slots) (k : ∀ S' ∈ L, ri_At p l e R s m args below meth c nL n0 z0 τ κ D A H0 ad0 Q S') : ri_At p l e R s m args below meth c nL n0 z0 τ κ D A H0 ad0 Q S := by
  obtain ⟨hd, ho⟩ := hrow
  obtain ⟨i, len, a, b, v⟩ := r
  cases i
  all_goals first | (cases h; done) | skip
  case aaload =>
    obtain rfl : len = 1 := ho
    exact rs_aald hx hb hK hE rfl hd h k
  case aastore =>
    obtain rfl : len = 1 := ho
    exact rs_aast hx hb hK hE rfl hd h k
  case aload j =>
    obtain ⟨rfl, rfl⟩ : len = 2 ∧ j = a := ho
    exact rs_aload (fun hl kk => lv_aload hx hb hd hl kk) (fun hl kk => lv_aloadN hx hb hd hl kk) h k
  case aload_n j =>
    obtain ⟨rfl, h2⟩ : len = 1 ∧ (j : Nat) = a := ho
    exact rs_aload (fun hl kk => lv_aload_n hx hb hd h2 hl kk) (fun hl kk => lv_aload_nN hx hb hd h2 hl kk) h k
  case anewarray j =>
    obtain ⟨rfl, h4, h6, C, hC, hcl⟩ : len = 3 ∧ 4 ≤ a ∧ a ≤ 6 ∧ ∃ C, ri_ty a = .object C ∧ Cond.classLink y.cls j C ∈ gU := ho
    exact rs_anew hx hb hown hts hK hN hE hA rfl h4 h6 hC hcl hd h hroom k
  case arraylength =>
    obtain rfl : len = 1 := ho
    exact rs_alen hx hb hK rfl hd h k
  case astore j =>
    obtain ⟨rfl, rfl, h3⟩ : len = 2 ∧ j = a ∧ a < nL := ho
    exact rs_astore h3 (fun l1 e1 kk => lv_astore hx hb hd l1 h3 e1 kk) (fun l1 e1 kk => lv_astoreN hx hb hd l1 h3 e1 kk) h k
  case astore_n j =>
    obtain ⟨rfl, h2, h3⟩ : len = 1 ∧ (j : Nat) = a ∧ a < nL := ho
    exact rs_astore h3 (fun l1 e1 kk => lv_astore_n hx hb hd h2 l1 h3 e1 kk) (fun l1 e1 kk => lv_astore_nN hx hb hd h2 l1 h3 e1 kk) h k
  case baload =>
    obtain rfl : len = 1 := ho
    exact rs_bald hx hb hK hE rfl hd h k
  case bastore =>
    obtain rfl : len = 1 := ho
    exact rs_bast hx hb hK hE rfl hd h k
  case bipush n =>
    obtain ⟨rfl, h2⟩ : len = 2 ∧ ((Int8.ofInt n).toInt32).toInt = v := ho
    exact rs_push ⟨_, h2, fun kk => lv_bipush hx hb hd rfl kk⟩ h k
  case dup =>
    obtain rfl : len = 1 := ho
    exact rs_dup hx hb rfl hd h k
  case dup_x1 =>
    obtain rfl : len = 1 := ho
    exact rs_dupx1 hx hb rfl hd h k
  case dup2 =>
    obtain rfl : len = 1 := ho
    exact rs_dup2 hx hb rfl hd h k
  case getfield j =>
    obtain ⟨rfl, C, T, N, h1, h2, h3⟩ : len = 3 ∧ ∃ (C : String) (T : u_T) (N : Nat), vwCl[a]? = some (C, T, N) ∧ b < N ∧ Cond.fieldLink y.cls j (T b).1 (T b).2.1 (T b).2.2.1 ∈ gU := ho
    exact rs_getf hx hb hown hts hK rfl h1 (hco a C T N h1).1 h2 h3 hd h k
  case goto o =>
    obtain ⟨h1, rfl⟩ : (S.1 : Int) + o = (a : Int) ∧ len = 3 := ho
    exact rs_goto hx hb h1 hd h k
  case i2b =>
    obtain rfl : len = 1 := ho
    exact rs_un (g := fun u => u.toInt8.toInt32) (fun hz gu => ri_i2b_ok hE hz gu) (fun kk => lv_i2b hx hb hd rfl kk) h k
  case iadd =>
    obtain rfl : len = 1 := ho
    exact rs_bin (g := fun u v => u + v) (fun hz gu gv => ri_add_ok hE hz gu gv) (by intro _ _ _ _ _ _ u v x y z _ _ _ kk; exact lv_iadd hx hb hd kk) h k
  case iaload =>
    obtain rfl : len = 1 := ho
    exact rs_iald hx hb hK hE rfl hd h k
  case iand =>
    obtain rfl : len = 1 := ho
    exact rs_bin (f := fun _ _ => some ri_top) (r := (.iand, 1, a, b, v)) (g := fun u v => u &&& v) (fun hz gu gv => by cases hz; exact ri_gI_top τ _) (by intro _ _ _ _ _ _ u v x y z _ _ _ kk; exact lv_iand hx hb hd kk) h k
  case iastore =>
    obtain rfl : len = 1 := ho
    exact rs_iast hx hb hK hE rfl hd h k
  case iconst n =>
    obtain ⟨rfl, h2⟩ : len = 1 ∧ (Int32.ofInt n).toInt = v := ho
    exact rs_push ⟨_, h2, fun kk => lv_iconst hx hb hd rfl kk⟩ h k
  case idiv =>
    obtain rfl : len = 1 := ho
    exact rs_bin (g := fun u v => u / v) (fun hz gu gv => (ri_div_ok hE hz gu gv).2) (by intro _ _ _ _ _ _ u v x y z hz gu gv kk; exact lv_idiv hx hb hd (ri_div_ok hE hz gu gv).1 kk) h k
  case if_icmp cnd o =>
    obtain ⟨h1, rfl⟩ : (S.1 : Int) + o = (a : Int) ∧ len = 3 := ho
    exact rs_icmp hx hb hE rfl h1 hd h k
  case ifCond cnd o =>
    obtain ⟨h1, rfl⟩ : (S.1 : Int) + o = (a : Int) ∧ len = 3 := ho
    exact rs_if hx hb hE rfl h1 hd h k
  case iinc j n =>
    obtain ⟨rfl, rfl, h2, h3⟩ : len = 3 ∧ j = a ∧ a < nL ∧ (Int32.ofInt n).toInt = v := ho
    exact rs_iinc hx hb hE rfl h2 h3 hd h k
  case iload j =>
    obtain ⟨rfl, rfl⟩ : len = 2 ∧ j = a := ho
    exact rs_iload (fun hl kk => lv_iload hx hb hd hl kk) h k
  case iload_n j =>
    obtain ⟨rfl, h2⟩ : len = 1 ∧ (j : Nat) = a := ho
    exact rs_iload (fun hl kk => lv_iload_n hx hb hd h2 hl kk) h k
  case imul =>
    obtain rfl : len = 1 := ho
    exact rs_bin (g := fun u v => u * v) (fun hz gu gv => ri_mul_ok hE hz gu gv) (by intro _ _ _ _ _ _ u v x y z _ _ _ kk; exact lv_imul hx hb hd kk) h k
  case ineg =>
    obtain rfl : len = 1 := ho
    exact rs_un (g := fun u => -u) (fun hz gu => ri_neg_ok hE hz gu) (fun kk => lv_ineg hx hb hd kk) h k
  case ior =>
    obtain rfl : len = 1 := ho
    exact rs_bin (g := fun u v => u ||| v) (fun hz gu gv => ri_or_ok hE hz gu gv) (by intro _ _ _ _ _ _ u v x y z _ _ _ kk; exact lv_ior hx hb hd kk) h k
  case ishr =>
    obtain rfl : len = 1 := ho
    exact rs_bin (g := fun u v => u >>> (v &&& 31)) (fun {_ _ _ u _} hz gu gv => ri_shr_ok hE hz gu gv (fun e h0 => by
      have := ri_i32 u
      unfold ri_lo ri_hi at this
      subst e
      rw [ri_ishr31]
      omega) (fun e h0 => by
      have := ri_i32 u
      unfold ri_lo ri_hi at this
      subst e
      rw [ri_ishr31]
      omega)) (by intro _ _ _ _ _ _ u v x y z _ _ _ kk; exact lv_ishr hx hb hd kk) h k
  case istore j =>
    obtain ⟨rfl, rfl, h3⟩ : len = 2 ∧ j = a ∧ a < nL := ho
    exact rs_istore h3 (fun l1 e1 kk => lv_istore hx hb hd l1 h3 e1 kk) h k
  case istore_n j =>
    obtain ⟨rfl, h2, h3⟩ : len = 1 ∧ (j : Nat) = a ∧ a < nL := ho
    exact rs_istore h3 (fun l1 e1 kk => lv_istore_n hx hb hd h2 l1 h3 e1 kk) h k
  case isub =>
    obtain rfl : len = 1 := ho
    exact rs_bin (g := fun u v => u - v) (fun hz gu gv => ri_sub_ok hE hz gu gv) (by intro _ _ _ _ _ _ u v x y z _ _ _ kk; exact lv_isub hx hb hd kk) h k
  case iushr =>
    obtain rfl : len = 1 := ho
    exact rs_bin (g := fun u v => (u.toUInt32 >>> (v.toUInt32 &&& Int32.toUInt32 31)).toInt32) (fun {_ _ _ u _} hz gu gv => ri_shr_ok hE hz gu gv (fun e h0 => by
      subst e
      rw [ri_iushr31, if_neg (by omega)]) (fun e h0 => by
      subst e
      rw [ri_iushr31, if_pos h0])) (by intro _ _ _ _ _ _ u v x y z _ _ _ kk; exact lv_iushr hx hb hd rfl kk) h k
  case ldc j =>
    obtain ⟨rfl, w, hw, h2⟩ : len = 2 ∧ ∃ w : Int32, Cond.constant y.cls j w ∈ gU ∧ w.toInt = v := ho
    exact rs_push ⟨w, h2, fun kk => lv_ldc hx hb hown (hts _ hw) hd kk⟩ h k
  case ldc_w j =>
    obtain ⟨rfl, w, hw, h2⟩ : len = 3 ∧ ∃ w : Int32, Cond.constant y.cls j w ∈ gU ∧ w.toInt = v := ho
    exact rs_push ⟨w, h2, fun kk => lv_ldcw hx hb hown (hts _ hw) hd kk⟩ h k
  case multianewarray j n =>
    obtain ⟨rfl, rfl, hcl⟩ : n = 2 ∧ len = 4 ∧ Cond.classLink y.cls j "[[I" ∈ gU := ho
    exact rs_multi hx hb hown hts hK hN hE hA rfl hcl hao.1 hd h hroom k
  case new j =>
    obtain ⟨rfl, C, T, N, h1, h2⟩ : len = 3 ∧ ∃ (C : String) (T : u_T) (N : Nat), vwCl[a]? = some (C, T, N) ∧ Cond.classLink y.cls j C ∈ gU := ho
    obtain ⟨g1, g2, g3, ty0, df, g4, g5, g6, g7, g8⟩ := hco a C T N h1
    exact rs_new hx hb hown hts hK hA rfl h1 g1 g4 g6 g7 g8 h2 g2 g3 hd h hroom k
  case newarray t =>
    obtain ⟨rfl, h1, h2⟩ : len = 2 ∧ a ≤ 3 ∧ newarray.typeOf t = ri_ty a := ho
    refine rs_newarr hx hb hts hK hE hA rfl h1 h2 ?_ hd h hroom k
    show Cond.arrayClass (ri_ty a) ∈ gU
    rcases (show a = 0 ∨ a = 1 ∨ a = 2 ∨ a = 3 by omega) with rfl | rfl | rfl | rfl
    · exact hao.1
    · exact hao.2.1
    · exact hao.2.2.1
    · exact hao.2.2.2.1
  case pop =>
    obtain rfl : len = 1 := ho
    exact rs_pop hx hb rfl hd h k
  case putfield j =>
    obtain ⟨rfl, C, T, N, ty, h1, h2, h3, h4, h5, h6⟩ : len = 3 ∧ ∃ (C : String) (T : u_T) (N : Nat) (ty : FieldType), vwCl[a]? = some (C, T, N) ∧ b < N ∧ Cond.fieldLink y.cls j (T b).1 (T b).2.1 (T b).2.2.1 ∈ gU ∧ parseFieldDescriptor (T b).2.2.1 = some ty ∧ ri_fty v ty ∧ ((T b).2.2.2 = false ∨ ((T b).2.2.2 = true ∧ y.name = "<init>" ∧ (T b).1 = y.cls)) := ho
    obtain ⟨g1, g2, g3, ty0, df, g4, g5, g6, g7, g8⟩ := hco a C T N h1
    exact rs_putf hx hb hown hts hK hE rfl h1 g1 g4 g5 h2 h4 h5 (h6.imp id (fun q => ⟨q.1, hnm.trans q.2.1, q.2.2⟩)) h3 hd h k
  case sipush n =>
    obtain ⟨rfl, h2⟩ : len = 3 ∧ ((Int16.ofInt n).toInt32).toInt = v := ho
    exact rs_push ⟨_, h2, fun kk => lv_sipush hx hb hd rfl kk⟩ h k
  case tableswitch d lo hi offs =>
    obtain ⟨h1, h2⟩ : 0 ≤ (S.1 : Int) + d ∧ ∀ o ∈ offs.toList, 0 ≤ (S.1 : Int) + o := ho
    exact rs_tsw hx hb hE h1 h2 hd h k
end RI13
