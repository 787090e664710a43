/-! The JDK's own methods over lists -/
def rj_Met (l : Launch) (κ : Nat → ClassId) (D : va_G) (d : Nat) (y : MethodName) (cc : ByteArray) (nL : Nat) (ret : Option FieldType) (P : List Value → Prop) (Qv : List Value → Option Value → Prop) : Prop := ∀ (ws : va_W) (sz : Nat) (vs : List Value), P vs → Met l y (.code y cc nL ret :: gU) (ri_rm d 0 0) (rc_Pc κ D ws sz vs) (rc_Q D ws sz (fun ov ws' => ws' = ws ∧ Qv vs ov)) 0 0 (va_A ws sz)
section RJ
variable {p : Program} {l : Launch} {e : Env} {s : State} {m : MethodId} {args : Array Value} {below : List Frame} {meth : Method} {c : Code} {y : MethodName} {cc : ByteArray} {nL : Nat} {ret : Option FieldType} {κ : Nat → ClassId} {D : va_G} {ws w : va_W} {Q : State → Prop} {d pc : Nat} {V : List (Option Value)} {st : List Value}
theorem rj_body {P : List Value → Prop} {Qv : List Value → Option Value → Prop} (t3 : plainName y.cls = true) (hl : ∀ vs, P vs → (rc_en vs).length ≤ nL) (body : ∀ (ws : va_W) (vs : List Value), P vs → ∀ (p : Program) (e : Env) (s : State) (m : MethodId) (below : List Frame) (meth : Method) (c : Code), rc_Bd p s m vs.toArray meth c y cc nL ret κ D ws → rc_AB p l e s m vs.toArray below meth c nL D ws (MQ below (rc_Q D ws s.heap.size (fun ov ws' => ws' = ws ∧ Qv vs ov)) vs.toArray s 0 0 (va_A ws s.heap.size)) d (0, rc_en vs, [], ws)) : rj_Met l κ D d y cc nL ret P Qv := by
  intro ws sz vs hpre
  refine Met.ofW (cc := cc) (maxL := nL) (ret := ret) t3 rfl ?_
  intro p e s m args below meth c s₁ B hml hv0
  obtain ⟨rfl, hsz, hP, hK, hD0, hN, hZ⟩ := hv0
  have hts0 := atoms_spec (ws := .code y cc nL ret :: gU) B.pre
  have hBd : rc_Bd p s m vs.toArray meth c y cc nL ret κ D ws := ⟨B.exec, B.bytes, hml, findClass_of_methodNamed B.named, (name_of_methodNamed B.named B.method).1, fun w hw => hts0 w (List.mem_cons_of_mem _ hw), hK, hN, B.returns, B.notSynchronized, hZ⟩
  subst hsz
  rw [lg_entry_eq]
  refine body ws vs hpre p e s m below meth c hBd s.heap [] _ hP hD0.self va_S.rf ?_
  refine ⟨_, lv_entry vs (by rw [rc_en_len]; exact hl vs hpre), fun i v hi hv => ?_⟩
  have := rc_en_mem vs 0 i v hv
  rw [Nat.zero_add] at this
  exact this
theorem rj_stp (B : rc_Bd p s m args meth c y cc nL ret κ D ws) (hd : 1 ≤ d) {r : ri_R} {a : rc_C} {K : rc_C → Prop} (hrow : ri_rowOK mT y cc nL ret a.1 r) (h : rc_wp κ r a K) (k : ∀ b, K b → rc_AB p l e s m args below meth c nL D ws Q d b) : rc_AB p l e s m args below meth c nL D ws Q d a := by
  obtain ⟨hx, hb, hml, hown, hnm, hts, hK, hN, -, -, -⟩ := B
  exact rc_sound co_all ao_all hx hb hml hown hnm hts hK hd (show 100 ≤ 100 * d by omega) hrow h k
theorem rj_iload_n (B : rc_Bd p s m args meth c y cc nL ret κ D ws) (hd : 1 ≤ d) {i : Nat} {j : Fin 4} {x : Int32} (hdec : decode cc pc = .ok (.iload_n j, 1)) (hj : (j : Nat) = i) (hV : V[i]? = some (some (.int x))) (k : rc_AB p l e s m args below meth c nL D ws Q d (pc + 1, V, .int x :: st, w)) : rc_AB p l e s m args below meth c nL D ws Q d (pc, V, st, w) := rj_stp B hd (r := (.iload_n j, 1, i, 0, 0)) (K := fun b => b = (pc + 1, V, .int x :: st, w)) ⟨hdec, rfl, hj⟩ ⟨by have := j.isLt; show i < 20; omega, x, hV, rfl⟩ (fun b hb => by rw [hb]; exact k)
theorem rj_aload_n (B : rc_Bd p s m args meth c y cc nL ret κ D ws) (hd : 1 ≤ d) {i q : Nat} {j : Fin 4} (hdec : decode cc pc = .ok (.aload_n j, 1)) (hj : (j : Nat) = i) (hV : V[i]? = some (some (.ref q))) (k : rc_AB p l e s m args below meth c nL D ws Q d (pc + 1, V, .ref q :: st, w)) : rc_AB p l e s m args below meth c nL D ws Q d (pc, V, st, w) := rj_stp B hd (r := (.aload_n j, 1, i, 0, 0)) (K := fun b => b = (pc + 1, V, .ref q :: st, w)) ⟨hdec, rfl, hj⟩ ⟨by have := j.isLt; show i < 20; omega, q, hV, rfl⟩ (fun b hb => by rw [hb]; exact k)
theorem rj_iload (B : rc_Bd p s m args meth c y cc nL ret κ D ws) (hd : 1 ≤ d) {i : Nat} {x : Int32} (hdec : decode cc pc = .ok (.iload i, 2)) (hi : i < 20) (hV : V[i]? = some (some (.int x))) (k : rc_AB p l e s m args below meth c nL D ws Q d (pc + 2, V, .int x :: st, w)) : rc_AB p l e s m args below meth c nL D ws Q d (pc, V, st, w) := rj_stp B hd (r := (.iload i, 2, i, 0, 0)) (K := fun b => b = (pc + 2, V, .int x :: st, w)) ⟨hdec, rfl, rfl⟩ ⟨hi, x, hV, rfl⟩ (fun b hb => by rw [hb]; exact k)
theorem rc_sto_set {k : Nat} {x : Int32} (h : ∀ (i : Nat) (v : Value), i + 1 = k → V[i]? = some (some v) → ¬ v.category = 2) : rc_sto V (V.set k (some (.int x))) k (.int x) := fun i v hv => by
  by_cases hik : k = i
  · subst hik
    rcases Nat.lt_or_ge k V.length with g | g
    · rw [List.getElem?_set_self g] at hv
      cases hv
      exact Or.inl ⟨rfl, rfl⟩
    · rw [List.getElem?_eq_none (by simpa using g)] at hv
      cases hv
  · rw [List.getElem?_set_ne hik] at hv
    exact Or.inr ⟨fun q => hik q.symm, hv, fun q => h i v q.1 hv q.2, fun q => by cases q.1⟩
theorem rj_istore (B : rc_Bd p s m args meth c y cc nL ret κ D ws) (hd : 1 ≤ d) {i : Nat} {x : Int32} (hdec : decode cc pc = .ok (.istore i, 2)) (hi : i < nL) (h : ∀ (j : Nat) (v : Value), j + 1 = i → V[j]? = some (some v) → ¬ v.category = 2) (k : rc_AB p l e s m args below meth c nL D ws Q d (pc + 2, V.set i (some (.int x)), st, w)) : rc_AB p l e s m args below meth c nL D ws Q d (pc, V, .int x :: st, w) := rj_stp B hd (r := (.istore i, 2, i, 0, 0)) (K := fun b => b = (pc + 2, V.set i (some (.int x)), st, w)) ⟨hdec, rfl, rfl, hi⟩ ⟨x, st, _, rfl, rc_sto_set h, rfl⟩ (fun b hb => by rw [hb]; exact k)
theorem rj_istore_n (B : rc_Bd p s m args meth c y cc nL ret κ D ws) (hd : 1 ≤ d) {i : Nat} {j : Fin 4} {x : Int32} (hdec : decode cc pc = .ok (.istore_n j, 1)) (hj : (j : Nat) = i) (hi : i < nL) (h : ∀ (j : Nat) (v : Value), j + 1 = i → V[j]? = some (some v) → ¬ v.category = 2) (k : rc_AB p l e s m args below meth c nL D ws Q d (pc + 1, V.set i (some (.int x)), st, w)) : rc_AB p l e s m args below meth c nL D ws Q d (pc, V, .int x :: st, w) := rj_stp B hd (r := (.istore_n j, 1, i, 0, 0)) (K := fun b => b = (pc + 1, V.set i (some (.int x)), st, w)) ⟨hdec, rfl, hj, hi⟩ ⟨x, st, _, rfl, rc_sto_set h, rfl⟩ (fun b hb => by rw [hb]; exact k)
theorem rj_iinc (B : rc_Bd p s m args meth c y cc nL ret κ D ws) (hd : 1 ≤ d) {i : Nat} {n : Int} {x : Int32} (hdec : decode cc pc = .ok (.iinc i n, 3)) (hi : i < nL) (h20 : i < 20) (hV : V[i]? = some (some (.int x))) (h : ∀ (j : Nat) (v : Value), j + 1 = i → V[j]? = some (some v) → ¬ v.category = 2) (k : rc_AB p l e s m args below meth c nL D ws Q d (pc + 3, V.set i (some (.int (x + Int32.ofInt n))), st, w)) : rc_AB p l e s m args below meth c nL D ws Q d (pc, V, st, w) := rj_stp B hd (r := (.iinc i n, 3, i, 0, (Int32.ofInt n).toInt)) (K := fun b => b = (pc + 3, V.set i (some (.int (x + Int32.ofInt n))), st, w)) ⟨hdec, rfl, rfl, hi, rfl⟩ ⟨h20, x, _, hV, rc_sto_set h, rfl⟩ (fun b hb => by rw [hb]; exact k)
theorem rj_iconst (B : rc_Bd p s m args meth c y cc nL ret κ D ws) (hd : 1 ≤ d) {n : Int} {z : Int32} (hdec : decode cc pc = .ok (.iconst n, 1)) (hz : Int32.ofInt n = z) (k : rc_AB p l e s m args below meth c nL D ws Q d (pc + 1, V, .int z :: st, w)) : rc_AB p l e s m args below meth c nL D ws Q d (pc, V, st, w) := rj_stp B hd (r := (.iconst n, 1, 0, 0, z.toInt)) (K := fun b => b = (pc + 1, V, .int z :: st, w)) ⟨hdec, rfl, by rw [hz]⟩ ⟨z, rfl, rfl⟩ (fun b hb => by rw [hb]; exact k)
theorem rj_sipush (B : rc_Bd p s m args meth c y cc nL ret κ D ws) (hd : 1 ≤ d) {n : Int} {z : Int32} (hdec : decode cc pc = .ok (.sipush n, 3)) (hz : (Int16.ofInt n).toInt32 = z) (k : rc_AB p l e s m args below meth c nL D ws Q d (pc + 3, V, .int z :: st, w)) : rc_AB p l e s m args below meth c nL D ws Q d (pc, V, st, w) := rj_stp B hd (r := (.sipush n, 3, 0, 0, z.toInt)) (K := fun b => b = (pc + 3, V, .int z :: st, w)) ⟨hdec, rfl, by rw [hz]⟩ ⟨z, rfl, rfl⟩ (fun b hb => by rw [hb]; exact k)
theorem rj_ishr (B : rc_Bd p s m args meth c y cc nL ret κ D ws) (hd : 1 ≤ d) {u v : Int32} (hdec : decode cc pc = .ok (.ishr, 1)) (k : rc_AB p l e s m args below meth c nL D ws Q d (pc + 1, V, .int (u >>> (v &&& 31)) :: st, w)) : rc_AB p l e s m args below meth c nL D ws Q d (pc, V, .int v :: .int u :: st, w) := rj_stp B hd (r := (.ishr, 1, 0, 0, 0)) (K := fun b => b = (pc + 1, V, .int (u >>> (v &&& 31)) :: st, w)) ⟨hdec, rfl⟩ ⟨u, v, st, rfl, rfl⟩ (fun b hb => by rw [hb]; exact k)
theorem rj_iand (B : rc_Bd p s m args meth c y cc nL ret κ D ws) (hd : 1 ≤ d) {u v : Int32} (hdec : decode cc pc = .ok (.iand, 1)) (k : rc_AB p l e s m args below meth c nL D ws Q d (pc + 1, V, .int (u &&& v) :: st, w)) : rc_AB p l e s m args below meth c nL D ws Q d (pc, V, .int v :: .int u :: st, w) := rj_stp B hd (r := (.iand, 1, 0, 0, 0)) (K := fun b => b = (pc + 1, V, .int (u &&& v) :: st, w)) ⟨hdec, rfl⟩ ⟨u, v, st, rfl, rfl⟩ (fun b hb => by rw [hb]; exact k)
theorem rj_i2c (B : rc_Bd p s m args meth c y cc nL ret κ D ws) (hd : 1 ≤ d) {u : Int32} (hdec : decode cc pc = .ok (.i2c, 1)) (k : rc_AB p l e s m args below meth c nL D ws Q d (pc + 1, V, .int ((u.toUInt32 % 65536).toInt32) :: st, w)) : rc_AB p l e s m args below meth c nL D ws Q d (pc, V, .int u :: st, w) := rj_stp B hd (r := (.i2c, 1, 0, 0, 0)) (K := fun b => b = (pc + 1, V, .int ((u.toUInt32 % 65536).toInt32) :: st, w)) ⟨hdec, rfl⟩ ⟨u, st, rfl, rfl⟩ (fun b hb => by rw [hb]; exact k)
theorem rj_i2b (B : rc_Bd p s m args meth c y cc nL ret κ D ws) (hd : 1 ≤ d) {u : Int32} (hdec : decode cc pc = .ok (.i2b, 1)) (k : rc_AB p l e s m args below meth c nL D ws Q d (pc + 1, V, .int (u.toInt8.toInt32) :: st, w)) : rc_AB p l e s m args below meth c nL D ws Q d (pc, V, .int u :: st, w) := rj_stp B hd (r := (.i2b, 1, 0, 0, 0)) (K := fun b => b = (pc + 1, V, .int (u.toInt8.toInt32) :: st, w)) ⟨hdec, rfl⟩ ⟨u, st, rfl, rfl⟩ (fun b hb => by rw [hb]; exact k)
theorem rj_pop (B : rc_Bd p s m args meth c y cc nL ret κ D ws) (hd : 1 ≤ d) {u : Int32} (hdec : decode cc pc = .ok (.pop, 1)) (k : rc_AB p l e s m args below meth c nL D ws Q d (pc + 1, V, st, w)) : rc_AB p l e s m args below meth c nL D ws Q d (pc, V, .int u :: st, w) := rj_stp B hd (r := (.pop, 1, 0, 0, 0)) (K := fun b => b = (pc + 1, V, st, w)) ⟨hdec, rfl⟩ ⟨_, st, rfl, rfl, rfl⟩ (fun b hb => by rw [hb]; exact k)
theorem rj_goto (B : rc_Bd p s m args meth c y cc nL ret κ D ws) (hd : 1 ≤ d) {o : Int} {t : Nat} (hdec : decode cc pc = .ok (.goto o, 3)) (ht : (pc : Int) + o = (t : Int)) (k : rc_AB p l e s m args below meth c nL D ws Q d (t, V, st, w)) : rc_AB p l e s m args below meth c nL D ws Q d (pc, V, st, w) := rj_stp B hd (r := (.goto o, 3, t, 0, 0)) (K := fun b => b = (t, V, st, w)) ⟨hdec, ht, rfl⟩ rfl (fun b hb => by rw [hb]; exact k)
theorem rj_if (B : rc_Bd p s m args meth c y cc nL ret κ D ws) (hd : 1 ≤ d) {cnd : Jvm.ClassFile.Cond} {o : Int} {t : Nat} {u : Int32} (hdec : decode cc pc = .ok (.ifCond cnd o, 3)) (ht : (pc : Int) + o = (t : Int)) (k1 : ri_hold cnd u.toInt 0 → rc_AB p l e s m args below meth c nL D ws Q d (t, V, st, w)) (k2 : ¬ ri_hold cnd u.toInt 0 → rc_AB p l e s m args below meth c nL D ws Q d (pc + 3, V, st, w)) : rc_AB p l e s m args below meth c nL D ws Q d (pc, V, .int u :: st, w) := by
  by_cases hc : ri_hold cnd u.toInt 0
  · exact rj_stp B hd (r := (.ifCond cnd o, 3, t, 0, 0)) (K := fun b => b = (t, V, st, w)) ⟨hdec, ht, rfl⟩ ⟨u, st, rfl, Or.inl ⟨hc, rfl⟩⟩ (fun b hb => by rw [hb]; exact k1 hc)
  · exact rj_stp B hd (r := (.ifCond cnd o, 3, t, 0, 0)) (K := fun b => b = (pc + 3, V, st, w)) ⟨hdec, ht, rfl⟩ ⟨u, st, rfl, Or.inr ⟨hc, rfl⟩⟩ (fun b hb => by rw [hb]; exact k2 hc)
theorem rj_icmp (B : rc_Bd p s m args meth c y cc nL ret κ D ws) (hd : 1 ≤ d) {cnd : Jvm.ClassFile.Cond} {o : Int} {t : Nat} {u v : Int32} (hdec : decode cc pc = .ok (.if_icmp cnd o, 3)) (ht : (pc : Int) + o = (t : Int)) (k1 : ri_hold cnd u.toInt v.toInt → rc_AB p l e s m args below meth c nL D ws Q d (t, V, st, w)) (k2 : ¬ ri_hold cnd u.toInt v.toInt → rc_AB p l e s m args below meth c nL D ws Q d (pc + 3, V, st, w)) : rc_AB p l e s m args below meth c nL D ws Q d (pc, V, .int v :: .int u :: st, w) := by
  by_cases hc : ri_hold cnd u.toInt v.toInt
  · exact rj_stp B hd (r := (.if_icmp cnd o, 3, t, 0, 0)) (K := fun b => b = (t, V, st, w)) ⟨hdec, ht, rfl⟩ ⟨u, v, st, rfl, Or.inl ⟨hc, rfl⟩⟩ (fun b hb => by rw [hb]; exact k1 hc)
  · exact rj_stp B hd (r := (.if_icmp cnd o, 3, t, 0, 0)) (K := fun b => b = (pc + 3, V, st, w)) ⟨hdec, ht, rfl⟩ ⟨u, v, st, rfl, Or.inr ⟨hc, rfl⟩⟩ (fun b hb => by rw [hb]; exact k2 hc)
theorem rj_gets (B : rc_Bd p s m args meth c y cc nL ret κ D ws) {j : Nat} {C n ds : String} {v : Value} (hZ : va_Z C n ds v (va_A ws s.heap.size) s s.heap) (hlink : Cond.fieldLink y.cls j C n ds ∈ gU) (hdec : decode cc pc = .ok (.getstatic j, 3)) (k : rc_AB p l e s m args below meth c nL D ws Q d (pc + 3, V, v :: st, w)) : rc_AB p l e s m args below meth c nL D ws Q d (pc, V, st, w) := by
  obtain ⟨hx, hb, hml, hown, hnm, hts, hK, hN, -, -, -⟩ := B
  intro H locs ls hP hD hS hL
  exact va_gets hx hb hZ hS hown (hts _ hlink) (fun _ g => g) hdec (k H locs ls hP hD hS hL)
theorem rj_getS (B : rc_Bd p s m args meth c y cc nL ret κ D ws) {j q : Nat} {n ds : String} {v : Value} (hE : va_OF "java/lang/String" n ds v q (va_A ws s.heap.size) s s.heap) (hlink : Cond.fieldLink y.cls j "java/lang/String" n ds ∈ gU) (hdec : decode cc pc = .ok (.getfield j, 3)) (k : rc_AB p l e s m args below meth c nL D ws Q d (pc + 3, V, v :: st, w)) : rc_AB p l e s m args below meth c nL D ws Q d (pc, V, .ref q :: st, w) := by
  obtain ⟨hx, hb, hml, hown, hnm, hts, hK, hN, -, -, -⟩ := B
  intro H locs ls hP hD hS hL
  exact vk_getf hx hb hE hS hown (hts _ hlink) (fun _ g => g) hdec (k H locs ls hP hD hS hL)
theorem rj_ldcS (B : rc_Bd p s m args meth c y cc nL ret κ D ws) {j q : Nat} {tx : String} (hR : vk_R y.cls j tx q s) (hdec : decode cc pc = .ok (.ldc j, 2)) (k : rc_AB p l e s m args below meth c nL D ws Q d (pc + 2, V, .ref q :: st, w)) : rc_AB p l e s m args below meth c nL D ws Q d (pc, V, st, w) := by
  obtain ⟨hx, hb, hml, hown, hnm, hts, hK, hN, -, -, -⟩ := B
  intro H locs ls hP hD hS hL
  exact va_ldcS hx hb hown hR hdec (k H locs ls hP hD hS hL)
theorem rj_alen (B : rc_Bd p s m args meth c y cc nL ret κ D ws) {t N : Nat} {f : Nat → Value} (hT : va_T .byte t N f (va_A ws s.heap.size) s s.heap) (hdec : decode cc pc = .ok (.arraylength, 1)) (k : rc_AB p l e s m args below meth c nL D ws Q d (pc + 1, V, .int (Int32.ofNat N) :: st, w)) : rc_AB p l e s m args below meth c nL D ws Q d (pc, V, .ref t :: st, w) := by
  obtain ⟨hx, hb, hml, hown, hnm, hts, hK, hN, -, -, -⟩ := B
  intro H locs ls hP hD hS hL
  exact va_tlen hx hb hT hS rfl hdec (k H locs ls hP hD hS hL)
theorem rj_bald (B : rc_Bd p s m args meth c y cc nL ret κ D ws) {t N : Nat} {f : Nat → Value} (hT : va_T .byte t N f (va_A ws s.heap.size) s s.heap) {i z : Int32} (hi0 : 0 ≤ i.toInt) (hi : i.toInt < N) (hz : f i.toNatClampNeg = .int z) (hdec : decode cc pc = .ok (.baload, 1)) (k : rc_AB p l e s m args below meth c nL D ws Q d (pc + 1, V, .int z :: st, w)) : rc_AB p l e s m args below meth c nL D ws Q d (pc, V, .int i :: .ref t :: st, w) := by
  obtain ⟨hx, hb, hml, hown, hnm, hts, hK, hN, -, -, -⟩ := B
  intro H locs ls hP hD hS hL
  refine va_tb hx hb hT hS (fun q => ?_) hz hdec (k H locs ls hP hD hS hL)
  have h0 : ¬ i < 0 := fun g => by
    have := Int32.lt_iff_toInt_lt.mp g
    have e : (0 : Int32).toInt = 0 := by decide
    omega
  have := Int32.cast_toNatClampNeg i (by
    rw [Int32.le_iff_toInt_le]
    have e : (0 : Int32).toInt = 0 := by decide
    omega)
  rcases q with q | q
  · exact h0 q
  · omega
theorem rj_retn {ty : FieldType} (B : rc_Bd p s m args meth c y cc nL (some ty) κ D ws) {Qv : Option Value → va_W → Prop} {a : rc_C} {z : Int32} (hn : narrow ty (.int z) = .int z) (hd : decode cc a.1 = .ok (.ireturn, 1)) (hst : a.2.2.1 = [.int z]) (had : ri_ad a.2.2.2 = ri_ad ws) (hQ : Qv (some (.int z)) a.2.2.2) : rc_AB p l e s m args below meth c nL D ws (MQ below (rc_Q D ws s.heap.size Qv) args s 0 0 (va_A ws s.heap.size)) d a := by
  obtain ⟨hx, hb, hml, hown, hnm, hts, hK, hN, hr, hlocks, -⟩ := B
  intro H locs ls hP hD hS hL
  rw [hst]
  exact W.zret (ty := ty) hx hb hr hn (fun t ht hW => ⟨⟨a.2.2.2, some (.int z), rfl, hQ, had, by rw [ht]; exact hP, hD⟩, hS.F ht⟩) hS.2.2 hd
theorem rj_callS (B : rc_Bd p s m args meth c y cc nL ret κ D ws) {d1 j np nL' : Nat} {yy : MethodName} {cc' : ByteArray} {ret' : Option FieldType} {P : List Value → Prop} {Qv : List Value → Option Value → Prop} (hd1 : d1 + 1 ≤ d) (hn : nL' ≤ 60) (u1 : Cond.code yy cc' nL' ret' ∈ gU) (u2 : Cond.initialized yy.cls ∈ gU) (y4 : Cond.methodLink y.cls j yy ∈ gU) (y5 : Cond.static yy ∈ gU) (y7 : ri_yOK yy np) {As rst : List Value} (hdec : decode cc pc = .ok (.invokestatic j, 3)) (hst : st = As.reverse ++ rst) (hAl : As.length = np) (h4 : rst.length ≤ 4) (met : rj_Met l κ D d1 yy cc' nL' ret' P Qv) (hpre : P As) (kk : ∀ ov : Option Value, Qv As ov → rc_AB p l e s m args below meth c nL D ws Q d (pc + 3, V, ov.toList ++ rst, w)) : rc_AB p l e s m args below meth c nL D ws Q d (pc, V, st, w) := by
  obtain ⟨hx, hb, hml, hown, hnm, hts, hK, hN, -, -, hZ⟩ := B
  intro H locs ls hP hD hS hL
  have hcat := ri_cats rst
  have hFc : ∀ x, va_A w H.size x → va_A ws s.heap.size x := fun x hx0 => by
    rcases hx0 with ⟨k, e0, hk⟩ | hx0
    · exact hD.2 k _ hk
    · exact Or.inr (Nat.le_trans hS.1 hx0)
  obtain ⟨lv, l1, l2⟩ := id hL
  have hgW : 2 * (F0 m pc ls st).monitorRoom + (rst.map fun v => v.category).sum ≤ 8 := lv_room (by omega)
  refine ri_callR (va_runS (Ts := gU) (As := As) (rest := rst) (n := np) ⟨hx, hb, hml, hown, hts⟩ (met w H.size As hpre) ⟨callB_of np hts (gU_in u1 gU (fun _ g => g)) rfl rfl rfl (hts _ u2) (hts _ y4) y7 ⟨hd1, by show 8 + (nL' + 11) + 100 * d1 ≤ 100 * d; omega⟩, hts _ y5⟩ ⟨fun a U g mk q => by
    obtain ⟨q0, q1, qP, qK, qD, qN, qZ⟩ := q
    exact ⟨q0, q1, qP, va_K.moved (u := U) (U := U.calling g mk a) (Vm.Alike.refl U.vm) qK, qD, ri_N_same rfl qN, rc_Z_moved rfl rfl qZ⟩, fun U hU hW => ⟨rfl, by rw [hU], by rw [hU]; exact hP, va_K.moved hW.alike hK, hD.weaken (fun _ _ _ _ => trivial), ri_N_warm hW hN, rc_Z_call hZ hS hFc hU hW⟩⟩ rfl hAl l1.1 hst hgW hdec ⟨Nat.le_refl _, Nat.le_refl _⟩) (fun v st₀ t0 L h0 hLf hQ => ?_)
  obtain ⟨⟨ws', ov, ev, ⟨rfl, m3⟩, m5, m6, m7⟩, m9⟩ := hQ
  cases ev
  exact kk v m3 t0.heap (locs ++ L) ls m6 (m7.weaken (fun _ _ _ g => hFc _ g)) (ri_S_after hS m9 h0 hFc hLf) hL
theorem rj_callV (B : rc_Bd p s m args meth c y cc nL ret κ D ws) {d1 j np nL' i : Nat} {yy : MethodName} {cc' : ByteArray} {ret' : Option FieldType} {P : List Value → Prop} {Qv : List Value → Option Value → Prop} (hi : i < 2) (hd1 : d1 + 1 ≤ d) (hn : nL' ≤ 60) (hyy : yy.cls = "java/lang/String") (u1 : Cond.code yy cc' nL' ret' ∈ gU) (u2 : Cond.initialized yy.cls ∈ gU) (y4 : Cond.methodLink y.cls j yy ∈ gU) (y5 : Cond.instanceMethod yy ∈ gU) (y6 : Cond.selects yy.cls yy yy ∈ gU) (y7 : ri_yOK yy np) {As rst : List Value} (hdec : decode cc pc = .ok (.invokevirtual j, 3)) (hst : st = As.reverse ++ .ref (D.2 100 i) :: rst) (hAl : As.length = np) (h4 : rst.length ≤ 4) (met : rj_Met l κ D d1 yy cc' nL' ret' P Qv) (hpre : P (.ref (D.2 100 i) :: As)) (kk : ∀ ov : Option Value, Qv (.ref (D.2 100 i) :: As) ov → rc_AB p l e s m args below meth c nL D ws Q d (pc + 3, V, ov.toList ++ rst, w)) : rc_AB p l e s m args below meth c nL D ws Q d (pc, V, st, w) := by
  obtain ⟨hx, hb, hml, hown, hnm, hts, hK, hN, -, -, hZ⟩ := B
  intro H locs ls hP hD hS hL
  have hcat := ri_cats rst
  have hFc : ∀ x, va_A w H.size x → va_A ws s.heap.size x := fun x hx0 => by
    rcases hx0 with ⟨k, e0, hk⟩ | hx0
    · exact hD.2 k _ hk
    · exact Or.inr (Nat.le_trans hS.1 hx0)
  obtain ⟨lv, l1, l2⟩ := id hL
  have hgW : 2 * (F0 m pc ls st).monitorRoom + (rst.map fun v => v.category).sum ≤ 8 := lv_room (by omega)
  refine ri_callR (va_runV (Ts := gU) (C := yy.cls) (b := D.2 100 i) (As := As) (rest := rst) (n := np) ⟨hx, hb, hml, hown, hts⟩ (met w H.size (.ref (D.2 100 i) :: As) hpre) ⟨callB_of np hts (gU_in u1 gU (fun _ g => g)) rfl rfl rfl (hts _ u2) (hts _ y4) y7 ⟨hd1, by show 8 + (nL' + 11) + 100 * d1 ≤ 100 * d; omega⟩, hts _ y5, hts _ y6⟩ ⟨fun a U g mk q => by
    obtain ⟨q0, q1, qP, qK, qD, qN, qZ⟩ := q
    exact ⟨q0, q1, qP, va_K.moved (u := U) (U := U.calling g mk a) (Vm.Alike.refl U.vm) qK, qD, ri_N_same rfl qN, rc_Z_moved rfl rfl qZ⟩, by rw [hyy]; exact vk_recv hZ.1 hi hS, fun U hU hW => ⟨rfl, by rw [hU], by rw [hU]; exact hP, va_K.moved hW.alike hK, hD.weaken (fun _ _ _ _ => trivial), ri_N_warm hW hN, rc_Z_call hZ hS hFc hU hW⟩⟩ rfl hAl l1.1 hst hgW hdec ⟨Nat.le_refl _, Nat.le_refl _⟩) (fun v st₀ t0 L h0 hLf hQ => ?_)
  obtain ⟨⟨ws', ov, ev, ⟨rfl, m3⟩, m5, m6, m7⟩, m9⟩ := hQ
  cases ev
  exact kk v m3 t0.heap (locs ++ L) ls m6 (m7.weaken (fun _ _ _ g => hFc _ g)) (ri_S_after hS m9 h0 hFc hLf) hL
end RJ
