/-! Runs put together: segments, ends -/
noncomputable def ri_k1 (f : ri_I → ri_I → Bool) (s : ri_S) (o : Option (List ri_O)) : Bool := match o with
  | some (.inr S :: []) => ri_fS f S s
  | _ => false
theorem ri_k1_ok {f : ri_I → ri_I → Bool} {s : ri_S} {o : Option (List ri_O)} (h : ri_k1 f s o = true) : ∃ S, o = some [.inr S] ∧ ri_fS f S s = true := by
  rcases o with _ | _ | ⟨q | S, _ | ⟨_, _⟩⟩
  · cases h
  · cases h
  · cases h
  · cases h
  · exact ⟨S, rfl, h⟩
  · cases h
noncomputable def ri_k2 (f : ri_I → ri_I → Bool) (s : ri_S) (g : ri_S → Option (List ri_O)) (o : Option (List ri_O)) : Bool := match o with
  | some (.inr S :: []) => cond (Nat.beq S.2.2.2.2.1 0) (cond (Nat.beq S.2.2.2.2.2 0) (ri_k1 f s (g S)) false) false
  | _ => false
theorem ri_k2_ok {f : ri_I → ri_I → Bool} {s : ri_S} {g : ri_S → Option (List ri_O)} {o : Option (List ri_O)} (h : ri_k2 f s g o = true) : ∃ S, o = some [.inr S] ∧ S.2.2.2.2.1 = 0 ∧ S.2.2.2.2.2 = 0 ∧ ri_k1 f s (g S) = true := by
  rcases o with _ | _ | ⟨q | S, _ | ⟨_, _⟩⟩
  · cases h
  · cases h
  · cases h
  · cases h
  · have h : cond (Nat.beq S.2.2.2.2.1 0) (cond (Nat.beq S.2.2.2.2.2 0) (ri_k1 f s (g S)) false) false = true := h
    cases c1 : Nat.beq S.2.2.2.2.1 0 with
    | false => rw [c1] at h; cases h
    | true =>
      cases c2 : Nat.beq S.2.2.2.2.2 0 with
      | false => rw [c1, c2] at h; cases h
      | true =>
        rw [c1, c2] at h
        exact ⟨S, rfl, Nat.eq_of_beq_eq_true c1, Nat.eq_of_beq_eq_true c2, h⟩
  · cases h
/-- one end: this answer, these cells, nothing made -/
def ri_kx (f : ri_I → ri_I → Bool) (a : Option ri_V) (x : Option ri_I) : Bool := match a with
    | none => (match x with
      | none => true
      | some _ => false)
    | some (.inl z) => (match x with
      | none => false
      | some x => f z x)
    | _ => false
noncomputable def ri_ko (f : ri_I → ri_I → Bool) (x : Option ri_I) (h : List ri_C) (o : Option (List ri_O)) : Bool := match o with
  | some (.inl q :: []) => cond (Nat.beq q.2.2.1 0) (cond (Nat.beq q.2.2.2 0) (cond (ri_lall (ri_fC f) q.2.1 h) (ri_kx f q.1 x) false) false) false
  | _ => false
theorem ri_ko_ok {f : ri_I → ri_I → Bool} {x : Option ri_I} {h : List ri_C} {o : Option (List ri_O)} (g : ri_ko f x h o = true) : ∃ (a : Option ri_V) (h' : List ri_C), o = some [.inl (a, h', 0, 0)] ∧ ri_lall (ri_fC f) h' h = true ∧ ((a = none ∧ x = none) ∨ ∃ z x', a = some (.inl z) ∧ x = some x' ∧ f z x' = true) := by
  rcases o with _ | _ | ⟨q | q, _ | ⟨_, _⟩⟩
  · cases g
  · cases g
  · obtain ⟨a, h', N', Z'⟩ := q
    replace g : cond (Nat.beq N' 0) (cond (Nat.beq Z' 0) (cond (ri_lall (ri_fC f) h' h) (ri_kx f a x) false) false) false = true := g
    cases c1 : Nat.beq N' 0 with
    | false => rw [c1] at g; cases g
    | true =>
      cases c2 : Nat.beq Z' 0 with
      | false => rw [c1, c2] at g; cases g
      | true =>
        cases c3 : ri_lall (ri_fC f) h' h with
        | false => rw [c1, c2, c3] at g; cases g
        | true =>
          rw [c1, c2, c3] at g
          have e1 := Nat.eq_of_beq_eq_true c1
          have e2 := Nat.eq_of_beq_eq_true c2
          subst e1
          subst e2
          refine ⟨a, h', rfl, c3, ?_⟩
          rcases a with _ | z | z
          · rcases x with _ | x
            · exact Or.inl ⟨rfl, rfl⟩
            · cases g
          · rcases x with _ | x
            · cases g
            · exact Or.inr ⟨z, x, rfl, rfl, g⟩
          · cases g
  · cases g
  · cases g
  · cases g
section RI29f
variable {p : Program} {l : Launch} {e : Env} {s : State} {m : MethodId} {args : Array Value} {below : List Frame} {meth : Method} {c : Code} {y : MethodName} {cc : ByteArray} {nL : Nat} {ret : Option FieldType} {κ : Nat → ClassId} {D : va_G} {ws : va_W} {Q : State → Prop} {τ τ' : Nat → Int} {d mi : Nat} {E : ri_E} {stop : Nat × Nat} {n : Nat} {S : ri_S} {f : ri_I → ri_I → Bool}
theorem AB_k1 (hm : mT[mi]? = some (y, cc, nL, ret)) (B : ri_Bd p s m args meth c y cc nL ret κ D) (hE : ri_okE E τ) (hf : ∀ x y, f x y = true → ∀ v, ri_gI τ x v → ri_gI τ' y v) {sl : ri_S} (hz : sl.2.2.2.2.1 = 0 ∧ sl.2.2.2.2.2 = 0) (h : ri_k1 f sl (ri_run E rD mt stop n d mi S) = true) (k : ri_AB p l e s m args below meth c nL κ D ws Q d τ' sl) : ri_AB p l e s m args below meth c nL κ D ws Q d τ S := by
  obtain ⟨S1, h1, h2⟩ := ri_k1_ok h
  obtain ⟨-, -, -, -, f5, f6⟩ := ri_fS_ok h2
  refine ri_seg hm B hE h1 (fun o ho => ?_) (fun q hq => ?_) (fun S' hS' => ?_)
  · rw [List.mem_singleton.mp ho]
    exact ⟨f5.trans hz.1, f6.trans hz.2⟩
  · have := List.mem_singleton.mp hq
    cases this
  · have := List.mem_singleton.mp hS'
    cases this
    exact ri_At_lift hf h2 k
theorem AB_k2 (hm : mT[mi]? = some (y, cc, nL, ret)) (B : ri_Bd p s m args meth c y cc nL ret κ D) (hE : ri_okE E τ) (hf : ∀ x y, f x y = true → ∀ v, ri_gI τ x v → ri_gI τ' y v) {sl : ri_S} (hz : sl.2.2.2.2.1 = 0 ∧ sl.2.2.2.2.2 = 0) {stop' : Nat × Nat} {n' : Nat} (h : ri_k2 f sl (ri_run E rD mt stop' n' d mi) (ri_run E rD mt stop n d mi S) = true) (k : ri_AB p l e s m args below meth c nL κ D ws Q d τ' sl) : ri_AB p l e s m args below meth c nL κ D ws Q d τ S := by
  obtain ⟨S1, h1, z1, z2, h2⟩ := ri_k2_ok h
  refine ri_seg hm B hE h1 (fun o ho => ?_) (fun q hq => ?_) (fun S' hS' => ?_)
  · rw [List.mem_singleton.mp ho]
    exact ⟨z1, z2⟩
  · have := List.mem_singleton.mp hq
    cases this
  · have := List.mem_singleton.mp hS'
    cases this
    exact AB_k1 hm B hE hf hz h2 k
theorem AB_kv (hm : mT[mi]? = some (y, cc, nL, none)) (B : ri_Bd p s m args meth c y cc nL none κ D) (hE : ri_okE E τ) (hf : ∀ x y, f x y = true → ∀ v, ri_gI τ x v → ri_gI τ' y v) {hR : List ri_C} (h : ri_ko f none hR (ri_run E rD mt stop n d mi S) = true) : ri_AB p l e s m args below meth c nL κ D ws (MQ below (ri_Qo τ' κ D ws s.heap.size none hR) args s 0 0 (va_A ws s.heap.size)) d τ S := by
  obtain ⟨a, h', h1, h2, h3⟩ := ri_ko_ok h
  rcases h3 with ⟨rfl, -⟩ | ⟨z, x', -, h3, -⟩
  · refine ri_seg hm B hE h1 (fun o ho => ?_) (fun q hq => ?_) (fun S' hS' => ?_)
    · rw [List.mem_singleton.mp ho]
      exact ⟨rfl, rfl⟩
    · have := List.mem_singleton.mp hq
      cases this
      exact ri_retv_at B hf h2
    · have := List.mem_singleton.mp hS'
      cases this
  · cases h3
theorem AB_ko (hm : mT[mi]? = some (y, cc, nL, some .int)) (B : ri_Bd p s m args meth c y cc nL (some .int) κ D) (hE : ri_okE E τ) (hf : ∀ x y, f x y = true → ∀ v, ri_gI τ x v → ri_gI τ' y v) {x : ri_I} {hR : List ri_C} (h : ri_ko f (some x) hR (ri_run E rD mt stop n d mi S) = true) : ri_AB p l e s m args below meth c nL κ D ws (MQ below (ri_Qo τ' κ D ws s.heap.size (some x) hR) args s 0 0 (va_A ws s.heap.size)) d τ S := by
  obtain ⟨a, h', h1, h2, h3⟩ := ri_ko_ok h
  rcases h3 with ⟨-, h3⟩ | ⟨z, x', rfl, h3, h4⟩
  · cases h3
  · cases h3
    refine ri_seg hm B hE h1 (fun o ho => ?_) (fun q hq => ?_) (fun S' hS' => ?_)
    · rw [List.mem_singleton.mp ho]
      exact ⟨rfl, rfl⟩
    · have := List.mem_singleton.mp hq
      cases this
      exact ri_reto_at B hf h4 h2
    · have := List.mem_singleton.mp hS'
      cases this
theorem AB_r (hm : mT[mi]? = some (y, cc, nL, some .int)) (B : ri_Bd p s m args meth c y cc nL (some .int) κ D) (hE : ri_okE E τ) {x : ri_I} {z : Int32} (hz : ∀ w, ri_gI τ x w → w = z) (h : ri_chkR x (ri_run E rD mt stop n d mi S) = true) : ri_AB p l e s m args below meth c nL κ D ws (MQ below (ri_Qz ws s.heap.size z) args s 0 0 (va_A ws s.heap.size)) d τ S := by
  obtain ⟨outs, h1, h2⟩ := ri_chkR_ok h
  refine ri_seg hm B hE h1 (fun o ho => ?_) (fun q hq => ?_) (fun S' hS' => ?_)
  · obtain ⟨q, u, rfl, -, -, e3, e4⟩ := h2 o ho
    exact ⟨e3, e4⟩
  · obtain ⟨q', u, e0, e1, e2, e3, e4⟩ := h2 _ hq
    cases e0
    obtain ⟨a, h', N', Z'⟩ := q
    have e1 : a = some (.inl u) := e1
    have e3 : N' = 0 := e3
    have e4 : Z' = 0 := e4
    subst e1
    subst e3
    subst e4
    exact ri_reti_at B (fun w hw => hz w (ri_ieq_ok e2 hw))
  · obtain ⟨q', u, e0, -⟩ := h2 _ hS'
    cases e0
end RI29f
