/-! A call by a contract -/
section RT58
variable {p : Program} {l : Launch} {e : Env} {s : State} {m : MethodId} {args : Array Value} {below : List Frame} {meth : Method} {c : Code} {y : MethodName} {cc : ByteArray} {nL : Nat} {ret : Option FieldType} {κ : Nat → ClassId} {D : va_G} {ws ws0 : va_W} {Q : State → Prop} {d : Nat} {K ad : List Nat} {KK : List (List rt_K)} {Φ : Nat → Int → va_W → Prop} {t0 : Int}
theorem rt_gS_length {τ : List Int} {ν : List Nat} {lm : List Int64} : ∀ {A : List rt_V} {V : List Value}, rt_gS τ ν lm K ad A V → A.length = V.length
  | [], [], _ => rfl
  | _ :: _, _ :: _, h => congrArg (· + 1) (rt_gS_length h.2)
  | [], _ :: _, h => h.elim
  | _ :: _, [], h => h.elim
theorem rt_callC (hcx : rt_ctx KK K ad Φ) (B : rc_Bd p s m args meth c y cc nL ret κ D) {j ci np : Nat} {C : rt_Co} {a : rc_C} {S : rt_S} {as' rest : List rt_V} {al : List (Option rt_V)} {q0 : Nat × Nat} {fs : List rt_F} {mm : rt_M} {gx : rt_Po → Nat} (hrow : ri_rowOK mT y cc nL ret a.1 (.invokevirtual j, 3, ci + 4, C.1.1, ((np + 1 : Nat) : Int))) (hcon : rt_Con l D KK κ K ad Φ C) (hd : C.1.2 + 1 ≤ d) (hr : rt_rl KK κ K ad ws0 Φ t0 S a) (htk : rt_take (np + 1) (rt_st S) [] = some (.inr (.inl q0) :: as', rest)) (hl4 : rest.length ≤ 4) (hcl : rt_kd KK S.2.1.1 q0.1 = some (.inl (ci, fs))) (hal : rt_enA (.inr (.inl q0) :: as') = some al) (hmt : rt_mt (rt_E S) (rt_ov S) al C.2.2.1.1 C.2.2.1.2.1 C.2.2.1.2.2 = some mm) (hent : ∀ w, rt_hp KK κ K ad ws0 Φ t0 S.2.1.1 S.2.1.2 w → rt_hp KK κ K ad w Φ (t0 - S.2.1.2) C.2.1 0 w) (hsh : ∀ P ∈ C.2.2.2, ∀ w, rt_hp KK κ K ad ws0 Φ t0 S.2.1.1 S.2.1.2 w → ∀ (i k q : Nat) (kd : rt_K) (e : va_E), K[i]? = some k → rt_kd KK P.1.1 k = some kd → w[i]? = some (q, e) → rt_shp κ kd e) (hmix : ∀ P ∈ C.2.2.2, ∀ w w', rt_hp KK κ K ad ws0 Φ t0 S.2.1.1 S.2.1.2 w → rt_hp KK κ K ad w Φ (t0 - S.2.1.2) P.1.1 P.1.2 w' → rt_hp KK κ K ad ws0 Φ t0 (gx P) (S.2.1.2 + P.1.2) w') (kk : ∀ P ∈ C.2.2.2, ∀ b, rt_rl KK κ K ad ws0 Φ t0 (rt_back KK S (S.1 + 3) (gx P) rest mm.2.1 P) b → rc_AB p l e s m args below meth c nL D ws Q d b) : rc_AB p l e s m args below meth c nL D ws Q d a := by
  obtain ⟨τ, ν, lm, hpc, hh, hN, hL, hS, hO⟩ := hr
  obtain ⟨top, rst, e1, e2, e3, e4⟩ := rt_take_ok (accv := []) _ htk hS trivial
  rw [List.append_nil] at e4
  obtain ⟨w0, As, e5, g0, hAs⟩ := rt_gS_cons e4
  obtain ⟨qb, rfl, hkb, -⟩ := id g0
  have etop : top = As.reverse ++ [.ref qb] := by
    have := congrArg List.reverse e5
    simpa using this
  have hAl : As.length = np := by
    rw [etop] at e2
    simpa using e2
  obtain ⟨kb, eb, kd, c1, c2, c3, c4⟩ := rt_cell hcx hh hkb
  have : kd = .inl (ci, fs) := Option.some.inj (c3.symm.trans hcl)
  subst this
  obtain ⟨vb, rfl, -⟩ := c4.1
  have hvs : rt_gS τ ν lm K ad (.inr (.inl q0) :: as') (.ref qb :: As) := by
    rw [← e5]
    exact e4
  obtain ⟨hA1, -⟩ := rt_enA_ok hal hvs
  obtain ⟨τ', ν', lm', f1, f2, f3, f4⟩ := rt_mt_ok (R := S.2.2.1) hN hO hA1 hmt
  have hl4' : rst.length ≤ 4 := by
    have := rt_gS_length e3
    omega
  refine rc_call B (As := As) (rst := rst) (qb := qb) (kb := kb) (vb := vb) hd hrow (by rw [e1, etop]; simp) hAl hl4' c1 (hcon (t0 - S.2.1.2) τ' ν' lm') ⟨hent _ hh, f1, f3, f4⟩ (fun ov ws' hq _ => ?_)
  obtain ⟨P, hP, hpost⟩ := hq
  refine kk P hP _ ?_
  rw [hpc]
  exact rt_back_ok hcx hh hN hL e3 hO f2 hpost (hsh P hP _ hh) (hmix P hP _ _ hh hpost.1)
/-- a static call -/
theorem rt_callCS (hcx : rt_ctx KK K ad Φ) (B : rc_Bd p s m args meth c y cc nL ret κ D) {j a0 np : Nat} {C : rt_Co} {a : rc_C} {S : rt_S} {as rest : List rt_V} {al : List (Option rt_V)} {mm : rt_M} {gx : rt_Po → Nat} (h2 : ¬ a0 = 2) (hrow : ri_rowOK mT y cc nL ret a.1 (.invokestatic j, 3, a0, C.1.1, (np : Int))) (hcon : rt_Con l D KK κ K ad Φ C) (hd : C.1.2 + 1 ≤ d) (hr : rt_rl KK κ K ad ws0 Φ t0 S a) (htk : rt_take np (rt_st S) [] = some (as, rest)) (hl4 : rest.length ≤ 4) (hal : rt_enA as = some al) (hmt : rt_mt (rt_E S) (rt_ov S) al C.2.2.1.1 C.2.2.1.2.1 C.2.2.1.2.2 = some mm) (hent : ∀ w, rt_hp KK κ K ad ws0 Φ t0 S.2.1.1 S.2.1.2 w → rt_hp KK κ K ad w Φ (t0 - S.2.1.2) C.2.1 0 w) (hsh : ∀ P ∈ C.2.2.2, ∀ w, rt_hp KK κ K ad ws0 Φ t0 S.2.1.1 S.2.1.2 w → ∀ (i k q : Nat) (kd : rt_K) (e : va_E), K[i]? = some k → rt_kd KK P.1.1 k = some kd → w[i]? = some (q, e) → rt_shp κ kd e) (hmix : ∀ P ∈ C.2.2.2, ∀ w w', rt_hp KK κ K ad ws0 Φ t0 S.2.1.1 S.2.1.2 w → rt_hp KK κ K ad w Φ (t0 - S.2.1.2) P.1.1 P.1.2 w' → rt_hp KK κ K ad ws0 Φ t0 (gx P) (S.2.1.2 + P.1.2) w') (kk : ∀ P ∈ C.2.2.2, ∀ b, rt_rl KK κ K ad ws0 Φ t0 (rt_back KK S (S.1 + 3) (gx P) rest mm.2.1 P) b → rc_AB p l e s m args below meth c nL D ws Q d b) : rc_AB p l e s m args below meth c nL D ws Q d a := by
  obtain ⟨τ, ν, lm, hpc, hh, hN, hL, hS, hO⟩ := hr
  obtain ⟨top, rst, e1, e2, e3, e4⟩ := rt_take_ok (accv := []) _ htk hS trivial
  rw [List.append_nil] at e4
  obtain ⟨hA1, -⟩ := rt_enA_ok hal e4
  obtain ⟨τ', ν', lm', f1, f2, f3, f4⟩ := rt_mt_ok (R := S.2.2.1) hN hO hA1 hmt
  have hl4' : rst.length ≤ 4 := by
    have := rt_gS_length e3
    omega
  refine rc_callS B (As := top.reverse) (rst := rst) hd h2 hrow (by rw [e1, List.reverse_reverse]) (by rw [List.length_reverse, e2]) hl4' (hcon (t0 - S.2.1.2) τ' ν' lm') ⟨hent _ hh, f1, f3, f4⟩ (fun ov ws' hq _ => ?_)
  obtain ⟨P, hP, hpost⟩ := hq
  refine kk P hP _ ?_
  rw [hpc]
  exact rt_back_ok hcx hh hN hL e3 hO f2 hpost (hsh P hP _ hh) (hmix P hP _ _ hh hpost.1)
end RT58
