/-! A call in a run is sound -/
section RT61
variable {l : Launch} {D : va_G} {KK : List (List rt_K)} {κ : Nat → ClassId} {K ad : List Nat} {Φ : Nat → Int → va_W → Prop} {MX : rt_X} {CS : List rt_Co} {τ : List Int} {ν : List Nat} {lm : List Int64}
theorem rt_gL_app {A A' : List (Option rt_V)} {V V' : List (Option Value)} (h : rt_gL τ ν lm K ad A V) (h' : rt_gL τ ν lm K ad A' V') (hl : A.length = V.length) : rt_gL τ ν lm K ad (A ++ A') (V ++ V') := fun i x hx => by
  rcases Nat.lt_or_ge i A.length with g | g
  · rw [List.getElem?_append_left g] at hx
    obtain ⟨v, e, gv⟩ := h i x hx
    exact ⟨v, by rw [List.getElem?_append_left (by omega)]; exact e, gv⟩
  · rw [List.getElem?_append_right g] at hx
    obtain ⟨v, e, gv⟩ := h' _ x hx
    exact ⟨v, by rw [List.getElem?_append_right (by omega), ← hl]; exact e, gv⟩
theorem rt_gL_non (n : Nat) (V : List (Option Value)) : rt_gL τ ν lm K ad (List.replicate n none) V := fun i x hx => by
  rw [List.getElem?_replicate] at hx
  split at hx
  · cases hx
  · cases hx
theorem rt_gL_pad {A : List (Option rt_V)} {V : List (Option Value)} (h : rt_gL τ ν lm K ad A V) (hl : A.length = V.length) (n : Nat) : rt_gL τ ν lm K ad (rt_pad n A) (rc_pad n V) ∧ (rt_pad n A).length = (rc_pad n V).length := by
  rw [rt_pad_eq]
  unfold rc_pad
  exact ⟨rt_gL_app h (rt_gL_non _ _) hl, by simp [hl]⟩
theorem rt_gL_som : ∀ {A : List rt_V} {V : List Value}, rt_gS τ ν lm K ad A V → rt_gL τ ν lm K ad (rt_som A) (V.map some) ∧ (rt_som A).length = (V.map some).length
  | [], [], _ => ⟨(fun i x hx => by cases hx), rfl⟩
  | a :: A, v :: V, h => by
    obtain ⟨h1, h2⟩ := rt_gL_som h.2
    refine ⟨fun i x hx => ?_, congrArg (· + 1) h2⟩
    cases i with
    | zero =>
      cases hx
      exact ⟨v, rfl, h.1⟩
    | succ i => exact h1 i x hx
  | [], _ :: _, h => h.elim
  | _ :: _, [], h => h.elim
theorem rt_gS_of : ∀ {A : List rt_V} {V : List Value}, A.length = V.length → (∀ (j : Nat) (x : rt_V), A[j]? = some x → ∃ v, V[j]? = some v ∧ rt_gV τ ν lm K ad x v) → rt_gS τ ν lm K ad A V
  | [], [], _, _ => trivial
  | a :: A, v :: V, hl, h => by
    refine ⟨?_, rt_gS_of (by simpa using hl) (fun j x hx => h (j + 1) x hx)⟩
    obtain ⟨w, e, g⟩ := h 0 a rfl
    cases e
    exact g
  | [], _ :: _, hl, _ => by cases hl
  | _ :: _, [], hl, _ => by cases hl
theorem rc_pad_len {n : Nat} {V : List (Option Value)} (h : V.length ≤ n) : (rc_pad n V).length = n := by
  unfold rc_pad
  simp
  omega
theorem rc_pad_at {n i : Nat} {V : List (Option Value)} {v : Value} (h : (rc_pad n V)[i]? = some (some v)) : V[i]? = some (some v) := by
  unfold rc_pad at h
  rcases Nat.lt_or_ge i V.length with g | g
  · rw [List.getElem?_append_left g] at h
    exact h
  · rw [List.getElem?_append_right g, List.getElem?_replicate] at h
    split at h
    · cases h
    · cases h
set_option maxHeartbeats 1000000 in
theorem rt_calB_ok (hcx : rt_ctx KK K ad Φ) (hMX : rt_MXok KK κ K ad Φ MX) (hCS : ∀ C ∈ CS, rt_Con l D KK κ K ad Φ C) {run : rt_Rn} (IH : rt_Snd l D KK κ K ad Φ run) {d1 d mi mj : Nat} (hd : d1 + 1 ≤ d) (hd1 : 1 ≤ d1) {cuts : List Nat} {kc : rt_S → Bool} {kr : Option rt_V → rt_S → Bool} {as rest : List rt_V} {S : rt_S} (h : rt_calB KK MX CS run d1 d mi cuts kc kr mj as rest S = true) {y : MethodName} {cc : ByteArray} {nL : Nat} {ret : Option FieldType} (hm : mT[mi]? = some (y, cc, nL, ret)) (hn : nL ≤ 20) {p : Program} {e : Env} {s : State} {m : MethodId} {args : Array Value} {below : List Frame} {meth : Method} {c : Code} {ws ws0 : va_W} (B : rc_Bd p s m args meth c y cc nL ret κ D ws) {Qv : Option Value → va_W → Prop} (had : ri_ad ws = ad) {t0 : Int} {a : rc_C} (hpc : a.1 = S.1) (hh : rt_hp KK κ K ad ws0 Φ t0 S.2.1.1 S.2.1.2 a.2.2.2) (hN : rt_okN K ad S.2.2.1 τ ν lm) (hL : rt_gL τ ν lm K ad (rt_lo S) a.2.1) (hO : ∀ o ∈ rt_ov S, rt_gO τ ν lm K ad a.2.2.2 o) {vs rst : List Value} (hrs : rt_gS τ ν lm K ad rest rst) (hvs : rt_gS τ ν lm K ad as vs) (call : ∀ {d0 : Nat} {P : List Value → va_W → Prop} {Q' : List Value → va_W → Option Value → va_W → Prop}, d0 + 1 ≤ d → rst.length ≤ 4 → rc_Met l κ D d0 mj P Q' → P vs a.2.2.2 → (∀ (ov : Option Value) (ws' : va_W), Q' vs a.2.2.2 ov ws' → ri_ad ws' = ri_ad a.2.2.2 → rc_AB p l e s m args below meth c nL D ws (MQ below (rc_Q D ws s.heap.size Qv) args s 0 0 (va_A ws s.heap.size)) d (a.1 + 3, a.2.1, ov.toList ++ rst, ws')) → rc_AB p l e s m args below meth c nL D ws (MQ below (rc_Q D ws s.heap.size Qv) args s 0 0 (va_A ws s.heap.size)) d a) (hkc : ∀ (S' : rt_S) (b : rc_C), kc S' = true → rt_rl KK κ K ad ws0 Φ t0 S' b → rc_gh a b → rc_AB p l e s m args below meth c nL D ws (MQ below (rc_Q D ws s.heap.size Qv) args s 0 0 (va_A ws s.heap.size)) d b) (hkr : ∀ (v : Option rt_V) (S' : rt_S) (b : rc_C) (ov : Option Value), kr v S' = true → rt_st S' = v.toList → b.2.2.1 = ov.toList → rt_rl KK κ K ad ws0 Φ t0 S' b → rc_gh a b → Qv ov b.2.2.2) : rc_AB p l e s m args below meth c nL D ws (MQ below (rc_Q D ws s.heap.size Qv) args s 0 0 (va_A ws s.heap.size)) d a := by
  unfold rt_calB at h
  obtain ⟨c1, h⟩ := rt_cnd h
  have hl4 : rst.length ≤ 4 := by
    have h4 := Nat.le_of_ble_eq_true c1
    rw [ri_len_eq] at h4
    have := rt_gS_length hrs
    omega
  cases hal : rt_enA as with
  | none => rw [hal] at h; cases h
  | some al =>
    rw [hal] at h
    have h : (match (generalizing := false) rt_pick MX CS mj d S al with
      | some q => rt_posts KK MX (run d mi cuts false kc kr) S q.1.2.1 rest q.2.2.1 q.1.2.2.2
      | none => rt_calI run d1 d mi cuts kc kr mj as rest S) = true := h
    cases hp : rt_pick MX CS mj d S al with
    | some q =>
      rw [hp] at h
      obtain ⟨hA1, hA0⟩ := rt_enA_ok hal hvs
      obtain ⟨q1, q2, q3, ⟨P0, hP0, g0, hg0⟩, hmt, hln⟩ := rt_pick_ok hp
      obtain ⟨τ', ν', lm', f1, f2, f3, f4⟩ := rt_mt_ok (R := S.2.2.1) hN hO hA1 hmt
      have hcon := hCS q.1 q1 (t0 - S.2.1.2) τ' ν' lm'
      rw [q2] at hcon
      refine call q3 hl4 hcon ⟨(hMX _ _ _ _ hg0).1 _ _ _ _ hh, f1, f3, f4, by rw [← hA0, hln]⟩ (fun ov ws' hq _ => ?_)
      obtain ⟨P, hP, hpost⟩ := hq
      obtain ⟨g, hg, hrun⟩ := rt_posts_ok h P hP
      obtain ⟨-, m2, m3⟩ := hMX _ _ _ _ hg
      have hb := rt_back_ok hcx (pc := S.1 + 3) hh hN hL hrs hO f2 hpost (m2 _ _ _ _ hh) (m3 _ _ _ _ _ _ hh hpost.1)
      rw [hpc]
      exact IH d mi cuts false kc kr _ hrun (by omega) y cc nL ret hm hn p e s m args below meth c ws B Qv had ws0 t0 _ hb (fun S' b h1 h2 h3 => hkc S' b h1 h2 h3) (fun v S' b ov h1 h2 h3 h4 h5 => hkr v S' b ov h1 h2 h3 h4 h5)
    | none =>
      rw [hp] at h
      have h : rt_calI run d1 d mi cuts kc kr mj as rest S = true := h
      unfold rt_calI at h
      cases hn1 : rt_nmL as S.2.2.1 with
      | none => rw [hn1] at h; cases h
      | some nq =>
        rw [hn1] at h
        have h : (match (generalizing := false) rt_enA nq.2 with
          | none => false
          | some al => (match (generalizing := false) ri_nth mt mj with
            | none => false
            | some w => cond (Nat.ble w.2 20) (cond (Nat.ble (ri_len al) w.2) (run d1 mj [] true rt_kf (rt_kont (run d mi cuts false kc kr) (Nat.add S.1 3) (ri_len rest)) (0, S.2.1, nq.1, List.append (rt_pad 20 al) (List.append (rt_som rest) (rt_lo S)), [], rt_ov S)) false) false)) = true := h
        cases hal2 : rt_enA nq.2 with
        | none => rw [hal2] at h; cases h
        | some al2 =>
          rw [hal2] at h
          have h : (match (generalizing := false) ri_nth mt mj with
            | none => false
            | some w => cond (Nat.ble w.2 20) (cond (Nat.ble (ri_len al2) w.2) (run d1 mj [] true rt_kf (rt_kont (run d mi cuts false kc kr) (Nat.add S.1 3) (ri_len rest)) (0, S.2.1, nq.1, List.append (rt_pad 20 al2) (List.append (rt_som rest) (rt_lo S)), [], rt_ov S)) false) false) = true := h
          cases hw : ri_nth mt mj with
          | none => rw [hw] at h; cases h
          | some w =>
            rw [hw] at h
            obtain ⟨w20, h9⟩ := rt_cnd h
            obtain ⟨wal, h8⟩ := rt_cnd h9
            clear h h9
            have w20 := Nat.le_of_ble_eq_true w20
            have wal := Nat.le_of_ble_eq_true wal
            rw [ri_len_eq] at wal
            rw [ri_nth_eq] at hw
            obtain ⟨τ1, pf, hN1, hvs1⟩ := rt_nmL_ok hn1 hN hvs
            obtain ⟨hA2, hAl2⟩ := rt_enA_ok hal2 hvs1
            have pr := List.prefix_refl ν
            have pl := List.prefix_refl lm
            have hlen : (rc_en vs).length ≤ 20 := by omega
            obtain ⟨hP1, hP2⟩ := rt_gL_pad hA2 hAl2 20
            obtain ⟨hR1, hR2⟩ := rt_gL_som (rt_gS_mono pf pr pl hrs)
            have hrl : rt_rl KK κ K ad ws0 Φ t0 (0, S.2.1, nq.1, List.append (rt_pad 20 al2) (List.append (rt_som rest) (rt_lo S)), [], rt_ov S) (0, rc_pad 20 (rc_en vs) ++ (rst.map some ++ a.2.1), [], a.2.2.2) := ⟨τ1, ν, lm, rfl, hh, hN1, rt_gL_app hP1 (rt_gL_app hR1 (rt_gL_mono pf pr pl hL) hR2) hP2, trivial, fun o ho => rt_gO_mono pf pr pl (hO o ho)⟩
            have met : rc_Met l κ D d1 mj (fun vs' w' => vs' = vs ∧ w' = a.2.2.2) (fun _ _ ov ws' => ∃ (v : Option rt_V) (S' : rt_S) (b : rc_C), rt_kont (run d mi cuts false kc kr) (Nat.add S.1 3) (ri_len rest) v S' = true ∧ rt_st S' = v.toList ∧ b.2.2.1 = ov.toList ∧ b.2.2.2 = ws' ∧ rt_rl KK κ K ad ws0 Φ t0 S' b ∧ rc_gh (0, rc_pad 20 (rc_en vs) ++ (rst.map some ++ a.2.1), [], a.2.2.2) b) := by
              refine rc_body (fun _ _ => rc_pad 20 (rc_en vs) ++ (rst.map some ++ a.2.1)) ?_ ?_ ?_
              · rintro vs' w' ⟨rfl, rfl⟩ i v hi hv
                rw [List.getElem?_append_left (by rw [rc_pad_len hlen]; exact hi)] at hv
                exact rc_pad_at hv
              · rintro y' cc' nL' ret' hm' vs' w' ⟨rfl, rfl⟩
                obtain ⟨-, -, -, -, ⟨wq, hwq, hwn⟩, -⟩ := tab_all mj y' cc' nL' ret' hm'
                have : wq = w := Option.some.inj (hwq.symm.trans hw)
                subst this
                omega
              · rintro y' cc' nL' ret' hm' w' vs' ⟨rfl, rfl⟩ p' e' s' m' below' meth' c' B'
                obtain ⟨-, -, -, -, ⟨wq, hwq, hwn⟩, -⟩ := tab_all mj y' cc' nL' ret' hm'
                have : wq = w := Option.some.inj (hwq.symm.trans hw)
                subst this
                exact IH d1 mj [] true rt_kf _ _ h8 hd1 y' cc' nL' ret' hm' (by omega) p' e' s' m' _ below' meth' c' a.2.2.2 B' _ hh.1 ws0 t0 _ hrl (fun _ _ hf => by cases hf) (fun v S' b ov h1 h2 h3 h4 h5 => ⟨v, S', b, h1, h2, h3, rfl, h4, h5⟩)
            refine call hd hl4 met ⟨rfl, rfl⟩ (fun ov ws' hq _ => ?_)
            obtain ⟨v, S', b, k1, k2, k3, rfl, k4, k5⟩ := hq
            unfold rt_kont at k1
            cases hu : rt_unw (ri_len rest) (rt_drop 20 (rt_lo S')) with
            | none => rw [hu] at k1; cases k1
            | some q =>
              rw [hu] at k1
              obtain ⟨u1, u2⟩ := rt_unw_ok hu
              rw [ri_len_eq] at u1
              rw [rt_drop_eq] at u2
              obtain ⟨τ2, ν2, lm2, g1, g2, g3, g4, g5, g6⟩ := k4
              have hrl4 := rt_gS_length hrs
              have gat : ∀ (j : Nat) (x : rt_V), (q.1.map some ++ q.2)[j]? = some (some x) → ∃ v, (rst.map some ++ a.2.1)[j]? = some (some v) ∧ rt_gV τ2 ν2 lm2 K ad x v := fun j x hx => by
                rw [← u2, List.getElem?_drop] at hx
                obtain ⟨v, e1, e2⟩ := g4 _ x hx
                have e3 := k5 _ v (by omega) e1
                have e3 : (rc_pad 20 (rc_en vs) ++ (rst.map some ++ a.2.1))[20 + j]? = some (some v) := e3
                rw [List.getElem?_append_right (by rw [rc_pad_len hlen]; omega), rc_pad_len hlen] at e3
                have ej : 20 + j - 20 = j := by omega
                rw [ej] at e3
                exact ⟨v, e3, e2⟩
              have gS1 : rt_gS τ2 ν2 lm2 K ad q.1 rst := rt_gS_of (by omega) (fun j x hx => by
                have hj := (List.getElem?_eq_some_iff.mp hx).1
                obtain ⟨v, e1, e2⟩ := gat j x (by rw [List.getElem?_append_left (by simpa using hj)]; simp [hx])
                rw [List.getElem?_append_left (by simp; omega)] at e1
                refine ⟨v, ?_, e2⟩
                rw [List.getElem?_map] at e1
                cases hv : rst[j]? with
                | none => rw [hv] at e1; cases e1
                | some v' =>
                  rw [hv] at e1
                  cases e1
                  rfl)
              have gL1 : rt_gL τ2 ν2 lm2 K ad q.2 a.2.1 := fun j x hx => by
                obtain ⟨v, e1, e2⟩ := gat (q.1.length + j) x (by rw [List.getElem?_append_right (by simp)]; simp [hx])
                rw [List.getElem?_append_right (by simp; omega)] at e1
                have ej : q.1.length + j - (rst.map some).length = j := by
                  simp
                  omega
                rw [ej] at e1
                exact ⟨v, e1, e2⟩
              have gS2 : rt_gS τ2 ν2 lm2 K ad (match (generalizing := false) v with
                | none => q.1
                | some x => x :: q.1) (ov.toList ++ rst) := by
                rw [k2, k3] at g5
                cases v with
                | none =>
                  have := rt_gS_nil g5
                  rw [this]
                  exact gS1
                | some x =>
                  obtain ⟨w0, m0, e1, e2, e3⟩ := rt_gS_cons g5
                  have := rt_gS_nil e3
                  subst this
                  rw [e1]
                  exact ⟨e2, gS1⟩
              rw [hpc]
              exact IH d mi cuts false kc kr _ k1 (by omega) y cc nL ret hm hn p e s m args below meth c ws B Qv had ws0 t0 (S.1 + 3, a.2.1, ov.toList ++ rst, b.2.2.2) ⟨τ2, ν2, lm2, rfl, g2, g3, gL1, gS2, g6⟩ (fun S' b h1 h2 h3 => hkc S' b h1 h2 h3) (fun v S' b ov h1 h2 h3 h4 h5 => hkr v S' b ov h1 h2 h3 h4 h5)
end RT61
