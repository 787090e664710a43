/-! Behind a call: the caller's state -/
noncomputable def rt_ans (n : rt_N) (o : Option rt_T) (st : List rt_V) : rt_N × List rt_V := match o with
  | none => (n, st)
  | some T => ((rt_vT n T).1, (rt_vT n T).2 :: st)
noncomputable def rt_back (KK : List (List rt_K)) (S : rt_S) (pc g : Nat) (rest : List rt_V) (rm : List Nat) (P : rt_Po) : rt_S := (pc, (g, Nat.add S.2.1.2 P.1.2), (rt_ans (rt_psl rm P.2.2 S.2.2.1 (rt_fil (rt_frz KK P.1.1 (rt_R S)) (rt_ov S))).1 P.2.1 rest).1, rt_lo S, (rt_ans (rt_psl rm P.2.2 S.2.2.1 (rt_fil (rt_frz KK P.1.1 (rt_R S)) (rt_ov S))).1 P.2.1 rest).2, (rt_psl rm P.2.2 S.2.2.1 (rt_fil (rt_frz KK P.1.1 (rt_R S)) (rt_ov S))).2)
section RT57
variable {τ τ' : List Int} {ν ν' : List Nat} {lm lm' : List Int64} {K ad : List Nat} {ws ws' ws0 : va_W} {KK : List (List rt_K)} {κ : Nat → ClassId} {Φ : Nat → Int → va_W → Prop} {t0 : Int} {g'' : Nat}
theorem rt_ans_ok {n : rt_N} (hN : rt_okN K ad n τ ν lm) {o : Option rt_T} {ov : Option Value} (ho : match o with
  | none => ov = none
  | some T => ∃ v, ov = some v ∧ rt_gT K ad T v) {st : List rt_V} {stv : List Value} (hs : rt_gS τ ν lm K ad st stv) : ∃ (τ' : List Int) (ν' : List Nat) (lm' : List Int64), τ <+: τ' ∧ ν <+: ν' ∧ lm <+: lm' ∧ rt_okN K ad (rt_ans n o st).1 τ' ν' lm' ∧ rt_gS τ' ν' lm' K ad (rt_ans n o st).2 (ov.toList ++ stv) := by
  cases o with
  | none =>
    have ho : ov = none := ho
    subst ho
    exact ⟨τ, ν, lm, List.prefix_refl _, List.prefix_refl _, List.prefix_refl _, hN, hs⟩
  | some T =>
    obtain ⟨v, rfl, hv⟩ : ∃ v, ov = some v ∧ rt_gT K ad T v := ho
    obtain ⟨τ1, ν1, lm1, p1, p2, p3, hN1, hv1⟩ := rt_vT_ok hN hv
    exact ⟨τ1, ν1, lm1, p1, p2, p3, hN1, hv1, rt_gS_mono p1 p2 p3 hs⟩
theorem rt_back_ok (hcx : rt_ctx KK K ad Φ) {S : rt_S} {A : List (Option Value)} {rest : List rt_V} {rst : List Value} {P : rt_Po} {TN : rt_N} {m : rt_M} {ov : Option Value} {pc : Nat} (hh : rt_hp KK κ K ad ws0 Φ t0 S.2.1.1 S.2.1.2 ws) (hN : rt_okN K ad S.2.2.1 τ ν lm) (hL : rt_gL τ ν lm K ad (rt_lo S) A) (hs : rt_gS τ ν lm K ad rest rst) (hov : ∀ o ∈ rt_ov S, rt_gO τ ν lm K ad ws o) (hm : rt_mg K ad τ ν lm TN m τ' ν' lm') (hp : rt_post KK κ K ad Φ (t0 - S.2.1.2) ν' P ws ov ws') (hsh : ∀ (i k q : Nat) (kd : rt_K) (e : va_E), K[i]? = some k → rt_kd KK P.1.1 k = some kd → ws[i]? = some (q, e) → rt_shp κ kd e) (hx : rt_hp KK κ K ad ws0 Φ t0 g'' (S.2.1.2 + P.1.2) ws') : rt_rl KK κ K ad ws0 Φ t0 (rt_back KK S pc g'' rest m.2.1 P) (pc, A, ov.toList ++ rst, ws') := by
  obtain ⟨p1, p2, p3⟩ := hp
  have had : ri_ad ws = ad := hh.1
  have hov' : ∀ o ∈ rt_fil (rt_frz KK P.1.1 (rt_R S)) (rt_ov S), rt_gO τ ν lm K ad ws' o := fun o ho => by
    obtain ⟨h1, h2⟩ := rt_fil_mem ho
    exact rt_frz_ok hcx had hsh hN.2.1 p1 h2 (hov o h1)
  obtain ⟨τ1, ν1, lm1, a1, a2, a3, hN1, hov1⟩ := rt_psl_ok (rm := m.2.1) (xs := P.2.2) hN hov' (fun x hx w hw => by
    obtain ⟨q, i, e, v, h1, h2, h3, h4⟩ := p3 x hx
    obtain ⟨q', k1, k2⟩ := hm.2.1.2.1 x.1 _ hw
    have : q' = q := Option.some.inj (k1.symm.trans h1)
    subst this
    rcases k2 with k2 | ⟨i', k2, k3⟩
    · omega
    · have : i' = w := by omega
      subst this
      exact ⟨q', i, e, v, k3, h2, h3, h4⟩)
  obtain ⟨τ2, ν2, lm2, b1, b2, b3, hN2, hs2⟩ := rt_ans_ok hN1 p2 (rt_gS_mono a1 a2 a3 hs)
  exact ⟨τ2, ν2, lm2, rfl, hx, hN2, rt_gL_mono (a1.trans b1) (a2.trans b2) (a3.trans b3) hL, hs2, fun o ho => rt_gO_mono b1 b2 b3 (hov1 o ho)⟩
end RT57
