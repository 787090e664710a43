/-! Ends of a run as templates: the stack (eight places), then the locals, ghosts too -/
abbrev rt_Tg : Type := Nat × (Nat × Nat) × rt_Tm
noncomputable def rt_alS (S : rt_S) : List (Option rt_V) := List.append (rt_pad 8 (rt_som (rt_st S))) (rt_lo S)
/-- place 0: any -/
noncomputable def rt_tg1 (SW : rt_W) (S : rt_S) (q : rt_Tg) : Bool := cond (cond (Nat.beq q.1 0) true (Nat.beq q.1 S.1)) (cond (Nat.ble (ri_len (rt_st S)) 8) (match rt_sw SW S.2.1.1 q.2.1.1 with
  | none => false
  | some r => cond (rt_so (rt_E S) (rt_R S) (rt_ov S) r) (cond (Nat.ble q.2.1.2 S.2.1.2) (match rt_mt (rt_E S) (rt_ov S) (rt_alS S) q.2.2.1 q.2.2.2.1 q.2.2.2.2 with
    | none => false
    | some _ => true) false) false) false) false
noncomputable def rt_tgt (SW : rt_W) (tg : List rt_Tg) (S : rt_S) : Bool := rt_any1 (rt_tg1 SW S) tg
noncomputable def rt_tgr (SW : rt_W) (tg : List rt_Tg) (_ : Option rt_V) (S : rt_S) : Bool := rt_tgt SW tg S
section RT67
variable {KK : List (List rt_K)} {κ : Nat → ClassId} {K ad : List Nat} {Φ : Nat → Int → va_W → Prop} {SW : rt_W} {ws0 : va_W} {t0 : Int}
/-- what an end says of a state -/
def rt_atT (KK : List (List rt_K)) (κ : Nat → ClassId) (K ad : List Nat) (ws0 : va_W) (Φ : Nat → Int → va_W → Prop) (t0 : Int) (q : rt_Tg) (b : rc_C) : Prop := ∃ (τ : List Int) (ν : List Nat) (lm : List Int64), (q.1 = 0 ∨ b.1 = q.1) ∧ rt_hp KK κ K ad ws0 Φ t0 q.2.1.1 q.2.1.2 b.2.2.2 ∧ rt_okN K ad q.2.2.1 τ ν lm ∧ rt_gL τ ν lm K ad q.2.2.2.1 (rc_pad 8 (b.2.2.1.map some) ++ b.2.1) ∧ ∀ o ∈ q.2.2.2.2, rt_gO τ ν lm K ad b.2.2.2 o
theorem rt_tg1_ok (hSW : rt_SWok KK κ K ad Φ SW) {S : rt_S} {q : rt_Tg} (h : rt_tg1 SW S q = true) {b : rc_C} (hr : rt_rl KK κ K ad ws0 Φ t0 S b) : rt_atT KK κ K ad ws0 Φ t0 q b := by
  unfold rt_tg1 at h
  obtain ⟨c1, h1⟩ := rt_cnd h
  obtain ⟨c2, h2⟩ := rt_cnd h1
  have c2 := Nat.le_of_ble_eq_true c2
  rw [ri_len_eq] at c2
  obtain ⟨τ, ν, lm, r1, r2, r3, r4, r5, r6⟩ := hr
  cases hsw : rt_sw SW S.2.1.1 q.2.1.1 with
  | none => rw [hsw] at h2; cases h2
  | some r =>
    rw [hsw] at h2
    obtain ⟨c3, h3⟩ := rt_cnd h2
    obtain ⟨c4, h4⟩ := rt_cnd h3
    have c4 := Nat.le_of_ble_eq_true c4
    cases hmt : rt_mt (rt_E S) (rt_ov S) (rt_alS S) q.2.2.1 q.2.2.2.1 q.2.2.2.2 with
    | none => rw [hmt] at h4; cases h4
    | some mm =>
      obtain ⟨g1, g2⟩ := rt_gL_som r5
      obtain ⟨p1, p2⟩ := rt_gL_pad g1 g2 8
      have hal : rt_gL τ ν lm K ad (rt_alS S) (rc_pad 8 (b.2.2.1.map some) ++ b.2.1) := rt_gL_app p1 r4 p2
      obtain ⟨τ', ν', lm', f1, f2, f3, f4⟩ := rt_mt_ok (R := S.2.2.1) r3 r6 hal hmt
      have hh := hSW _ _ r hsw ws0 t0 S.2.1.2 q.2.1.2 b.2.2.2 S.2.2.1 τ ν lm (rt_ov S) c4 r3 r6 c3 r2
      refine ⟨τ', ν', lm', ?_, hh, f1, f3, f4⟩
      cases c0 : Nat.beq q.1 0 with
      | true => exact Or.inl (Nat.eq_of_beq_eq_true c0)
      | false =>
        rw [c0] at c1
        exact Or.inr (r1.trans (Nat.eq_of_beq_eq_true c1).symm)
theorem rt_tgt_ok (hSW : rt_SWok KK κ K ad Φ SW) {S : rt_S} {tg : List rt_Tg} (h : rt_tgt SW tg S = true) {b : rc_C} (hr : rt_rl KK κ K ad ws0 Φ t0 S b) : ∃ q ∈ tg, rt_atT KK κ K ad ws0 Φ t0 q b := by
  obtain ⟨q, h1, h2⟩ := rt_any1_ok h
  exact ⟨q, h1, rt_tg1_ok hSW h2 hr⟩
end RT67
