/-! Tables of modes -/
noncomputable def rt_all1 {α : Type} (f : α → Bool) (l : List α) : Bool := List.rec (motive := fun _ => Bool) true (fun a _ ih => cond (f a) ih false) l
noncomputable def rt_any1 {α : Type} (f : α → Bool) (l : List α) : Bool := List.rec (motive := fun _ => Bool) false (fun a _ ih => cond (f a) true ih) l
theorem rt_all1_ok {α : Type} {f : α → Bool} : ∀ {l : List α}, rt_all1 f l = true → ∀ a ∈ l, f a = true
  | [], _, a, ha => by cases ha
  | b :: l, h, a, ha => by
    have h : cond (f b) (rt_all1 f l) false = true := h
    obtain ⟨h1, h2⟩ := rt_cnd h
    rcases List.mem_cons.mp ha with rfl | ha
    · exact h1
    · exact rt_all1_ok h2 a ha
theorem rt_any1_ok {α : Type} {f : α → Bool} : ∀ {l : List α}, rt_any1 f l = true → ∃ a ∈ l, f a = true
  | [], h => by cases h
  | b :: l, h => by
    have h : cond (f b) true (rt_any1 f l) = true := h
    cases hb : f b with
    | true => exact ⟨b, List.mem_cons_self, hb⟩
    | false =>
      rw [hb] at h
      obtain ⟨a, h1, h2⟩ := rt_any1_ok (l := l) h
      exact ⟨a, List.mem_cons_of_mem _ h1, h2⟩
/-- lists by place, with their places -/
noncomputable def rt_allK {α : Type} (f : Nat → α → Bool) (l : List α) : Nat → Bool := List.rec (motive := fun _ => Nat → Bool) (fun _ => true) (fun a _ ih k => cond (f k a) (ih (Nat.succ k)) false) l
theorem rt_allK_ok {α : Type} {f : Nat → α → Bool} : ∀ {l : List α} {k : Nat}, rt_allK f l k = true → ∀ (j : Nat) (a : α), l[j]? = some a → f (k + j) a = true
  | [], _, _, j, a, ha => by cases ha
  | b :: l, k, h, j, a, ha => by
    have h : cond (f k b) (rt_allK f l (Nat.succ k)) false = true := h
    obtain ⟨h1, h2⟩ := rt_cnd h
    cases j with
    | zero =>
      cases ha
      exact h1
    | succ j =>
      have := rt_allK_ok h2 j a ha
      rw [show k + (j + 1) = Nat.succ k + j by omega]
      exact this
def rt_sh0 (_ _ _ : rt_F) : Bool := true
/-- a row of the table of calls -/
noncomputable def rt_mxC1 (KK : List (List rt_K)) (cl : Nat → Nat) (g : Nat) (q : Nat × Nat × Nat) : Bool := match ri_nth KK g with
  | none => false
  | some l => (match ri_nth KK q.1 with
    | none => false
    | some a => (match ri_nth KK q.2.1 with
      | none => false
      | some u => (match ri_nth KK q.2.2 with
        | none => false
        | some m => cond (rt_cK rt_enP l l a) (cond (rt_cK rt_sh0 l l u) (cond (rt_cK rt_mxP l u m) (cond (Nat.beq (cl g) (cl q.1)) (cond (Nat.beq (cl q.2.1) (cl q.2.2)) true false) false) false) false) false)))
noncomputable def rt_mxC (KK : List (List rt_K)) (cl : Nat → Nat) (MX : rt_X) : Bool := rt_allK (fun g l => rt_all1 (rt_mxC1 KK cl g) l) MX 0
noncomputable def rt_swC1 (KK : List (List rt_K)) (cl : Nat → Nat) (g : Nat) (q : Nat × List (Nat × Nat × rt_T)) : Bool := match ri_nth KK g with
  | none => false
  | some l => (match ri_nth KK q.1 with
    | none => false
    | some m => cond (Nat.beq (cl g) (cl q.1)) (match rt_swK l m 0 with
      | none => false
      | some r => rt_all1 (fun x => rt_any1 (fun y => cond (Nat.beq x.1 y.1) (cond (Nat.beq x.2.1 y.2.1) (rt_sbT y.2.2 x.2.2) false) false) q.2) r) false)
noncomputable def rt_swC (KK : List (List rt_K)) (cl : Nat → Nat) (SW : rt_W) : Bool := rt_allK (fun g l => rt_all1 (rt_swC1 KK cl g) l) SW 0
section RT65
variable {KK : List (List rt_K)} {κ : Nat → ClassId} {K ad : List Nat} {Ψ : Nat → Int → va_W → Prop} {cl : Nat → Nat} {MX : rt_X} {SW : rt_W}
theorem rt_mx_mem {g ga gb g2 : Nat} (h : rt_mx MX g ga gb = some g2) : ∃ l, MX[g]? = some l ∧ (ga, gb, g2) ∈ l := by
  unfold rt_mx at h
  rw [ri_nth_eq] at h
  cases hl : MX[g]? with
  | none => rw [hl] at h; cases h
  | some l =>
    rw [hl] at h
    refine ⟨l, rfl, ?_⟩
    clear hl
    induction l with
    | nil => cases h
    | cons q l ih =>
      obtain ⟨a, b, c⟩ := q
      have h : cond (Nat.beq a ga) (cond (Nat.beq b gb) (some c) (List.rec (motive := fun _ => Option Nat) none (fun q _ ih => cond (Nat.beq q.1 ga) (cond (Nat.beq q.2.1 gb) (some q.2.2) ih) ih) l)) (List.rec (motive := fun _ => Option Nat) none (fun q _ ih => cond (Nat.beq q.1 ga) (cond (Nat.beq q.2.1 gb) (some q.2.2) ih) ih) l) = some g2 := h
      cases c1 : Nat.beq a ga with
      | false =>
        rw [c1] at h
        exact List.mem_cons_of_mem _ (ih h)
      | true =>
        cases c2 : Nat.beq b gb with
        | false =>
          rw [c1, c2] at h
          exact List.mem_cons_of_mem _ (ih h)
        | true =>
          rw [c1, c2] at h
          cases h
          have e1 := Nat.eq_of_beq_eq_true c1
          have e2 := Nat.eq_of_beq_eq_true c2
          subst e1
          subst e2
          exact List.mem_cons_self
theorem rt_MX_of (h : rt_mxC KK cl MX = true) (hcl : ∀ g ga gb g2, rt_mx MX g ga gb = some g2 → cl ga = cl gb) : rt_MXok KK κ K ad (fun g => Ψ (cl g)) MX := by
  intro g ga gb g2 hm
  have hab := hcl g ga gb g2 hm
  obtain ⟨l0, h1, h2⟩ := rt_mx_mem hm
  have h3 := rt_all1_ok (rt_allK_ok h g l0 h1) _ h2
  rw [Nat.zero_add] at h3
  unfold rt_mxC1 at h3
  rw [ri_nth_eq, ri_nth_eq, ri_nth_eq, ri_nth_eq] at h3
  cases e1 : KK[g]? with
  | none => rw [e1] at h3; cases h3
  | some l =>
    rw [e1] at h3
    cases e2 : KK[ga]? with
    | none => rw [e2] at h3; cases h3
    | some a =>
      rw [e2] at h3
      cases e3 : KK[gb]? with
      | none => rw [e3] at h3; cases h3
      | some u =>
        rw [e3] at h3
        cases e4 : KK[g2]? with
        | none => rw [e4] at h3; cases h3
        | some m =>
          rw [e4] at h3
          obtain ⟨c1, h4⟩ := rt_cnd h3
          obtain ⟨c2, h5⟩ := rt_cnd h4
          obtain ⟨c3, h6⟩ := rt_cnd h5
          obtain ⟨c4, h7⟩ := rt_cnd h6
          obtain ⟨c5, -⟩ := rt_cnd h7
          have c4 : cl g = cl ga := Nat.eq_of_beq_eq_true c4
          have c5 : cl gb = cl g2 := Nat.eq_of_beq_eq_true c5
          refine ⟨fun ws0 t0 s w hh => ?_, fun ws0 t0 s w hh i k q kd e hi hkd hw => ?_, fun ws0 t0 s s' w w' hh hb => ?_⟩
          · refine rt_ent_hp e1 e2 c1 ?_ hh
            have : Ψ (cl g) (t0 - s) w := hh.2.2.2
            show Ψ (cl ga) (t0 - s - (0 : Nat)) w
            rw [← c4, show t0 - (s : Int) - ((0 : Nat) : Int) = t0 - s by omega]
            exact this
          · obtain ⟨q', e', kd', k1, k2, k3, -⟩ := hh.2.1 i k hi
            rw [hw] at k1
            cases k1
            rw [rt_kd_at e1] at k2
            rw [rt_kd_at e3] at hkd
            obtain ⟨-, w2⟩ := rt_cK_ok _ _ _ c2 k
            obtain ⟨a1, b1, f1, f2, f3⟩ := w2 kd hkd
            have : b1 = kd' := Option.some.inj (f2.symm.trans k2)
            subst this
            exact (rt_c1K_ok (κ := κ) f3).1 _ k3
          · refine rt_mix_hp e1 e3 e4 c3 ?_ hh hb
            have : Ψ (cl gb) (t0 - s - s') w' := hb.2.2.2
            show Ψ (cl g2) (t0 - ((s + s' : Nat) : Int)) w'
            rw [← c5, show t0 - ((s + s' : Nat) : Int) = t0 - s - s' by omega]
            exact this
theorem rt_sw_mem {g g' : Nat} {r : List (Nat × Nat × rt_T)} (h : rt_sw SW g g' = some r) : (g = g' ∧ r = []) ∨ ∃ l, SW[g]? = some l ∧ (g', r) ∈ l := by
  unfold rt_sw at h
  cases c0 : Nat.beq g g' with
  | true =>
    rw [c0] at h
    cases h
    exact Or.inl ⟨Nat.eq_of_beq_eq_true c0, rfl⟩
  | false =>
    rw [c0, cond_false, ri_nth_eq] at h
    refine Or.inr ?_
    cases hl : SW[g]? with
    | none => rw [hl] at h; cases h
    | some l =>
      rw [hl] at h
      refine ⟨l, rfl, ?_⟩
      clear hl
      induction l with
      | nil => cases h
      | cons q l ih =>
        obtain ⟨a, b⟩ := q
        have h : cond (Nat.beq a g') (some b) (List.rec (motive := fun _ => Option (List (Nat × Nat × rt_T))) none (fun q _ ih => cond (Nat.beq q.1 g') (some q.2) ih) l) = some r := h
        cases c1 : Nat.beq a g' with
        | false =>
          rw [c1] at h
          exact List.mem_cons_of_mem _ (ih h)
        | true =>
          rw [c1] at h
          cases h
          have e1 := Nat.eq_of_beq_eq_true c1
          subst e1
          exact List.mem_cons_self
theorem rt_hp_s {ws0 ws : va_W} {t0 : Int} {g s s' : Nat} (hmono : ∀ c t t' ws, t ≤ t' → Ψ c t ws → Ψ c t' ws) (hs : s' ≤ s) (hh : rt_hp KK κ K ad ws0 (fun g => Ψ (cl g)) t0 g s ws) : rt_hp KK κ K ad ws0 (fun g => Ψ (cl g)) t0 g s' ws := ⟨hh.1, hh.2.1, hh.2.2.1, hmono _ _ _ _ (by omega) hh.2.2.2⟩
theorem rt_SW_nil (hmono : ∀ c t t' ws, t ≤ t' → Ψ c t ws → Ψ c t' ws) (h : ∀ (g : Nat) (l : List (Nat × List (Nat × Nat × rt_T))), SW[g]? = some l → l = []) : rt_SWok KK κ K ad (fun g => Ψ (cl g)) SW := by
  intro g g' r hr ws0 t0 s s' ws n τ ν lm ov hs _ _ _ hh
  rcases rt_sw_mem hr with ⟨rfl, -⟩ | ⟨l, h1, h2⟩
  · exact rt_hp_s hmono hs hh
  · rw [h g l h1] at h2
    cases h2
theorem rt_SW_of (hmono : ∀ c t t' ws, t ≤ t' → Ψ c t ws → Ψ c t' ws) (hcx : rt_ctx KK K ad (fun g => Ψ (cl g))) (h1K : ∀ (i i' k : Nat), K[i]? = some k → K[i']? = some k → i = i') (h : rt_swC KK cl SW = true) : rt_SWok KK κ K ad (fun g => Ψ (cl g)) SW := by
  intro g g' r hr ws0 t0 s s' ws n τ ν lm ov hs hN hov hso hh
  rcases rt_sw_mem hr with ⟨rfl, -⟩ | ⟨l0, h1, h2⟩
  · exact rt_hp_s hmono hs hh
  · have h3 := rt_all1_ok (rt_allK_ok h g l0 h1) _ h2
    rw [Nat.zero_add] at h3
    unfold rt_swC1 at h3
    rw [ri_nth_eq, ri_nth_eq] at h3
    cases e1 : KK[g]? with
    | none => rw [e1] at h3; cases h3
    | some l =>
      rw [e1] at h3
      cases e2 : KK[g']? with
      | none => rw [e2] at h3; cases h3
      | some m =>
        rw [e2] at h3
        obtain ⟨c1, h4⟩ := rt_cnd h3
        have c1 : cl g = cl g' := Nat.eq_of_beq_eq_true c1
        cases hk : rt_swK l m 0 with
        | none => rw [hk] at h4; cases h4
        | some r' =>
          rw [hk] at h4
          have h4 : rt_all1 (fun x : Nat × Nat × rt_T => rt_any1 (fun y : Nat × Nat × rt_T => cond (Nat.beq x.1 y.1) (cond (Nat.beq x.2.1 y.2.1) (rt_sbT y.2.2 x.2.2) false) false) r) r' = true := h4
          have hh' := rt_hp_s hmono hs hh
          refine rt_sw_hp e1 e2 hk (fun hΦ => ?_) (fun k j T hx i q e v hi hw hv => ?_) hh'
          · have hΦ : Ψ (cl g) (t0 - s') ws := hΦ
            show Ψ (cl g') (t0 - s') ws
            rw [← c1]
            exact hΦ
          · obtain ⟨y, hy, h5⟩ := rt_any1_ok (rt_all1_ok h4 _ hx)
            obtain ⟨d1, h6⟩ := rt_cnd h5
            obtain ⟨d2, d3⟩ := rt_cnd h6
            have z1 : k = y.1 := Nat.eq_of_beq_eq_true d1
            have z2 : j = y.2.1 := Nat.eq_of_beq_eq_true d2
            clear d1 d2 h5 h6
            subst z1
            subst z2
            exact rt_sbT_ok d3 (rt_so1_ok hcx hh.1 h1K hN hov (rt_so_ok hso y hy) i q e v hi hw hv)
theorem rt_cs_nil {P : rt_Co → Prop} : ∀ C ∈ ([] : List rt_Co), P C := fun _ h => by cases h
theorem rt_cs_cons {P : rt_Co → Prop} {c : rt_Co} {l : List rt_Co} (h : P c) (hl : ∀ C ∈ l, P C) : ∀ C ∈ c :: l, P C := fun C hC => by
  rcases List.mem_cons.mp hC with rfl | hC
  · exact h
  · exact hl C hC
end RT65
