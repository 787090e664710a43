/-! Modes at calls: entry, return; what outlasts a call; what the overlay gives at a switch -/
noncomputable def rt_cS (P : rt_F → rt_F → rt_F → Bool) (l : List (Nat × rt_F)) : List (Nat × rt_F) → List (Nat × rt_F) → Bool := List.rec (motive := fun _ => List (Nat × rt_F) → List (Nat × rt_F) → Bool) (fun u m => match u with
  | [] => (match m with
    | [] => true
    | _ :: _ => false)
  | _ :: _ => false) (fun q _ ih u m => match u with
  | [] => false
  | a :: u' => (match m with
    | [] => false
    | b :: m' => cond (Nat.beq q.1 b.1) (cond (Nat.beq a.1 b.1) (cond (P q.2 a.2 b.2) (ih u' m') false) false) false)) l
noncomputable def rt_c1K (P : rt_F → rt_F → rt_F → Bool) (a b c : rt_K) : Bool := match a with
  | .inl x => (match b with
    | .inl y => (match c with
      | .inl z => cond (Nat.beq y.1 z.1) (rt_cS P (rt_seg x.2) (rt_seg y.2) (rt_seg z.2)) false
      | .inr _ => false)
    | .inr _ => false)
  | .inr x => (match b with
    | .inl _ => false
    | .inr y => (match c with
      | .inl _ => false
      | .inr z => cond (Nat.beq y.1 z.1) (rt_cS P x.2 y.2 z.2) false))
noncomputable def rt_cK (P : rt_F → rt_F → rt_F → Bool) (l : List rt_K) : List rt_K → List rt_K → Bool := List.rec (motive := fun _ => List rt_K → List rt_K → Bool) (fun u m => match u with
  | [] => (match m with
    | [] => true
    | _ :: _ => false)
  | _ :: _ => false) (fun q _ ih u m => match u with
  | [] => false
  | a :: u' => (match m with
    | [] => false
    | b :: m' => cond (rt_c1K P q a b) (ih u' m') false)) l
/-- behind a call: the caller's slot, the callee's, the new one -/
def rt_mxP (a b c : rt_F) : Bool := cond (rt_flk a.1 c.1) (cond (rt_flk b.1 c.1) (cond (rt_sbT b.2 c.2) true (cond (Nat.beq b.1 1) (rt_sbT a.2 c.2) false)) false) false
def rt_enP (_ b c : rt_F) : Bool := rt_sbT b.2 c.2
/-- does the mode freeze what the entry speaks of -/
noncomputable def rt_frS (l : List (Nat × rt_F)) : Bool := List.rec (motive := fun _ => Bool) true (fun q _ ih => cond (Nat.beq q.2.1 1) ih false) l
noncomputable def rt_kS (kd : rt_K) : List (Nat × rt_F) := match kd with
  | .inl x => rt_seg x.2
  | .inr x => x.2
noncomputable def rt_frz (KK : List (List rt_K)) (g : Nat) (R : List Nat) (o : rt_O) : Bool := match o.1 with
  | 0 => false
  | Nat.succ j => (match ri_nth R j with
    | none => false
    | some k => (match rt_kd KK g k with
      | none => false
      | some kd => (match o.2.1.1 with
        | 0 => (match rt_sT kd (Int.toNat o.2.1.2) with
          | none => false
          | some f => Nat.beq f.1 1)
        | Nat.succ _ => rt_frS (rt_kS kd))))
noncomputable def rt_so1 (E : List rt_B) (R : List Nat) (ov : List rt_O) (q : Nat × Nat × rt_T) : Bool := List.rec (motive := fun _ => Bool) false (fun o _ ih => match o.1 with
  | 0 => ih
  | Nat.succ j => (match ri_nth R j with
    | none => ih
    | some k => cond (Nat.beq k q.1) (cond (rt_seq o.2.1 (0, .ofNat q.2.1)) (cond (rt_is E o.2.2 q.2.2) true ih) ih) ih)) ov
noncomputable def rt_so (E : List rt_B) (R : List Nat) (ov : List rt_O) (r : List (Nat × Nat × rt_T)) : Bool := List.rec (motive := fun _ => Bool) true (fun q _ ih => cond (rt_so1 E R ov q) ih false) r
section RT53
variable {τ : List Int} {ν : List Nat} {lm : List Int64} {K ad : List Nat} {ws ws' ws0 : va_W} {KK : List (List rt_K)} {κ : Nat → ClassId} {Φ : Nat → Int → va_W → Prop} {t0 t1 : Int} {g g' g'' s s' s'' : Nat} {P : rt_F → rt_F → rt_F → Bool}
theorem rt_cnd {b c : Bool} (h : cond b c false = true) : b = true ∧ c = true := by
  cases b with
  | false => cases h
  | true => exact ⟨rfl, h⟩
theorem rt_cS_ok : ∀ (l u m : List (Nat × rt_F)), rt_cS P l u m = true → rt_tot u = rt_tot m ∧ ∀ (i : Nat) (f : rt_F), rt_sg m i = some f → ∃ f1 f2, rt_sg l i = some f1 ∧ rt_sg u i = some f2 ∧ P f1 f2 f = true := by
  intro l
  induction l with
  | nil =>
    intro u m h
    cases u with
    | nil =>
      cases m with
      | nil => exact ⟨rfl, (fun i f hf => by cases hf)⟩
      | cons b m => cases h
    | cons a u => cases h
  | cons q l ih =>
    intro u m h
    cases u with
    | nil => cases h
    | cons a u =>
      cases m with
      | nil => cases h
      | cons b m =>
        have h : cond (Nat.beq q.1 b.1) (cond (Nat.beq a.1 b.1) (cond (P q.2 a.2 b.2) (rt_cS P l u m) false) false) false = true := h
        obtain ⟨c1, h⟩ := rt_cnd h
        obtain ⟨c2, h⟩ := rt_cnd h
        obtain ⟨c3, h⟩ := rt_cnd h
        have c1 : q.1 = b.1 := Nat.eq_of_beq_eq_true c1
        have c2 : a.1 = b.1 := Nat.eq_of_beq_eq_true c2
        obtain ⟨i1, i2⟩ := ih u m h
        refine ⟨?_, fun i f hf => ?_⟩
        · show a.1 + rt_tot u = b.1 + rt_tot m
          rw [c2, i1]
        · have hf : cond (Nat.blt i b.1) (some b.2) (rt_sg m (i - b.1)) = some f := hf
          show ∃ f1 f2, cond (Nat.blt i q.1) (some q.2) (rt_sg l (i - q.1)) = some f1 ∧ cond (Nat.blt i a.1) (some a.2) (rt_sg u (i - a.1)) = some f2 ∧ _
          rw [c1, c2]
          cases c5 : Nat.blt i b.1 with
          | true =>
            rw [c5] at hf
            cases hf
            exact ⟨q.2, a.2, rfl, rfl, c3⟩
          | false =>
            rw [c5] at hf
            exact i2 _ f hf
theorem rt_c1K_ok {a b c : rt_K} (h : rt_c1K P a b c = true) : (∀ e, rt_shp κ b e → rt_shp κ c e) ∧ ∀ (i : Nat) (f : rt_F), rt_sT c i = some f → ∃ f1 f2, rt_sT a i = some f1 ∧ rt_sT b i = some f2 ∧ P f1 f2 f = true := by
  rcases a with x | x
  · rcases b with y | y
    · rcases c with z | z
      · have h : cond (Nat.beq y.1 z.1) (rt_cS P (rt_seg x.2) (rt_seg y.2) (rt_seg z.2)) false = true := h
        obtain ⟨c1, h⟩ := rt_cnd h
        have c1 : y.1 = z.1 := Nat.eq_of_beq_eq_true c1
        obtain ⟨h1, h2⟩ := rt_cS_ok _ _ _ h
        rw [rt_seg_tot, rt_seg_tot] at h1
        refine ⟨fun e he => ?_, fun i f hf => ?_⟩
        · obtain ⟨vs, e1, e2⟩ := he
          exact ⟨vs, by rw [← c1]; exact e1, by rw [← h1]; exact e2⟩
        · have hf : ri_nth z.2 i = some f := hf
          rw [ri_nth_eq, ← rt_seg_sg] at hf
          obtain ⟨f1, f2, k1, k2, k3⟩ := h2 i f hf
          rw [rt_seg_sg, ← ri_nth_eq] at k1 k2
          exact ⟨f1, f2, k1, k2, k3⟩
      · cases h
    · cases h
  · rcases b with y | y
    · cases h
    · rcases c with z | z
      · cases h
      · have h : cond (Nat.beq y.1 z.1) (rt_cS P x.2 y.2 z.2) false = true := h
        obtain ⟨c1, h⟩ := rt_cnd h
        have c1 : y.1 = z.1 := Nat.eq_of_beq_eq_true c1
        obtain ⟨h1, h2⟩ := rt_cS_ok _ _ _ h
        refine ⟨fun e he => ?_, h2⟩
        have he : (y.1 ≤ 2 ∧ ∃ f : Nat → Int32, e = .inl (κ y.1, rt_tot y.2, .inl f)) ∨ (y.1 = 3 ∧ ∃ f : Nat → Int64, e = .inl (κ 3, rt_tot y.2, .inr (.inl f))) ∨ (4 ≤ y.1 ∧ y.1 ≤ 7 ∧ ∃ f : Nat → Option Nat, e = .inl (κ y.1, rt_tot y.2, .inr (.inr (.inr (.inr f))))) := he
        rw [c1, h1] at he
        exact he
theorem rt_cK_ok : ∀ (l u m : List rt_K), rt_cK P l u m = true → ∀ k : Nat, (∀ b, u[k]? = some b → ∃ c, m[k]? = some c) ∧ ∀ c, m[k]? = some c → ∃ a b, l[k]? = some a ∧ u[k]? = some b ∧ rt_c1K P a b c = true := by
  intro l
  induction l with
  | nil =>
    intro u m h k
    cases u with
    | nil =>
      cases m with
      | nil => exact ⟨(fun a ha => by cases ha), (fun b hb => by cases hb)⟩
      | cons b m => cases h
    | cons a u => cases h
  | cons q l ih =>
    intro u m h k
    cases u with
    | nil => cases h
    | cons a u =>
      cases m with
      | nil => cases h
      | cons b m =>
        have h : cond (rt_c1K P q a b) (rt_cK P l u m) false = true := h
        obtain ⟨c1, h⟩ := rt_cnd h
        cases k with
        | zero =>
          refine ⟨fun b' _ => ⟨b, rfl⟩, fun c hc => ?_⟩
          cases hc
          exact ⟨q, a, rfl, rfl, c1⟩
        | succ k => exact ih u m h k
theorem rt_kd_at {l : List rt_K} (hl : KK[g]? = some l) (k : Nat) : rt_kd KK g k = l[k]? := by
  unfold rt_kd
  rw [ri_nth_eq, hl]
  exact ri_nth_eq _ _
/-- behind a call: the caller's cells -/
theorem rt_mix_hp {l u m : List rt_K} (hl : KK[g]? = some l) (hu : KK[g']? = some u) (hm : KK[g'']? = some m) (hc : rt_cK rt_mxP l u m = true) (hΦ : Φ g'' (t0 - s'') ws') (hh : rt_hp KK κ K ad ws0 Φ t0 g s ws) (hb : rt_hp KK κ K ad ws Φ t1 g' s' ws') : rt_hp KK κ K ad ws0 Φ t0 g'' s'' ws' := by
  obtain ⟨-, hH, hA, -⟩ := hh
  obtain ⟨had, hH', hA', -⟩ := hb
  refine ⟨had, fun i k hi => ?_, fun i k j kd f hi hkd hf hfl => ?_, hΦ⟩
  · obtain ⟨q, e, kd, h1, h2, h3, h4⟩ := hH' i k hi
    rw [rt_kd_at hu] at h2
    obtain ⟨w1, w2⟩ := rt_cK_ok _ _ _ hc k
    obtain ⟨c, hcc⟩ := w1 _ h2
    obtain ⟨a, b, f1, f2, f3⟩ := w2 c hcc
    have : b = kd := Option.some.inj (f2.symm.trans h2)
    subst this
    obtain ⟨s1, s2⟩ := rt_c1K_ok (κ := κ) f3
    refine ⟨q, e, c, h1, by rw [rt_kd_at hm]; exact hcc, s1 e h3, fun j f hf => ?_⟩
    obtain ⟨fa, fb, t1, t2, t3⟩ := s2 j f hf
    obtain ⟨v, v1, v2⟩ := h4 j fb t2
    refine ⟨v, v1, ?_⟩
    obtain ⟨-, t3⟩ := rt_cnd t3
    obtain ⟨-, t3⟩ := rt_cnd t3
    cases c3 : rt_sbT fb.2 f.2 with
    | true => exact rt_sbT_ok c3 v2
    | false =>
      rw [c3, cond_false] at t3
      obtain ⟨c4, t3⟩ := rt_cnd t3
      have c4 : fb.1 = 1 := Nat.eq_of_beq_eq_true c4
      obtain ⟨q1, q0, e1, e0, g1, g2, g3⟩ := hA' i k j b fb hi (by rw [rt_kd_at hu]; exact f2) t2 c4
      have := Option.some.inj (h1.symm.trans g1)
      cases this
      obtain ⟨q2, e2, kd2, k1, k2, -, k4⟩ := hH i k hi
      have := Option.some.inj (g2.symm.trans k1)
      cases this
      rw [rt_kd_at hl] at k2
      have : kd2 = a := Option.some.inj (k2.symm.trans f1)
      subst this
      obtain ⟨v', v3, v4⟩ := k4 j fa t1
      have : v' = v := by
        rw [g3, v3] at v1
        exact Option.some.inj v1
      subst this
      exact rt_sbT_ok t3 v4
  · rw [rt_kd_at hm] at hkd
    obtain ⟨w1, w2⟩ := rt_cK_ok _ _ _ hc k
    obtain ⟨a, b, f1, f2, f3⟩ := w2 kd hkd
    obtain ⟨s1, s2⟩ := rt_c1K_ok (κ := κ) f3
    obtain ⟨fa, fb, t1, t2, t3⟩ := s2 j f hf
    obtain ⟨d1, t3⟩ := rt_cnd t3
    obtain ⟨d2, -⟩ := rt_cnd t3
    obtain ⟨q1, q0, e1, e0, g1, g2, g3⟩ := hA' i k j b fb hi (by rw [rt_kd_at hu]; exact f2) t2 (rt_flk_ok d2 hfl)
    obtain ⟨q3, q2, e3, e2, k1, k2, k3⟩ := hA i k j a fa hi (by rw [rt_kd_at hl]; exact f1) t1 (rt_flk_ok d1 hfl)
    have := Option.some.inj (g2.symm.trans k1)
    cases this
    exact ⟨q1, q2, e1, e2, g1, k2, g3.trans k3⟩
/-- at a call: the callee's cells; nothing has changed since -/
theorem rt_ent_hp {l m : List rt_K} (hl : KK[g]? = some l) (hm : KK[g']? = some m) (hc : rt_cK rt_enP l l m = true) (hΦ : Φ g' (t1 - s') ws) (hh : rt_hp KK κ K ad ws0 Φ t0 g s ws) : rt_hp KK κ K ad ws Φ t1 g' s' ws := by
  obtain ⟨had, hH, -, -⟩ := hh
  have key : ∀ (i k : Nat), K[i]? = some k → ∃ (q : Nat) (e : va_E) (kd : rt_K), ws[i]? = some (q, e) ∧ rt_kd KK g' k = some kd ∧ rt_gC κ K ad kd e := by
    intro i k hi
    obtain ⟨q, e, kd, h1, h2, h3, h4⟩ := hH i k hi
    rw [rt_kd_at hl] at h2
    obtain ⟨w1, w2⟩ := rt_cK_ok _ _ _ hc k
    obtain ⟨c, hcc⟩ := w1 _ h2
    obtain ⟨a, b, f1, f2, f3⟩ := w2 c hcc
    have : b = kd := Option.some.inj (f2.symm.trans h2)
    subst this
    obtain ⟨s1, s2⟩ := rt_c1K_ok (κ := κ) f3
    refine ⟨q, e, c, h1, by rw [rt_kd_at hm]; exact hcc, s1 e h3, fun j f hf => ?_⟩
    obtain ⟨fa, fb, t1, t2, t3⟩ := s2 j f hf
    obtain ⟨v, v1, v2⟩ := h4 j fb t2
    exact ⟨v, v1, rt_sbT_ok t3 v2⟩
  refine ⟨had, key, fun i k j kd f hi hkd hf hfl => ?_, hΦ⟩
  obtain ⟨q, e, _, h1, -⟩ := key i k hi
  exact ⟨q, q, e, e, h1, h1, rfl⟩
theorem rt_frS_ok : ∀ {l : List (Nat × rt_F)}, rt_frS l = true → ∀ {i : Nat} {f : rt_F}, rt_sg l i = some f → f.1 = 1 := by
  intro l
  induction l with
  | nil => intro _ i f hf; cases hf
  | cons q l ih =>
    intro h i f hf
    have h : cond (Nat.beq q.2.1 1) (rt_frS l) false = true := h
    obtain ⟨c1, h⟩ := rt_cnd h
    have hf : cond (Nat.blt i q.1) (some q.2) (rt_sg l (i - q.1)) = some f := hf
    cases c5 : Nat.blt i q.1 with
    | true =>
      rw [c5] at hf
      cases hf
      exact Nat.eq_of_beq_eq_true c1
    | false =>
      rw [c5] at hf
      exact ih h hf
theorem rt_kS_sT (kd : rt_K) (i : Nat) : rt_sT kd i = rt_sg (rt_kS kd) i := by
  rcases kd with x | x
  · show ri_nth x.2 i = rt_sg (rt_seg x.2) i
    rw [ri_nth_eq, rt_seg_sg]
  · rfl
theorem rt_shp_sT {kd : rt_K} {e : va_E} (h : rt_shp κ kd e) {i : Nat} {v : Value} (hv : rt_sl e i = some v) : ∃ f, rt_sT kd i = some f := by
  rcases kd with x | x
  · obtain ⟨vs, rfl, e2⟩ := h
    have hv : vs[i]? = some v := hv
    have hi := (List.getElem?_eq_some_iff.mp hv).1
    have hi : i < x.2.length := by omega
    refine ⟨x.2[i], ?_⟩
    show ri_nth x.2 i = _
    rw [ri_nth_eq]
    exact List.getElem?_eq_getElem hi
  · have hn : ∃ c y, e = .inl (c, rt_tot x.2, y) := by
      have h : (x.1 ≤ 2 ∧ ∃ f : Nat → Int32, e = .inl (κ x.1, rt_tot x.2, .inl f)) ∨ (x.1 = 3 ∧ ∃ f : Nat → Int64, e = .inl (κ 3, rt_tot x.2, .inr (.inl f))) ∨ (4 ≤ x.1 ∧ x.1 ≤ 7 ∧ ∃ f : Nat → Option Nat, e = .inl (κ x.1, rt_tot x.2, .inr (.inr (.inr (.inr f))))) := h
      rcases h with ⟨-, f, h⟩ | ⟨-, f, h⟩ | ⟨-, -, f, h⟩
      · exact ⟨_, _, h⟩
      · exact ⟨_, _, h⟩
      · exact ⟨_, _, h⟩
    obtain ⟨c, y, rfl⟩ := hn
    by_cases hi : i < rt_tot x.2
    · exact rt_sg_tot hi
    · unfold rt_sl at hv
      have hv : (if i < rt_tot x.2 then _ else none) = some v := hv
      rw [if_neg hi] at hv
      cases hv
/-- what the overlay says outlasts a call that freezes it -/
theorem rt_frz_ok (hcx : rt_ctx KK K ad Φ) (had : ri_ad ws = ad) (hS : ∀ (i k q : Nat) (kd : rt_K) (e : va_E), K[i]? = some k → rt_kd KK g' k = some kd → ws[i]? = some (q, e) → rt_shp κ kd e) {R : List Nat} (hR : rt_okR K ad R ν) (hb : rt_hp KK κ K ad ws Φ t1 g' s' ws') {o : rt_O} (hf : rt_frz KK g' R o = true) (ho : rt_gO τ ν lm K ad ws o) : rt_gO τ ν lm K ad ws' o := by
  obtain ⟨j, q, i, e, b, v, o1, o2, o3, o4, o5, o6, o7⟩ := ho
  obtain ⟨on, ⟨s1, s2⟩, ox⟩ := o
  have o1 : on = j + 1 := o1
  subst o1
  have hf : (match (generalizing := false) ri_nth R j with
    | none => false
    | some k => (match (generalizing := false) rt_kd KK g' k with
      | none => false
      | some kd => (match (generalizing := false) s1 with
        | 0 => (match (generalizing := false) rt_sT kd (Int.toNat s2) with
          | none => false
          | some f => Nat.beq f.1 1)
        | Nat.succ _ => rt_frS (rt_kS kd)))) = true := hf
  rw [ri_nth_eq] at hf
  cases hj : R[j]? with
  | none => rw [hj] at hf; cases hf
  | some k =>
    rw [hj] at hf
    obtain ⟨q', e1, e2⟩ := hR.2 j k hj
    have : q' = q := Option.some.inj (e1.symm.trans o2)
    subst this
    have hK : K[i]? = some k := rt_ad_idx hcx had e2 o3
    obtain ⟨q2, e', kd, h1, h2, h3, h4⟩ := hb.2.1 i k hK
    have hf : (match (generalizing := false) rt_kd KK g' k with
      | none => false
      | some kd => (match (generalizing := false) s1 with
        | 0 => (match (generalizing := false) rt_sT kd (Int.toNat s2) with
          | none => false
          | some f => Nat.beq f.1 1)
        | Nat.succ _ => rt_frS (rt_kS kd))) = true := hf
    rw [h2] at hf
    have hf : (match (generalizing := false) s1 with
      | 0 => (match (generalizing := false) rt_sT kd (Int.toNat s2) with
        | none => false
        | some f => Nat.beq f.1 1)
      | Nat.succ _ => rt_frS (rt_kS kd)) = true := hf
    have hfz : ∃ f, rt_sT kd (b + s2).toNat = some f ∧ f.1 = 1 := by
      cases s1 with
      | zero =>
        have o4 : b = 0 := (Option.some.inj o4).symm
        subst o4
        have hf : (match (generalizing := false) rt_sT kd (Int.toNat s2) with
          | none => false
          | some f => Nat.beq f.1 1) = true := hf
        rw [Int.zero_add]
        cases hs : rt_sT kd (Int.toNat s2) with
        | none => rw [hs] at hf; cases hf
        | some f =>
          rw [hs] at hf
          exact ⟨f, rfl, Nat.eq_of_beq_eq_true hf⟩
      | succ n =>
        have hf : rt_frS (rt_kS kd) = true := hf
        obtain ⟨f, hs⟩ := rt_shp_sT (hS i k _ kd e hK h2 o3) o6
        refine ⟨f, hs, ?_⟩
        rw [rt_kS_sT] at hs
        exact rt_frS_ok hf hs
    obtain ⟨f, f1, f2⟩ := hfz
    obtain ⟨q3, q4, e3, e4, k1, k2, k3⟩ := hb.2.2.1 i k _ kd f hK h2 f1 f2
    have := Option.some.inj (k2.symm.trans o3)
    cases this
    have hq : q3 = q' := by
      have a1 : (ri_ad ws')[i]? = some q3 := by
        rw [ri_ad_at k1]
      have a2 : (ri_ad ws)[i]? = some q' := by
        rw [ri_ad_at o3]
      rw [hb.1] at a1
      rw [had] at a2
      exact Option.some.inj (a1.symm.trans a2)
    subst hq
    exact ⟨j, q3, i, e3, b, v, rfl, o2, k1, o4, o5, by rw [k3]; exact o6, o7⟩
/-- at a switch: what the overlay says of the slots that get narrower; each kind has one cell -/
theorem rt_so1_ok (hcx : rt_ctx KK K ad Φ) (had : ri_ad ws = ad) (h1 : ∀ (i i' k : Nat), K[i]? = some k → K[i']? = some k → i = i') {n : rt_N} (hN : rt_okN K ad n τ ν lm) {x : Nat × Nat × rt_T} : ∀ {ov : List rt_O}, (∀ o ∈ ov, rt_gO τ ν lm K ad ws o) → rt_so1 n.1 n.2.1 ov x = true → ∀ (i q : Nat) (e : va_E) (v : Value), K[i]? = some x.1 → ws[i]? = some (q, e) → rt_sl e x.2.1 = some v → rt_gT K ad x.2.2 v := by
  intro ov
  induction ov with
  | nil => intro _ h; cases h
  | cons o ov ih =>
    intro hov h i q e v hi hw hv
    have ih := fun h => ih (fun o ho => hov o (List.mem_cons_of_mem _ ho)) h i q e v hi hw hv
    obtain ⟨on, os, ox⟩ := o
    cases on with
    | zero => exact ih h
    | succ j =>
      have h : (match ri_nth n.2.1 j with
        | none => rt_so1 n.1 n.2.1 ov x
        | some k => cond (Nat.beq k x.1) (cond (rt_seq os (0, .ofNat x.2.1)) (cond (rt_is n.1 ox x.2.2) true (rt_so1 n.1 n.2.1 ov x)) (rt_so1 n.1 n.2.1 ov x)) (rt_so1 n.1 n.2.1 ov x)) = true := h
      rw [ri_nth_eq] at h
      cases hj : n.2.1[j]? with
      | none => rw [hj] at h; exact ih h
      | some k =>
        rw [hj] at h
        have h : cond (Nat.beq k x.1) (cond (rt_seq os (0, .ofNat x.2.1)) (cond (rt_is n.1 ox x.2.2) true (rt_so1 n.1 n.2.1 ov x)) (rt_so1 n.1 n.2.1 ov x)) (rt_so1 n.1 n.2.1 ov x) = true := h
        cases c1 : Nat.beq k x.1 with
        | false => rw [c1] at h; exact ih h
        | true =>
          rw [c1, cond_true] at h
          cases c2 : rt_seq os (0, .ofNat x.2.1) with
          | false => rw [c2] at h; exact ih h
          | true =>
            rw [c2, cond_true] at h
            cases c3 : rt_is n.1 ox x.2.2 with
            | false => rw [c3] at h; exact ih h
            | true =>
              have c1 : k = x.1 := Nat.eq_of_beq_eq_true c1
              subst c1
              have c2 := rt_seq_ok c2
              subst c2
              obtain ⟨j', q', i', e', b, v', o1, o2, o3, o4, o5, o6, o7⟩ := hov _ List.mem_cons_self
              have o1 : j + 1 = j' + 1 := o1
              have : j' = j := by omega
              subst this
              obtain ⟨q1, e1, e2⟩ := hN.2.1.2 j' _ hj
              have : q1 = q' := Option.some.inj (e1.symm.trans o2)
              subst this
              have hK : K[i']? = some x.1 := rt_ad_idx hcx had e2 o3
              have := h1 i i' _ hi hK
              subst this
              have := Option.some.inj (hw.symm.trans o3)
              cases this
              have o4 : b = 0 := (Option.some.inj o4).symm
              subst o4
              have o6 : rt_sl e (0 + (x.2.1 : Int)).toNat = some v' := o6
              have e5 : (0 + (x.2.1 : Int)).toNat = x.2.1 := by omega
              rw [e5, hv] at o6
              cases o6
              exact rt_is_ok hN.1 c3 o7
theorem rt_so_ok : ∀ {r : List (Nat × Nat × rt_T)} {E : List rt_B} {R : List Nat} {ov : List rt_O}, rt_so E R ov r = true → ∀ x ∈ r, rt_so1 E R ov x = true := by
  intro r
  induction r with
  | nil => intro E R ov _ x hx; cases hx
  | cons y r ih =>
    intro E R ov h x hx
    have h : cond (rt_so1 E R ov y) (rt_so E R ov r) false = true := h
    obtain ⟨c1, h⟩ := rt_cnd h
    rcases List.mem_cons.mp hx with rfl | hx
    · exact c1
    · exact ih h x hx
end RT53
