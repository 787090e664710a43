/-! Contexts: from one to another; what holds between calls -/
def mGx (a b c : rt_F) : Bool := cond (rt_sbT b.2 c.2) true (cond (Nat.beq b.1 1) (rt_sbT a.2 c.2) false)
noncomputable def mG3 (K1 : List (List rt_K)) (g1 : Nat) (K2 : List (List rt_K)) (g2 : Nat) (K3 : List (List rt_K)) (g3 : Nat) : Bool := match ri_nth K1 g1 with
  | none => false
  | some a => (match ri_nth K2 g2 with
    | none => false
    | some b => (match ri_nth K3 g3 with
      | none => false
      | some c => rt_cK mGx a b c))
noncomputable def mSx (K1 : List (List rt_K)) (g1 : Nat) (K2 : List (List rt_K)) (g2 : Nat) (f : Nat) (v : Int) : Bool := match ri_nth K1 g1 with
  | none => false
  | some a => (match ri_nth K2 g2 with
    | none => false
    | some b => rt_swC1 [a, b] (fun _ => 0) 0 (1, [(79, f, .inl (v, v))]))
/-- these slots are frozen -/
noncomputable def mF1 (KK : List (List rt_K)) (g i j : Nat) : Bool := match ri_nth mK i with
  | none => false
  | some k => (match rt_kd KK g k with
    | some kd => (match rt_sT kd j with
      | some f => Nat.beq f.1 1
      | none => false)
    | none => false)
noncomputable def mFs (KK : List (List rt_K)) (g i lo n : Nat) : Bool := rt_allK (fun j (_ : Unit) => mF1 KK g i (Nat.add lo j)) (List.replicate n ()) 0
/-- the codes of a bank, boxes, the time are frozen -/
noncomputable def mFzB (KK : List (List rt_K)) (g b : Nat) : Bool := cond (mF1 KK g 27 b) (cond (mFs KK g 33 (4 * b) 4) (cond (mFs KK g 34 (4 * b) 4) (mFs KK g 36 (400 * b) 400) false) false) false
noncomputable def mFzX (KK : List (List rt_K)) (g : Nat) : Bool := cond (mFs KK g 65 0 3) (cond (mF1 KK g 66 0) (cond (mF1 KK g 66 20) (cond (mF1 KK g 66 40) (mF1 KK g 0 97) false) false) false) false
def mBox (n : Nat) (w : va_W) : Prop := ∀ q : Nat, q < 3 → mv w 65 q = -1 ∨ mv w 66 (20 * q) ≤ (n : Int) - 1
def mInv (Kb : Nat → List (List rt_K)) (κ : Nat → ClassId) (ad : List Nat) (b nb nr : Nat) (w : va_W) : Prop := ri_ad w = ad ∧ rt_gH (Kb nb) 0 κ mK ad w ∧ rt_gH (Kb nr) 37 κ mK ad w ∧ mR b w ∧ mBox nb w
section MST
variable {l : Launch} {D : va_G} {κ : Nat → ClassId} {ad : List Nat} {K1 K2 K3 KK : List (List rt_K)} {g g1 g2 g3 b : Nat} {w w' w0 : va_W}
theorem mG3_ok (h : mG3 K1 g1 K2 g2 K3 g3 = true) (hA : rt_gH K1 g1 κ mK ad w0) (hB : rt_gH K2 g2 κ mK ad w) (hag : rt_ag (fun f => f = 1) K2 g2 mK w0 w) : rt_gH K3 g3 κ mK ad w := by
  unfold mG3 at h
  rw [ri_nth_eq, ri_nth_eq, ri_nth_eq] at h
  cases e1 : K1[g1]? with
  | none => rw [e1] at h; cases h
  | some A =>
    rw [e1] at h
    cases e2 : K2[g2]? with
    | none => rw [e2] at h; cases h
    | some B =>
      rw [e2] at h
      cases e3 : K3[g3]? with
      | none => rw [e3] at h; cases h
      | some C =>
        rw [e3] at h
        have h : rt_cK mGx A B C = true := h
        intro i k hik
        obtain ⟨q, e, kd, h1, h2, h3⟩ := hB i k hik
        rw [rt_kd_at e2] at h2
        obtain ⟨c1, c2⟩ := rt_cK_ok _ _ _ h k
        obtain ⟨c, hc⟩ := c1 kd h2
        obtain ⟨a, b', f1, f2, f3⟩ := c2 c hc
        have : b' = kd := Option.some.inj (f2.symm.trans h2)
        subst this
        obtain ⟨s1, s2⟩ := rt_c1K_ok (κ := κ) f3
        refine ⟨q, e, c, h1, by rw [rt_kd_at e3]; exact hc, s1 _ h3.1, fun j f hf => ?_⟩
        obtain ⟨fa, fb, q1, q2, q3⟩ := s2 j f hf
        obtain ⟨v, v1, v2⟩ := h3.2 j fb q2
        refine ⟨v, v1, ?_⟩
        unfold mGx at q3
        cases hs : rt_sbT fb.2 f.2 with
        | true => exact rt_sbT_ok hs v2
        | false =>
          rw [hs] at q3
          obtain ⟨q4, q5⟩ := rt_cnd q3
          have q4 : fb.1 = 1 := Nat.eq_of_beq_eq_true q4
          obtain ⟨qq, qq0, ee, ee0, a1, a2, a3⟩ := hag i k j b' fb hik (by rw [rt_kd_at e2]; exact h2) q2 q4
          rw [h1] at a1
          cases a1
          obtain ⟨q', e', kd', r1, r2, r3⟩ := hA i k hik
          rw [a2] at r1
          cases r1
          rw [rt_kd_at e1] at r2
          have : kd' = a := Option.some.inj (r2.symm.trans f1)
          subst this
          obtain ⟨v', v1', v2'⟩ := r3.2 j fa q1
          rw [← a3, v1] at v1'
          cases v1'
          exact rt_sbT_ok q5 v2'
theorem mSx_ok {f : Nat} {v : Int} {a : Int × Int} (h : mSx K1 g1 K2 g2 f v = true) (ht : mTy K1 g1 0 f = some a) (hA : rt_gH K1 g1 κ mK ad w) (had : ri_ad w = ad) (hv : mv w 0 f = v) : rt_gH K2 g2 κ mK ad w := by
  unfold mSx at h
  rw [ri_nth_eq, ri_nth_eq] at h
  cases e1 : K1[g1]? with
  | none => rw [e1] at h; cases h
  | some A =>
    rw [e1] at h
    cases e2 : K2[g2]? with
    | none => rw [e2] at h; cases h
    | some B =>
      rw [e2] at h
      have h : rt_swC1 [A, B] (fun _ => 0) 0 (1, [(79, f, .inl (v, v))]) = true := h
      have hA' : rt_gH [A, B] 0 κ mK ad w := fun i k hik => by
        obtain ⟨q, e, kd, h1, h2, h3⟩ := hA i k hik
        rw [rt_kd_at e1] at h2
        exact ⟨q, e, kd, h1, by rw [rt_kd_at (show [A, B][0]? = some A from rfl)]; exact h2, h3⟩
      have := m_swT (Φ := fun _ _ _ => True) (ws0 := w) (t0 := 0) (s := 0) (s' := 0) h ⟨had, hA', m_agR hA', trivial⟩ (fun y hy i q e u hi hw hu => ?_) trivial
      · intro i k hik
        obtain ⟨q, e, kd, h1, h2, h3⟩ := this.2.1 i k hik
        rw [rt_kd_at (show [A, B][1]? = some B from rfl)] at h2
        exact ⟨q, e, kd, h1, by rw [rt_kd_at e2]; exact h2, h3⟩
      · rw [List.mem_singleton.mp hy] at hi hu ⊢
        have := mK_inj i 0 79 hi rfl
        subst this
        have hu : rt_sl e f = some u := hu
        obtain ⟨q', e', w1, w2, -, -⟩ := m_int hA ht
        rw [hw] at w1
        cases w1
        rw [hu] at w2
        cases w2
        exact ⟨_, rfl, by show v ≤ mv w 0 f; omega, by show mv w 0 f ≤ v; omega⟩
theorem mF1_ok {i j : Nat} (h : mF1 KK g i j = true) (hag : rt_ag (fun f => f = 1) KK g mK w w') : mv w' i j = mv w i j := by
  unfold mF1 at h
  rw [ri_nth_eq] at h
  cases hk : mK[i]? with
  | none => rw [hk] at h; cases h
  | some k =>
    rw [hk] at h
    have h : (match (generalizing := false) rt_kd KK g k with
      | some kd => (match (generalizing := false) rt_sT kd j with
        | some f => Nat.beq f.1 1
        | none => false)
      | none => false) = true := h
    cases hkd : rt_kd KK g k with
    | none => rw [hkd] at h; cases h
    | some kd =>
      rw [hkd] at h
      have h : (match (generalizing := false) rt_sT kd j with
        | some f => Nat.beq f.1 1
        | none => false) = true := h
      cases hf : rt_sT kd j with
      | none => rw [hf] at h; cases h
      | some f =>
        rw [hf] at h
        exact mv_ag hag hk hkd hf (Nat.eq_of_beq_eq_true h)
theorem mFs_ok {i lo n : Nat} (h : mFs KK g i lo n = true) (hag : rt_ag (fun f => f = 1) KK g mK w w') {j : Nat} (h1 : lo ≤ j) (h2 : j < lo + n) : mv w' i j = mv w i j := by
  have := rt_allK_ok h (j - lo) () (by rw [List.getElem?_replicate, if_pos (by omega)])
  rw [Nat.zero_add, show Nat.add lo (j - lo) = j from by show lo + (j - lo) = j; omega] at this
  exact mF1_ok this hag
theorem mR_fz (h : mFzB KK g b = true) (hag : rt_ag (fun f => f = 1) KK g mK w w') (hR : mR b w) : mR b w' := by
  obtain ⟨c1, h2⟩ := rt_cnd h
  obtain ⟨c2, h3⟩ := rt_cnd h2
  obtain ⟨c3, c4⟩ := rt_cnd h3
  have e27 := mF1_ok c1 hag
  intro u hu hlt
  have e33 := mFs_ok c2 hag (j := 4 * b + u) (by omega) (by omega)
  have e34 := mFs_ok c3 hag (j := 4 * b + u) (by omega) (by omega)
  obtain ⟨a1, a2, a3, a4⟩ := hR u hu (by omega)
  unfold mOkC
  rw [e33, e34]
  refine ⟨a1, a2, a3, ?_⟩
  rw [hts_congr (g := fun k => mv w 36 ((mv w 33 (4 * b + u)).toNat + k))]
  · exact a4
  · intro k hk
    exact mFs_ok c4 hag (by omega) (by omega)
theorem mX_fz {n : Nat} (h : mFzX KK g = true) (hag : rt_ag (fun f => f = 1) KK g mK w w') : (mBox n w → mBox n w') ∧ mv w' 0 97 = mv w 0 97 := by
  obtain ⟨c1, h2⟩ := rt_cnd h
  obtain ⟨c2, h3⟩ := rt_cnd h2
  obtain ⟨c3, h4⟩ := rt_cnd h3
  obtain ⟨c4, c5⟩ := rt_cnd h4
  refine ⟨fun hB q hq => ?_, mF1_ok c5 hag⟩
  rw [mFs_ok c1 hag (j := q) (by omega) (by omega)]
  have e : mv w' 66 (20 * q) = mv w 66 (20 * q) := by
    match q, hq with
    | 0, _ => exact mF1_ok c2 hag
    | 1, _ => exact mF1_ok c3 hag
    | 2, _ => exact mF1_ok c4 hag
  rw [e]
  exact hB q hq
end MST
