/-! Calls of the reference: any contract; image, back, later -/
def mI (κ : Nat → ClassId) (ad : List Nat) (w : va_W) : Prop := ∃ nb nr, nb < 4 ∧ nr < 4 ∧ (mInv wK0 κ ad 0 nb nr w ∨ mInv wK1 κ ad 1 nb nr w)
def mQc (κ : Nat → ClassId) (ad : List Nat) (w : va_W) (ov : Option Value) (w' : va_W) : Prop := (∃ z : Int32, ov = some (.int z)) ∧ mv w' 0 97 = mv w 0 97 ∧ mI κ ad w'
noncomputable def mJq (KK : List (List rt_K)) (g q : Nat) (hi : Int) : Bool := cond (mBd KK g 66 (20 * q) (-1) hi) (cond (mF1 KK g 0 97) (rt_allK (fun j (_ : Unit) => cond (Nat.beq j q) true (cond (mF1 KK g 65 j) (mF1 KK g 66 (20 * j)) false)) (List.replicate 3 ()) 0) false) false
section MCALL
variable {l : Launch} {D : va_G} {κ : Nat → ClassId} {ad : List Nat} {Kb : Nat → List (List rt_K)} {b nb : Nat}
theorem m_pubQ {C : rt_Co} {KK : List (List rt_K)} {Φ : Nat → Int → va_W → Prop} {P : List Value → va_W → Prop} {Q : List Value → va_W → Option Value → va_W → Prop} (hC : rt_Con l D KK κ mK ad Φ C) (hpre : ∀ vs w, P vs w → ∃ τ ν lm, rt_pre KK κ mK ad Φ 0 τ ν lm C.2.1 C.2.2.1 vs w) (hQ : ∀ vs w ov w' ν, P vs w → ∀ Po ∈ C.2.2.2, rt_post KK κ mK ad Φ 0 ν Po w ov w' → Q vs w ov w') : rc_Met l κ D C.1.2 C.1.1 P Q := by
  intro y cc nL ret hm ws sz vs hp
  obtain ⟨τ, ν, lm, h1⟩ := hpre vs ws hp
  refine MetFree.mono (hC 0 τ ν lm y cc nL ret hm ws sz vs h1) (fun _ _ g => g) (fun _ _ _ _ _ g => g) (fun a st o t _ hq => ?_)
  obtain ⟨⟨⟨w', ov, m1, ⟨Po, m2, m2'⟩, m3⟩, m9⟩, hf⟩ := hq
  exact ⟨⟨⟨w', ov, m1, hQ vs ws ov w' ν hp Po m2 m2', m3⟩, m9⟩, hf⟩
theorem m_pubM1 {C : rt_Co} {k g' s : Nat} {T : Int × Int} (hC : rt_Con l D (Kb nb) κ mK ad (mF b) C) (hT : C.2.2.1 = tTop 79 k) (hP : C.2.2.2 = [((g', s), some (.inl T), [])]) (hg : mcl C.2.1 = 0) (hE : mEn (Kb nb) 0 C.2.1 = true) (hG : mGm Kb nb g') : rc_Met l κ D C.1.2 C.1.1 (fun vs w => (∃ nr, nr < 4 ∧ mInv Kb κ ad b nb nr w) ∧ ∃ q : Nat, ad[0]? = some q ∧ mArgs q k vs) (fun _ w ov w' => mQp Kb κ ad b nb w ov w') := m_pubM hC hT hg hE (fun P h => by
  rw [hP] at h
  rw [List.mem_singleton.mp h]
  exact ⟨hG, T, rfl⟩)
/-- one argument, a number -/
theorem m_pre1c {KK : List (List rt_K)} {g : Nat} {c : Int} {w : va_W} {q : Nat} {z : Int32} (hh : rt_hp KK κ mK ad w (mF b) 0 g 0 w) (hq : ad[0]? = some q) (hz : z.toInt = c) : rt_pre KK κ mK ad (mF b) 0 [] [q] [] g (([], [79], []), [some (.inr (.inl (79, 1))), some (.inl (0, c, c))], []) [.ref q, .int z] w := by
  refine ⟨hh, ⟨⟨rfl, fun k e b h1 => by cases h1⟩, ⟨rfl, fun j k h1 => ?_⟩, ⟨rfl, fun j c h1 => by cases h1⟩⟩, fun i x hx => ?_, (fun o ho => by cases ho), rfl⟩
  · match j, h1 with
    | 0, h1 => cases h1; exact ⟨q, rfl, 0, hq, rfl⟩
    | j + 1, h1 => cases h1
  · match i, hx with
    | 0, hx => cases hx; exact ⟨.ref q, rfl, q, rfl, ⟨0, hq, rfl⟩, Or.inr ⟨0, rfl, rfl⟩⟩
    | 1, hx => cases hx; exact ⟨.int z, rfl, z, rfl, rt_gI_0.mpr ⟨by omega, by omega⟩⟩
    | i + 2, hx => cases hx
theorem m_pre1b {KK : List (List rt_K)} {g : Nat} {lo hi : Int} {w : va_W} {q : Nat} {z : Int32} (hh : rt_hp KK κ mK ad w (mF b) 0 g 0 w) (hq : ad[0]? = some q) (h1 : lo ≤ z.toInt) (h2 : z.toInt ≤ hi) : rt_pre KK κ mK ad (mF b) 0 [z.toInt] [q] [] g (([((lo, hi), (0, 0), none, none)], [79], []), [some (.inr (.inl (79, 1))), some (.inl (1, 0, 0))], []) [.ref q, .int z] w := by
  refine ⟨hh, ⟨⟨rfl, fun k e b h1' h2' => ?_⟩, ⟨rfl, fun j k h1 => ?_⟩, ⟨rfl, fun j c h1 => by cases h1⟩⟩, fun i x hx => ?_, (fun o ho => by cases ho), rfl⟩
  · match k, h1', h2' with
    | 0, h1', h2' => cases h1'; cases h2'; exact m_okB h1 h2 (Or.inl rfl)
    | k + 1, h1', _ => cases h1'
  · match j, h1 with
    | 0, h1 => cases h1; exact ⟨q, rfl, 0, hq, rfl⟩
    | j + 1, h1 => cases h1
  · match i, hx with
    | 0, hx => cases hx; exact ⟨.ref q, rfl, q, rfl, ⟨0, hq, rfl⟩, Or.inr ⟨0, rfl, rfl⟩⟩
    | 1, hx => cases hx; exact ⟨.int z, rfl, z, rfl, m_gI rfl⟩
    | i + 2, hx => cases hx
theorem m_hp0 {g nr : Nat} {w : va_W} (hI : mInv Kb κ ad b nb nr w) (hg : mcl g = 0) (hE : mEn (Kb nb) 0 g = true) : rt_hp (Kb nb) κ mK ad w (mF b) 0 g 0 w := by
  obtain ⟨had, hH0, -, hR, -⟩ := hI
  have hHg := mEn_ok hE hH0 had
  exact ⟨had, hHg, m_agR hHg, by show mPsi b (mcl g) _ w; rw [hg]; exact hR⟩
theorem m_res {KK : List (List rt_K)} {g' s : Nat} {T : Int × Int} {w w' : va_W} {ov : Option Value} {ν : List Nat} {xs : List (Nat × Nat × rt_T)} (h : rt_post KK κ mK ad (mF b) 0 ν ((g', s), some (.inl T), xs) w ov w') : rt_hp KK κ mK ad w (mF b) 0 g' s w' ∧ ∃ z : Int32, ov = some (.int z) := by
  obtain ⟨h1, ⟨v, e, z, rfl, -⟩, -⟩ := h
  exact ⟨h1, z, e⟩
theorem m_after {g s nr : Nat} {w w' : va_W} (hG : mGm Kb nb g) (hnr : nr < 4) (hI : mInv Kb κ ad b nb nr w) (p1 : rt_hp (Kb nb) κ mK ad w (mF b) 0 g s w') : mv w' 0 97 = mv w 0 97 ∧ mInv Kb κ ad b nb nr w' := by
  obtain ⟨had, hH0, hH37, hR, hBx⟩ := hI
  obtain ⟨e1, e2, e3, e4⟩ := hG
  refine ⟨(mX_fz (n := nb) e3 p1.2.2.1).2, p1.1, mG3_ok e2 hH0 p1.2.1 p1.2.2.1, mG3_ok (e4 nr hnr) hH37 p1.2.1 p1.2.2.1, ?_, (mX_fz e3 p1.2.2.1).1 hBx⟩
  have this : mPsi b (mcl g) _ w' := p1.2.2.2
  rw [e1] at this
  exact this
/-- image of a box -/
theorem m_image {C : rt_Co} {q0 g g' : Nat} {T : Int × Int} (hq0 : q0 < 3) (hC : rt_Con l D (Kb nb) κ mK ad (mF b) C) (hT : C.2.2.1 = (([], [79], []), [some (.inr (.inl (79, 1))), some (.inl (0, (q0 : Int), (q0 : Int)))], [])) (hP : C.2.2.2 = [((g', 0), some (.inl T), [])]) (hg2 : C.2.1 = g) (hg : mcl g = 0) (hg' : mcl g' = 0) (hE : mEn (Kb nb) 0 g = true) (hG0 : mG3 (Kb nb) 0 (Kb nb) g' (Kb nb) 0 = true) (hG1 : ∀ nr, nr < 4 → mG3 (Kb nr) 37 (Kb nb) g' (Kb nr) 37 = true) (hJ : mJq (Kb nb) g' q0 ((nb : Int) - 1) = true) : rc_Met l κ D C.1.2 C.1.1 (fun vs w => (∃ nr, nr < 4 ∧ mInv Kb κ ad b nb nr w) ∧ ∃ (q : Nat) (z : Int32), ad[0]? = some q ∧ vs = [.ref q, .int z] ∧ z.toInt = q0) (fun _ w ov w' => mQp Kb κ ad b nb w ov w') := by
  subst hg2
  refine m_pubQ hC ?_ ?_
  · rintro vs w ⟨⟨nr, hnr, hI⟩, q, z, hq, rfl, hz⟩
    rw [hT]
    exact ⟨[], [q], [], m_pre1c (m_hp0 hI hg hE) hq hz⟩
  · rintro vs w ov w' ν ⟨⟨nr, hnr, had, hH0, hH37, hR, hBx⟩, -⟩ Po hPo hp
    rw [hP] at hPo
    rw [List.mem_singleton.mp hPo] at hp
    obtain ⟨p1, hz⟩ := m_res hp
    obtain ⟨j1, hJ⟩ := rt_cnd hJ
    obtain ⟨j2, j3⟩ := rt_cnd hJ
    refine ⟨hz, mF1_ok j2 p1.2.2.1, nr, hnr, p1.1, mG3_ok hG0 hH0 p1.2.1 p1.2.2.1, mG3_ok (hG1 nr hnr) hH37 p1.2.1 p1.2.2.1, ?_, fun q hq => ?_⟩
    · have this : mPsi b (mcl g') _ w' := p1.2.2.2
      rw [hg'] at this
      exact this
    · by_cases e : q = q0
      · subst e
        exact Or.inr (mBd_v p1.2.1 j1).2
      · have := rt_allK_ok j3 q () (by rw [List.getElem?_replicate, if_pos hq])
        rw [Nat.zero_add] at this
        have hne : Nat.beq q q0 = false := by
          cases h : Nat.beq q q0 with
          | false => rfl
          | true => exact absurd (Nat.eq_of_beq_eq_true h) e
        rw [hne] at this
        obtain ⟨k1, k2⟩ := rt_cnd this
        rw [mF1_ok k1 p1.2.2.1, mF1_ok k2 p1.2.2.1]
        exact hBx q hq
/-- back to a box -/
theorem m_back {Cv Cu : rt_Co} {q0 gv gu : Nat} {Tv Tu : Int × Int} (hq0 : q0 < 3) (hCv : rt_Con l D (Kb nb) κ mK ad (mF b) Cv) (hCu : rt_Con l D (Kb nb) κ mK ad (mF b) Cu) (hTv : Cv.2.2.1 = (([], [79], []), [some (.inr (.inl (79, 1))), some (.inl (0, (q0 : Int), (q0 : Int)))], [])) (hTu : Cu.2.2.1 = (([], [79], []), [some (.inr (.inl (79, 1))), some (.inl (0, (q0 : Int), (q0 : Int)))], [])) (hPv : Cv.2.2.2 = [((gv, 0), some (.inl Tv), [])]) (hPu : Cu.2.2.2 = [((gu, 0), some (.inl Tu), [])]) (hgv : Cv.2.1 = gv) (hgu : Cu.2.1 = gu) (hm : Cu.1.1 = Cv.1.1) (hGv : mGm Kb nb gv) (hGu : mGm Kb nb gu) (hsv : rt_swC1 (Kb nb) (fun _ => 0) 0 (gv, [(65, 20 * q0, .inl (-1, (nb : Int) - 1))]) = true) (hsu : rt_swC1 (Kb nb) (fun _ => 0) 0 (gu, [(64, q0, .inl (-1, -1))]) = true) (hb1 : mBd (Kb nb) 0 66 (20 * q0) (-1) 2 = true) (hb2 : mIn (Kb nb) 0 65 q0 (-1) (-1) = true) (hdv : Cv.1.2 ≤ 200) (hdu : Cu.1.2 ≤ 200) : rc_ME l κ D Cv.1.1 (fun vs w => (∃ nr, nr < 4 ∧ mInv Kb κ ad b nb nr w) ∧ ∃ (q : Nat) (z : Int32), ad[0]? = some q ∧ vs = [.ref q, .int z] ∧ z.toInt = q0) (fun _ w ov w' => mQp Kb κ ad b nb w ov w') := by
  subst hgv
  subst hgu
  have one : rc_ME l κ D Cv.1.1 (fun vs w => (∃ nr, nr < 4 ∧ mInv Kb κ ad b nb nr w) ∧ mv w 66 (20 * q0) ≤ (nb : Int) - 1 ∧ ∃ (q : Nat) (z : Int32), ad[0]? = some q ∧ vs = [.ref q, .int z] ∧ z.toInt = q0) (fun _ w ov w' => mQp Kb κ ad b nb w ov w') := by
    refine rc_ME_of hdv (m_pubQ hCv ?_ ?_)
    · rintro vs w ⟨⟨nr, hnr, had, hH0, hH37, hR, hBx⟩, hle, q, z, hq, rfl, hz⟩
      rw [hTv]
      refine ⟨[], [q], [], m_pre1c (m_swT (s := 0) (s' := 0) hsv (hh := ⟨had, hH0, m_agR hH0, hR⟩) (fun y hy i q' e v hi hw hv => ?_) (by show mPsi b (mcl Cv.2.1) _ w; rw [hGv.1]; exact hR)) hq hz⟩
      rw [List.mem_singleton.mp hy] at hi hv ⊢
      have := mK_inj i 66 65 hi rfl
      subst this
      obtain ⟨a, ta, l1, l2⟩ := mBd_ok hb1
      obtain ⟨q', e', w1, w2, l3, l4⟩ := m_int hH0 ta
      rw [hw] at w1
      cases w1
      have hv : rt_sl e (20 * q0) = some v := hv
      rw [hv] at w2
      cases w2
      exact ⟨_, rfl, by show -1 ≤ mv w 66 (20 * q0); omega, hle⟩
    · rintro vs w ov w' ν ⟨⟨nr, hnr, hI⟩, -⟩ Po hPo hp
      rw [hPv] at hPo
      rw [List.mem_singleton.mp hPo] at hp
      obtain ⟨p1, hz⟩ := m_res hp
      obtain ⟨a1, a2⟩ := m_after hGv hnr hI p1
      exact ⟨hz, a1, nr, hnr, a2⟩
  have two : rc_ME l κ D Cv.1.1 (fun vs w => (∃ nr, nr < 4 ∧ mInv Kb κ ad b nb nr w) ∧ mv w 65 q0 = -1 ∧ ∃ (q : Nat) (z : Int32), ad[0]? = some q ∧ vs = [.ref q, .int z] ∧ z.toInt = q0) (fun _ w ov w' => mQp Kb κ ad b nb w ov w') := by
    rw [← hm]
    refine rc_ME_of hdu (m_pubQ hCu ?_ ?_)
    · rintro vs w ⟨⟨nr, hnr, had, hH0, hH37, hR, hBx⟩, hle, q, z, hq, rfl, hz⟩
      rw [hTu]
      refine ⟨[], [q], [], m_pre1c (m_swT (s := 0) (s' := 0) hsu (hh := ⟨had, hH0, m_agR hH0, hR⟩) (fun y hy i q' e v hi hw hv => ?_) (by show mPsi b (mcl Cu.2.1) _ w; rw [hGu.1]; exact hR)) hq hz⟩
      rw [List.mem_singleton.mp hy] at hi hv ⊢
      have := mK_inj i 65 64 hi rfl
      subst this
      obtain ⟨a, ta, l1, l2⟩ := mIn_ok hb2
      obtain ⟨q', e', w1, w2, l3, l4⟩ := m_int hH0 ta
      rw [hw] at w1
      cases w1
      have hv : rt_sl e q0 = some v := hv
      rw [hv] at w2
      cases w2
      exact ⟨_, rfl, by show -1 ≤ mv w 65 q0; omega, by show mv w 65 q0 ≤ -1; omega⟩
    · rintro vs w ov w' ν ⟨⟨nr, hnr, hI⟩, -⟩ Po hPo hp
      rw [hPu] at hPo
      rw [List.mem_singleton.mp hPo] at hp
      obtain ⟨p1, hz⟩ := m_res hp
      obtain ⟨a1, a2⟩ := m_after hGu hnr hI p1
      exact ⟨hz, a1, nr, hnr, a2⟩
  refine rc_ME_mono (rc_ME_or one two) (fun vs ws hp => ?_) (fun _ _ _ _ _ h => h)
  obtain ⟨⟨nr, hnr, hI⟩, hr⟩ := hp
  rcases hI.2.2.2.2 q0 hq0 with h | h
  · exact Or.inr ⟨⟨nr, hnr, hI⟩, h, hr⟩
  · exact Or.inl ⟨⟨nr, hnr, hI⟩, h, hr⟩
/-- an argument out of bounds -/
theorem m_outb {C : rt_Co} {lo hi : Int} {g' : Nat} {T : Int × Int} (hC : rt_Con l D (Kb nb) κ mK ad (mF b) C) (hT : C.2.2.1 = (([((lo, hi), (0, 0), none, none)], [79], []), [some (.inr (.inl (79, 1))), some (.inl (1, 0, 0))], [])) (hP : C.2.2.2 = [((g', 0), some (.inl T), [])]) (hg : mcl C.2.1 = 0) (hE : mEn (Kb nb) 0 C.2.1 = true) (hG : mGm Kb nb g') : rc_Met l κ D C.1.2 C.1.1 (fun vs w => (∃ nr, nr < 4 ∧ mInv Kb κ ad b nb nr w) ∧ ∃ (q : Nat) (z : Int32), ad[0]? = some q ∧ vs = [.ref q, .int z] ∧ lo ≤ z.toInt ∧ z.toInt ≤ hi) (fun _ w ov w' => mQp Kb κ ad b nb w ov w') := by
  refine m_pubQ hC ?_ ?_
  · rintro vs w ⟨⟨nr, hnr, hI⟩, q, z, hq, rfl, h1, h2⟩
    rw [hT]
    exact ⟨[z.toInt], [q], [], m_pre1b (m_hp0 hI hg hE) hq h1 h2⟩
  · rintro vs w ov w' ν ⟨⟨nr, hnr, hI⟩, -⟩ Po hPo hp
    rw [hP] at hPo
    rw [List.mem_singleton.mp hPo] at hp
    obtain ⟨p1, hz⟩ := m_res hp
    obtain ⟨a1, a2⟩ := m_after hG hnr hI p1
    exact ⟨hz, a1, nr, hnr, a2⟩
/-- in all contexts -/
theorem mI_all {mi : Nat} {A : List Value → Prop} (h0 : ∀ nb, nb < 4 → rc_ME l κ D mi (fun vs w => (∃ nr, nr < 4 ∧ mInv wK0 κ ad 0 nb nr w) ∧ A vs) (fun _ w ov w' => mQp wK0 κ ad 0 nb w ov w')) (h1 : ∀ nb, nb < 4 → rc_ME l κ D mi (fun vs w => (∃ nr, nr < 4 ∧ mInv wK1 κ ad 1 nb nr w) ∧ A vs) (fun _ w ov w' => mQp wK1 κ ad 1 nb w ov w')) : rc_ME l κ D mi (fun vs w => mI κ ad w ∧ A vs) (fun _ w ov w' => mQc κ ad w ov w') := by
  intro y cc nL ret hm ws sz vs hp
  obtain ⟨⟨nb, nr, hnb, hnr, hI⟩, hA⟩ := hp
  rcases hI with hI | hI
  · exact rc_ME_mono (Q' := fun _ w ov w' => mQc κ ad w ov w') (h0 nb hnb) (fun _ _ h => h) (fun vs ws ov ws' _ hq => ⟨hq.1, hq.2.1, by
      obtain ⟨nr', a, b'⟩ := hq.2.2
      exact ⟨nb, nr', hnb, a, Or.inl b'⟩⟩) y cc nL ret hm ws sz vs ⟨⟨nr, hnr, hI⟩, hA⟩
  · exact rc_ME_mono (Q' := fun _ w ov w' => mQc κ ad w ov w') (h1 nb hnb) (fun _ _ h => h) (fun vs ws ov ws' _ hq => ⟨hq.1, hq.2.1, by
      obtain ⟨nr', a, b'⟩ := hq.2.2
      exact ⟨nb, nr', hnb, a, Or.inr b'⟩⟩) y cc nL ret hm ws sz vs ⟨⟨nr, hnr, hI⟩, hA⟩
end MCALL
