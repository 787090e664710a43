/-! Calls from outside -/
def rc_ME (l : Launch) (κ : Nat → ClassId) (D : va_G) (mi : Nat) (P : List Value → va_W → Prop) (Qv : List Value → va_W → Option Value → va_W → Prop) : Prop := ∀ (y : MethodName) (cc : ByteArray) (nL : Nat) (ret : Option FieldType), mT[mi]? = some (y, cc, nL, ret) → ∀ (ws : va_W) (sz : Nat) (vs : List Value), P vs ws → ∃ d, d ≤ 200 ∧ Met l y (.code y cc nL ret :: gU) (ri_rm d 0 0) (rc_Pc κ D ws sz vs) (rc_Q D ws sz (Qv vs ws)) 0 0 (va_A ws sz)
def tTop (kd k : Nat) : rt_Tm := ((List.replicate k ((mcB, mcT), (0, 0), none, none), [kd], []), some (.inr (.inl (kd, 1))) :: (List.range k).map (fun i => some (.inl (i + 1, 0, 0))), [])
def mArgs (q k : Nat) (vs : List Value) : Prop := ∃ zs : List Int32, zs.length = k ∧ vs = .ref q :: zs.map Value.int
section MPUB
variable {l : Launch} {D : va_G} {κ : Nat → ClassId} {ad : List Nat} {KK : List (List rt_K)} {K : List Nat} {Φ : Nat → Int → va_W → Prop} {mi d : Nat}
theorem rc_ME_of {P : List Value → va_W → Prop} {Qv : List Value → va_W → Option Value → va_W → Prop} (hd : d ≤ 200) (h : rc_Met l κ D d mi P Qv) : rc_ME l κ D mi P Qv := fun y cc nL ret hm ws sz vs hp => ⟨d, hd, h y cc nL ret hm ws sz vs hp⟩
theorem rc_ME_mono {P P' : List Value → va_W → Prop} {Qv Q' : List Value → va_W → Option Value → va_W → Prop} (h : rc_ME l κ D mi P Qv) (hP : ∀ vs ws, P' vs ws → P vs ws) (hQ : ∀ vs ws ov ws', P' vs ws → Qv vs ws ov ws' → Q' vs ws ov ws') : rc_ME l κ D mi P' Q' := fun y cc nL ret hm ws sz vs hp => by
  obtain ⟨d, hd, h1⟩ := h y cc nL ret hm ws sz vs (hP vs ws hp)
  refine ⟨d, hd, MetFree.mono h1 (fun _ _ g => g) (fun _ _ _ _ _ g => g) (fun a st o t _ hq => ?_)⟩
  obtain ⟨⟨⟨w', ov, m1, m2, m3⟩, m9⟩, hf⟩ := hq
  exact ⟨⟨⟨w', ov, m1, hQ vs ws ov w' hp m2, m3⟩, m9⟩, hf⟩
theorem rc_ME_or {P P' : List Value → va_W → Prop} {Qv : List Value → va_W → Option Value → va_W → Prop} (h : rc_ME l κ D mi P Qv) (h' : rc_ME l κ D mi P' Qv) : rc_ME l κ D mi (fun vs ws => P vs ws ∨ P' vs ws) Qv := fun y cc nL ret hm ws sz vs hp => by
  rcases hp with hp | hp
  · exact h y cc nL ret hm ws sz vs hp
  · exact h' y cc nL ret hm ws sz vs hp
theorem rc_en_args {q : Nat} : ∀ {zs : List Int32}, rc_en (.ref q :: zs.map Value.int) = some (.ref q) :: zs.map (fun z => some (Value.int z)) := by
  intro zs
  have h : ∀ zs : List Int32, rc_en (zs.map Value.int) = zs.map (fun z => some (Value.int z)) := by
    intro zs
    induction zs with
    | nil => rfl
    | cons z zs ih =>
      show (if (Value.int z).category = 2 then [some (Value.int z), none] else [some (Value.int z)]) ++ rc_en (zs.map Value.int) = _
      rw [ih, if_neg (fun q => by cases q)]
      rfl
  show (if (Value.ref q).category = 2 then [some (Value.ref q), none] else [some (Value.ref q)]) ++ rc_en (zs.map Value.int) = _
  rw [h, if_neg (fun q => by cases q)]
  rfl
/-- a contract whose arguments are any -/
theorem m_top {C : rt_Co} {kd k : Nat} (hC : rt_Con l D KK κ K ad Φ C) (hT : C.2.2.1 = tTop kd k) (hK : K[0]? = some kd) (t : Int) : rc_Met l κ D C.1.2 C.1.1 (fun vs w => rt_hp KK κ K ad w Φ t C.2.1 0 w ∧ ∃ q : Nat, ad[0]? = some q ∧ mArgs q k vs) (fun _ w ov w' => ∃ ν : List Nat, ∃ P ∈ C.2.2.2, rt_post KK κ K ad Φ t ν P w ov w') := by
  intro y cc nL ret hm ws sz vs hp
  obtain ⟨hh, q, hq, zs, hz, rfl⟩ := hp
  have hk : rt_hk K ad q kd := ⟨0, hq, hK⟩
  refine MetFree.mono (hC t (zs.map Int32.toInt) [q] [] y cc nL ret hm ws sz (.ref q :: zs.map Value.int) ?_) (fun _ _ g => g) (fun _ _ _ _ _ g => g) (fun a st o t _ hQ => ?_)
  · rw [hT]
    refine ⟨hh, ⟨⟨by simp [tTop, hz], fun j e b h1 h2 => ?_⟩, ⟨rfl, fun j k' h1 => ?_⟩, ⟨rfl, fun j c h1 => by cases h1⟩⟩, ?_, (fun o ho => by cases ho), by rw [rc_en_args]; simp [tTop, hz]⟩
    · have h1 : (List.replicate k (((mcB, mcT), (0, 0), none, none) : rt_B))[j]? = some e := h1
      rw [List.getElem?_replicate] at h1
      split at h1
      · cases h1
        rw [List.getElem?_map] at h2
        cases hzj : zs[j]? with
        | none => rw [hzj] at h2; cases h2
        | some z =>
          rw [hzj] at h2
          cases h2
          exact m_okB (m_lohi z).1 (m_lohi z).2 (Or.inl rfl)
      · cases h1
    · match j, h1 with
      | 0, h1 => cases h1; exact ⟨q, rfl, hk⟩
      | j + 1, h1 => cases h1
    · rw [rc_en_args]
      intro i x hx
      cases i with
      | zero =>
        cases hx
        exact ⟨.ref q, rfl, q, rfl, hk, Or.inr ⟨0, rfl, rfl⟩⟩
      | succ i =>
        have hx : ((List.range k).map (fun i => some (Sum.inl (i + 1, 0, 0) : rt_V)))[i]? = some (some x) := hx
        rw [List.getElem?_map] at hx
        rcases Nat.lt_or_ge i k with hi | hi
        · rw [List.getElem?_range hi] at hx
          cases hx
          refine ⟨.int (zs[i]'(by omega)), ?_, zs[i]'(by omega), rfl, m_gI ?_⟩
          · show (zs.map (fun z => some (Value.int z)))[i]? = _
            rw [List.getElem?_map, List.getElem?_eq_getElem (by omega)]
            rfl
          · rw [List.getElem?_map, List.getElem?_eq_getElem (by omega)]
            rfl
        · rw [List.getElem?_eq_none (by simpa using hi)] at hx
          cases hx
  · obtain ⟨⟨⟨w', ov, m1, m2, m3⟩, m9⟩, hf⟩ := hQ
    exact ⟨⟨⟨w', ov, m1, ⟨[q], m2⟩, m3⟩, m9⟩, hf⟩
end MPUB
/-- the reference between calls -/
def mQp (Kb : Nat → List (List rt_K)) (κ : Nat → ClassId) (ad : List Nat) (b nb : Nat) (w : va_W) (ov : Option Value) (w' : va_W) : Prop := (∃ z : Int32, ov = some (.int z)) ∧ mv w' 0 97 = mv w 0 97 ∧ ∃ nr, nr < 4 ∧ mInv Kb κ ad b nb nr w'
/-- a mode that a call may end in -/
def mGm (Kb : Nat → List (List rt_K)) (nb g : Nat) : Prop := mcl g = 0 ∧ mG3 (Kb nb) 0 (Kb nb) g (Kb nb) 0 = true ∧ mFzX (Kb nb) g = true ∧ ∀ nr, nr < 4 → mG3 (Kb nr) 37 (Kb nb) g (Kb nr) 37 = true
section MPUB2
variable {l : Launch} {D : va_G} {κ : Nat → ClassId} {ad : List Nat} {Kb : Nat → List (List rt_K)} {b nb : Nat}
theorem m_pubM {C : rt_Co} {k : Nat} (hC : rt_Con l D (Kb nb) κ mK ad (mF b) C) (hT : C.2.2.1 = tTop 79 k) (hg : mcl C.2.1 = 0) (hE : mEn (Kb nb) 0 C.2.1 = true) (hPs : ∀ P ∈ C.2.2.2, mGm Kb nb P.1.1 ∧ ∃ T, P.2.1 = some (.inl T)) : rc_Met l κ D C.1.2 C.1.1 (fun vs w => (∃ nr, nr < 4 ∧ mInv Kb κ ad b nb nr w) ∧ ∃ q : Nat, ad[0]? = some q ∧ mArgs q k vs) (fun _ w ov w' => mQp Kb κ ad b nb w ov w') := by
  intro y cc nL ret hm ws sz vs hp
  obtain ⟨⟨nr, hnr, had, hH0, hH37, hR, hBx⟩, q, hq, ha⟩ := hp
  have hHg := mEn_ok hE hH0 had
  have hh : rt_hp (Kb nb) κ mK ad ws (mF b) 0 C.2.1 0 ws := ⟨had, hHg, m_agR hHg, by show mPsi b (mcl C.2.1) _ ws; rw [hg]; exact hR⟩
  refine MetFree.mono (m_top hC hT rfl 0 y cc nL ret hm ws sz vs ⟨hh, q, hq, ha⟩) (fun _ _ g => g) (fun _ _ _ _ _ g => g) (fun a st o t _ hQ => ?_)
  obtain ⟨⟨⟨w', ov, m1, ⟨ν, P, hP, p1, p2, -⟩, m3⟩, m9⟩, hf⟩ := hQ
  obtain ⟨⟨e1, e2, e3, e4⟩, T, hT'⟩ := hPs P hP
  refine ⟨⟨⟨w', ov, m1, ⟨?_, (mX_fz (n := nb) e3 p1.2.2.1).2, nr, hnr, p1.1, mG3_ok e2 hH0 p1.2.1 p1.2.2.1, mG3_ok (e4 nr hnr) hH37 p1.2.1 p1.2.2.1, ?_, (mX_fz e3 p1.2.2.1).1 hBx⟩, m3⟩, m9⟩, hf⟩
  · rw [hT'] at p2
    obtain ⟨v, e, z, rfl, -⟩ := p2
    exact ⟨z, e⟩
  · have := p1.2.2.2
    have this : mPsi b (mcl P.1.1) _ w' := this
    rw [e1] at this
    exact this
end MPUB2
