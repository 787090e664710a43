/-! The class: every call -/
noncomputable def xEn (g g' : Nat) : Bool := match ri_nth wX_K g with
  | none => false
  | some l => (match ri_nth wX_K g' with
    | none => false
    | some m => rt_cK rt_enP l l m)
noncomputable def xF1 (g i j : Nat) : Bool := match ri_nth wX_D i with
  | none => false
  | some k => (match rt_kd wX_K g k with
    | some kd => (match rt_sT kd j with
      | some f => Nat.beq f.1 1
      | none => false)
    | none => false)
def xI (κ : Nat → ClassId) (ad : List Nat) (w : va_W) : Prop := ri_ad w = ad ∧ rt_gH wX_K 0 κ wX_D ad w
def xQc (κ : Nat → ClassId) (ad : List Nat) (w : va_W) (ov : Option Value) (w' : va_W) : Prop := (∃ z : Int32, ov = some (.int z)) ∧ mv w' 85 0 = mv w 85 0 ∧ xI κ ad w'
theorem xe_01 : xEn 0 1 = true := by decide +kernel
theorem xe_02 : xEn 0 2 = true := by decide +kernel
theorem xe_03 : xEn 0 3 = true := by decide +kernel
theorem xe_10 : xEn 1 0 = true := by decide +kernel
theorem xe_20 : xEn 2 0 = true := by decide +kernel
theorem xe_30 : xEn 3 0 = true := by decide +kernel
theorem xf_1 : xF1 1 85 0 = true := by decide +kernel
theorem xf_2 : xF1 2 85 0 = true := by decide +kernel
section XPUB
variable {l : Launch} {D : va_G} {κ : Nat → ClassId} {ad : List Nat} {g : Nat} {w w' : va_W}
theorem xag_rf {K : List Nat} {KK : List (List rt_K)} {fl : Nat → Prop} {g g' : Nat} (hH : rt_gH KK g κ K ad w) : rt_ag fl KK g' K w w := by
  intro i k j kd f hi hkd hf hfl
  obtain ⟨q, e, -, h1, -, -⟩ := hH i k hi
  exact ⟨q, q, e, e, h1, h1, rfl⟩
theorem xEn_ok {g' : Nat} (h : xEn g g' = true) (hH : rt_gH wX_K g κ wX_D ad w) (had : ri_ad w = ad) : rt_gH wX_K g' κ wX_D ad w := by
  unfold xEn at h
  rw [ri_nth_eq, ri_nth_eq] at h
  cases e1 : wX_K[g]? with
  | none => rw [e1] at h; cases h
  | some l =>
    rw [e1] at h
    cases e2 : wX_K[g']? with
    | none => rw [e2] at h; cases h
    | some m =>
      rw [e2] at h
      exact (rt_ent_hp (Φ := fun _ _ _ => True) (t0 := 0) (t1 := 0) (s := 0) (s' := 0) (ws0 := w) e1 e2 h trivial ⟨had, hH, xag_rf hH, trivial⟩).2.1
theorem xF1_ok {i j : Nat} (h : xF1 g i j = true) (hag : rt_ag (fun f => f = 1) wX_K g wX_D w w') : mv w' i j = mv w i j := by
  unfold xF1 at h
  rw [ri_nth_eq] at h
  cases hk : wX_D[i]? with
  | none => rw [hk] at h; cases h
  | some k =>
    rw [hk] at h
    have h : (match (generalizing := false) rt_kd wX_K g k with
      | some kd => (match (generalizing := false) rt_sT kd j with
        | some f => Nat.beq f.1 1
        | none => false)
      | none => false) = true := h
    cases hkd : rt_kd wX_K g k with
    | none => rw [hkd] at h; cases h
    | some kd =>
      rw [hkd] at h
      have h : (match (generalizing := false) rt_sT kd j with
        | some f => Nat.beq f.1 1
        | none => false) = true := h
      cases hf : rt_sT kd j with
      | none => rw [hf] at h; cases h
      | some f =>
        rw [hf] at h
        obtain ⟨q, q0, e, e0, h1, h2, h3⟩ := hag i k j kd f hk hkd hf (Nat.eq_of_beq_eq_true h)
        unfold mv mz
        rw [h1, h2]
        show (match rt_sl e j with
          | some (.int z) => z
          | _ => 0).toInt = (match rt_sl e0 j with
          | some (.int z) => z
          | _ => 0).toInt
        rw [h3]
theorem x_pub {C : rt_Co} {k g s : Nat} {T : Int × Int} (hC : rt_Con l D wX_K κ wX_D ad wX_F C) (hT : C.2.2.1 = tTop 0 k) (hP : C.2.2.2 = [((g, s), some (.inl T), [])]) (hE : xEn 0 C.2.1 = true) (hE' : xEn g 0 = true) (hF : xF1 g 85 0 = true) : rc_Met l κ D C.1.2 C.1.1 (fun vs w => xI κ ad w ∧ ∃ q : Nat, ad[0]? = some q ∧ mArgs q k vs) (fun _ w ov w' => xQc κ ad w ov w') := by
  intro y cc nL ret hm ws sz vs hp
  obtain ⟨⟨had, hH0⟩, q, hq, ha⟩ := hp
  have hHg := xEn_ok hE hH0 had
  have hh : rt_hp wX_K κ wX_D ad ws wX_F 0 C.2.1 0 ws := ⟨had, hHg, xag_rf hHg, trivial⟩
  refine MetFree.mono (m_top hC hT rfl 0 y cc nL ret hm ws sz vs ⟨hh, q, hq, ha⟩) (fun _ _ g => g) (fun _ _ _ _ _ g => g) (fun a st o t _ hQ => ?_)
  obtain ⟨⟨⟨w', ov, m1, ⟨ν, P, hPm, p⟩, m3⟩, m9⟩, hf⟩ := hQ
  rw [hP] at hPm
  rw [List.mem_singleton.mp hPm] at p
  obtain ⟨p1, ⟨v, e, z, rfl, -⟩, -⟩ := p
  exact ⟨⟨⟨w', ov, m1, ⟨⟨z, e⟩, xF1_ok hF p1.2.2.1, p1.1, xEn_ok hE' p1.2.1 p1.1⟩, m3⟩, m9⟩, hf⟩
theorem pX_feed (h : ∀ (i j q : Nat), ad[i]? = some q → ad[j]? = some q → i = j) : rc_ME l κ D 146 (fun vs w => xI κ ad w ∧ ∃ q : Nat, ad[0]? = some q ∧ mArgs q 5 vs) (fun _ w ov w' => xQc κ ad w ov w') := rc_ME_of (by decide) (x_pub (wX_c1 h) rfl rfl xe_01 xe_10 xf_1)
theorem pX_end (h : ∀ (i j q : Nat), ad[i]? = some q → ad[j]? = some q → i = j) : rc_ME l κ D 143 (fun vs w => xI κ ad w ∧ ∃ q : Nat, ad[0]? = some q ∧ mArgs q 1 vs) (fun _ w ov w' => xQc κ ad w ov w') := rc_ME_of (by decide) (x_pub (wX_c2 h) rfl rfl xe_01 xe_10 xf_1)
theorem pX_street (h : ∀ (i j q : Nat), ad[i]? = some q → ad[j]? = some q → i = j) : rc_ME l κ D 169 (fun vs w => xI κ ad w ∧ ∃ q : Nat, ad[0]? = some q ∧ mArgs q 0 vs) (fun _ w ov w' => xQc κ ad w ov w') := rc_ME_of (by decide) (x_pub (wX_c123 h) rfl rfl xe_02 xe_20 xf_2)
theorem pX_fault (h : ∀ (i j q : Nat), ad[i]? = some q → ad[j]? = some q → i = j) : rc_ME l κ D 145 (fun vs w => xI κ ad w ∧ ∃ q : Nat, ad[0]? = some q ∧ mArgs q 1 vs) (fun _ w ov w' => xQc κ ad w ov w') := rc_ME_of (by decide) (x_pub (wX_c124 h) rfl rfl xe_01 xe_10 xf_1)
theorem pX_run (h : ∀ (i j q : Nat), ad[i]? = some q → ad[j]? = some q → i = j) : rc_ME l κ D 162 (fun vs w => xI κ ad w ∧ ∃ q : Nat, ad[0]? = some q ∧ mArgs q 1 vs) (fun _ w ov w' => xQc κ ad w ov w') := rc_ME_of (by decide) (x_pub (wX_c144 h) rfl rfl xe_01 xe_10 xf_1)
theorem pX_car (h : ∀ (i j q : Nat), ad[i]? = some q → ad[j]? = some q → i = j) : rc_ME l κ D 137 (fun vs w => xI κ ad w ∧ ∃ q : Nat, ad[0]? = some q ∧ mArgs q 2 vs) (fun _ w ov w' => xQc κ ad w ov w') := rc_ME_of (by decide) (x_pub (wX_c145 h) rfl rfl xe_01 xe_10 xf_1)
theorem pX_speed (h : ∀ (i j q : Nat), ad[i]? = some q → ad[j]? = some q → i = j) : rc_ME l κ D 164 (fun vs w => xI κ ad w ∧ ∃ q : Nat, ad[0]? = some q ∧ mArgs q 1 vs) (fun _ w ov w' => xQc κ ad w ov w') := rc_ME_of (by decide) (x_pub (wX_c146 h) rfl rfl xe_01 xe_10 xf_1)
theorem pX_rope (h : ∀ (i j q : Nat), ad[i]? = some q → ad[j]? = some q → i = j) : rc_ME l κ D 161 (fun vs w => xI κ ad w ∧ ∃ q : Nat, ad[0]? = some q ∧ mArgs q 2 vs) (fun _ w ov w' => xQc κ ad w ov w') := rc_ME_of (by decide) (x_pub (wX_c147 h) rfl rfl xe_01 xe_10 xf_1)
theorem pX_count (h : ∀ (i j q : Nat), ad[i]? = some q → ad[j]? = some q → i = j) : rc_ME l κ D 141 (fun vs w => xI κ ad w ∧ ∃ q : Nat, ad[0]? = some q ∧ mArgs q 1 vs) (fun _ w ov w' => xQc κ ad w ov w') := rc_ME_of (by decide) (x_pub (wX_c148 h) rfl rfl xe_01 xe_10 xf_1)
theorem pX_strand (h : ∀ (i j q : Nat), ad[i]? = some q → ad[j]? = some q → i = j) : rc_ME l κ D 167 (fun vs w => xI κ ad w ∧ ∃ q : Nat, ad[0]? = some q ∧ mArgs q 2 vs) (fun _ w ov w' => xQc κ ad w ov w') := rc_ME_of (by decide) (x_pub (wX_c149 h) rfl rfl xe_01 xe_10 xf_1)
theorem pX_strandNow (h : ∀ (i j q : Nat), ad[i]? = some q → ad[j]? = some q → i = j) : rc_ME l κ D 168 (fun vs w => xI κ ad w ∧ ∃ q : Nat, ad[0]? = some q ∧ mArgs q 1 vs) (fun _ w ov w' => xQc κ ad w ov w') := rc_ME_of (by decide) (x_pub (wX_c150 h) rfl rfl xe_01 xe_10 xf_1)
theorem pX_free (h : ∀ (i j q : Nat), ad[i]? = some q → ad[j]? = some q → i = j) : rc_ME l κ D 147 (fun vs w => xI κ ad w ∧ ∃ q : Nat, ad[0]? = some q ∧ mArgs q 1 vs) (fun _ w ov w' => xQc κ ad w ov w') := rc_ME_of (by decide) (x_pub (wX_c151 h) rfl rfl xe_01 xe_10 xf_1)
theorem pX_splice (h : ∀ (i j q : Nat), ad[i]? = some q → ad[j]? = some q → i = j) : rc_ME l κ D 165 (fun vs w => xI κ ad w ∧ ∃ q : Nat, ad[0]? = some q ∧ mArgs q 2 vs) (fun _ w ov w' => xQc κ ad w ov w') := rc_ME_of (by decide) (x_pub (wX_c152 h) rfl rfl xe_01 xe_10 xf_1)
theorem pX_due (h : ∀ (i j q : Nat), ad[i]? = some q → ad[j]? = some q → i = j) : rc_ME l κ D 142 (fun vs w => xI κ ad w ∧ ∃ q : Nat, ad[0]? = some q ∧ mArgs q 1 vs) (fun _ w ov w' => xQc κ ad w ov w') := rc_ME_of (by decide) (x_pub (wX_c155 h) rfl rfl xe_01 xe_10 xf_1)
theorem pX_cost (h : ∀ (i j q : Nat), ad[i]? = some q → ad[j]? = some q → i = j) : rc_ME l κ D 140 (fun vs w => xI κ ad w ∧ ∃ q : Nat, ad[0]? = some q ∧ mArgs q 2 vs) (fun _ w ov w' => xQc κ ad w ov w') := rc_ME_of (by decide) (x_pub (wX_c157 h) rfl rfl xe_01 xe_10 xf_1)
theorem pX_halt (h : ∀ (i j q : Nat), ad[i]? = some q → ad[j]? = some q → i = j) : rc_ME l κ D 148 (fun vs w => xI κ ad w ∧ ∃ q : Nat, ad[0]? = some q ∧ mArgs q 1 vs) (fun _ w ov w' => xQc κ ad w ov w') := rc_ME_of (by decide) (x_pub (wX_c158 h) rfl rfl xe_01 xe_10 xf_1)
theorem pX_rolls (h : ∀ (i j q : Nat), ad[i]? = some q → ad[j]? = some q → i = j) : rc_ME l κ D 160 (fun vs w => xI κ ad w ∧ ∃ q : Nat, ad[0]? = some q ∧ mArgs q 0 vs) (fun _ w ov w' => xQc κ ad w ov w') := rc_ME_of (by decide) (x_pub (wX_c159 h) rfl rfl xe_01 xe_10 xf_1)
theorem pX_trips (h : ∀ (i j q : Nat), ad[i]? = some q → ad[j]? = some q → i = j) : rc_ME l κ D 171 (fun vs w => xI κ ad w ∧ ∃ q : Nat, ad[0]? = some q ∧ mArgs q 1 vs) (fun _ w ov w' => xQc κ ad w ov w') := rc_ME_of (by decide) (x_pub (wX_c160 h) rfl rfl xe_01 xe_10 xf_1)
theorem pX_asks (h : ∀ (i j q : Nat), ad[i]? = some q → ad[j]? = some q → i = j) : rc_ME l κ D 135 (fun vs w => xI κ ad w ∧ ∃ q : Nat, ad[0]? = some q ∧ mArgs q 2 vs) (fun _ w ov w' => xQc κ ad w ov w') := rc_ME_of (by decide) (x_pub (wX_c161 h) rfl rfl xe_01 xe_10 xf_1)
theorem pX_event (h : ∀ (i j q : Nat), ad[i]? = some q → ad[j]? = some q → i = j) : rc_ME l κ D 144 (fun vs w => xI κ ad w ∧ ∃ q : Nat, ad[0]? = some q ∧ mArgs q 2 vs) (fun _ w ov w' => xQc κ ad w ov w') := rc_ME_of (by decide) (x_pub (wX_c162 h) rfl rfl xe_01 xe_10 xf_1)
theorem pX_coasts (h : ∀ (i j q : Nat), ad[i]? = some q → ad[j]? = some q → i = j) : rc_ME l κ D 139 (fun vs w => xI κ ad w ∧ ∃ q : Nat, ad[0]? = some q ∧ mArgs q 3 vs) (fun _ w ov w' => xQc κ ad w ov w') := rc_ME_of (by decide) (x_pub (wX_c164 h) rfl rfl xe_01 xe_10 xf_1)
theorem pX_need (h : ∀ (i j q : Nat), ad[i]? = some q → ad[j]? = some q → i = j) : rc_ME l κ D 156 (fun vs w => xI κ ad w ∧ ∃ q : Nat, ad[0]? = some q ∧ mArgs q 1 vs) (fun _ w ov w' => xQc κ ad w ov w') := rc_ME_of (by decide) (x_pub (wX_c166 h) rfl rfl xe_01 xe_10 xf_1)
theorem pX_takes (h : ∀ (i j q : Nat), ad[i]? = some q → ad[j]? = some q → i = j) : rc_ME l κ D 170 (fun vs w => xI κ ad w ∧ ∃ q : Nat, ad[0]? = some q ∧ mArgs q 0 vs) (fun _ w ov w' => xQc κ ad w ov w') := rc_ME_of (by decide) (x_pub (wX_c168 h) rfl rfl xe_01 xe_10 xf_1)
theorem pX_head (h : ∀ (i j q : Nat), ad[i]? = some q → ad[j]? = some q → i = j) : rc_ME l κ D 149 (fun vs w => xI κ ad w ∧ ∃ q : Nat, ad[0]? = some q ∧ mArgs q 1 vs) (fun _ w ov w' => xQc κ ad w ov w') := rc_ME_of (by decide) (x_pub (wX_c171 h) rfl rfl xe_01 xe_10 xf_1)
theorem pX_spread (h : ∀ (i j q : Nat), ad[i]? = some q → ad[j]? = some q → i = j) : rc_ME l κ D 166 (fun vs w => xI κ ad w ∧ ∃ q : Nat, ad[0]? = some q ∧ mArgs q 2 vs) (fun _ w ov w' => xQc κ ad w ov w') := rc_ME_of (by decide) (x_pub (wX_c172 h) rfl rfl xe_01 xe_10 xf_1)
theorem pX_power (h : ∀ (i j q : Nat), ad[i]? = some q → ad[j]? = some q → i = j) : rc_ME l κ D 158 (fun vs w => xI κ ad w ∧ ∃ q : Nat, ad[0]? = some q ∧ mArgs q 2 vs) (fun _ w ov w' => xQc κ ad w ov w') := rc_ME_of (by decide) (x_pub (wX_c173 h) rfl rfl xe_01 xe_10 xf_1)
theorem pX_runaway (h : ∀ (i j q : Nat), ad[i]? = some q → ad[j]? = some q → i = j) : rc_ME l κ D 163 (fun vs w => xI κ ad w ∧ ∃ q : Nat, ad[0]? = some q ∧ mArgs q 2 vs) (fun _ w ov w' => xQc κ ad w ov w') := rc_ME_of (by decide) (x_pub (wX_c175 h) rfl rfl xe_01 xe_10 xf_1)
theorem pX_order (h : ∀ (i j q : Nat), ad[i]? = some q → ad[j]? = some q → i = j) : rc_ME l κ D 157 (fun vs w => xI κ ad w ∧ ∃ q : Nat, ad[0]? = some q ∧ mArgs q 1 vs) (fun _ w ov w' => xQc κ ad w ov w') := rc_ME_of (by decide) (x_pub (wX_c177 h) rfl rfl xe_01 xe_10 xf_1)
theorem pX_where (h : ∀ (i j q : Nat), ad[i]? = some q → ad[j]? = some q → i = j) : rc_ME l κ D 173 (fun vs w => xI κ ad w ∧ ∃ q : Nat, ad[0]? = some q ∧ mArgs q 3 vs) (fun _ w ov w' => xQc κ ad w ov w') := rc_ME_of (by decide) (x_pub (wX_c178 h) rfl rfl xe_01 xe_10 xf_1)
theorem pX_log (h : ∀ (i j q : Nat), ad[i]? = some q → ad[j]? = some q → i = j) : rc_ME l κ D 154 (fun vs w => xI κ ad w ∧ ∃ q : Nat, ad[0]? = some q ∧ mArgs q 3 vs) (fun _ w ov w' => xQc κ ad w ov w') := rc_ME_of (by decide) (x_pub (wX_c180 h) rfl rfl xe_01 xe_10 xf_1)
theorem pX_untell (h : ∀ (i j q : Nat), ad[i]? = some q → ad[j]? = some q → i = j) : rc_ME l κ D 172 (fun vs w => xI κ ad w ∧ ∃ q : Nat, ad[0]? = some q ∧ mArgs q 1 vs) (fun _ w ov w' => xQc κ ad w ov w') := rc_ME_of (by decide) (x_pub (wX_c181 h) rfl rfl xe_01 xe_10 xf_1)
theorem pX_judge (h : ∀ (i j q : Nat), ad[i]? = some q → ad[j]? = some q → i = j) : rc_ME l κ D 152 (fun vs w => xI κ ad w ∧ ∃ q : Nat, ad[0]? = some q ∧ mArgs q 2 vs) (fun _ w ov w' => xQc κ ad w ov w') := rc_ME_of (by decide) (x_pub (wX_c186 h) rfl rfl xe_01 xe_10 xf_1)
theorem pX_logged (h : ∀ (i j q : Nat), ad[i]? = some q → ad[j]? = some q → i = j) : rc_ME l κ D 155 (fun vs w => xI κ ad w ∧ ∃ q : Nat, ad[0]? = some q ∧ mArgs q 2 vs) (fun _ w ov w' => xQc κ ad w ov w') := rc_ME_of (by decide) (x_pub (wX_c189 h) rfl rfl xe_01 xe_10 xf_1)
theorem pX_image (h : ∀ (i j q : Nat), ad[i]? = some q → ad[j]? = some q → i = j) : rc_ME l κ D 150 (fun vs w => xI κ ad w ∧ ∃ q : Nat, ad[0]? = some q ∧ mArgs q 1 vs) (fun _ w ov w' => xQc κ ad w ov w') := rc_ME_of (by decide) (x_pub (wX_c190 h) rfl rfl xe_01 xe_10 xf_1)
theorem pX_back (h : ∀ (i j q : Nat), ad[i]? = some q → ad[j]? = some q → i = j) : rc_ME l κ D 136 (fun vs w => xI κ ad w ∧ ∃ q : Nat, ad[0]? = some q ∧ mArgs q 1 vs) (fun _ w ov w' => xQc κ ad w ov w') := rc_ME_of (by decide) (x_pub (wX_c191 h) rfl rfl xe_01 xe_10 xf_1)
theorem pX_about (h : ∀ (i j q : Nat), ad[i]? = some q → ad[j]? = some q → i = j) : rc_ME l κ D 134 (fun vs w => xI κ ad w ∧ ∃ q : Nat, ad[0]? = some q ∧ mArgs q 1 vs) (fun _ w ov w' => xQc κ ad w ov w') := rc_ME_of (by decide) (x_pub (wX_c192 h) rfl rfl xe_01 xe_10 xf_1)
theorem pX_later (h : ∀ (i j q : Nat), ad[i]? = some q → ad[j]? = some q → i = j) : rc_ME l κ D 153 (fun vs w => xI κ ad w ∧ ∃ (q : Nat) (z : Int32), ad[0]? = some q ∧ vs = [.ref q, .int z]) (fun vs w ov w' => (∃ r : Int32, ov = some (.int r) ∧ r.toInt = mtA (mv w 85 0) (mtZ vs).toInt) ∧ mv w' 85 0 = mtT (mv w 85 0) (mtZ vs).toInt ∧ xI κ ad w') := by
  refine rc_ME_mono (rc_ME_of (by decide) (x_later h 0)) (fun vs w g => ?_) (fun vs w ov w' g hq => ?_)
  · obtain ⟨⟨had, hH0⟩, hv⟩ := g
    have hHg := xEn_ok xe_03 hH0 had
    exact ⟨⟨had, hHg, xag_rf hHg, trivial⟩, hv⟩
  · obtain ⟨p1, r, e1, e2, e3⟩ := hq
    exact ⟨⟨r, e1, e2⟩, e3, p1.1, xEn_ok xe_30 p1.2.1 p1.1⟩
end XPUB
