/-! logged: latest twice -/
noncomputable def mo_S0 : rt_S := (0, (1, 0), ([], [79], []), rt_pad 20 [some (.inr (.inl (79, 1))), some (.inl (0, mcB, mcT)), some (.inl (0, mcB, mcT))], [], [])
def mo_R : rt_Tg := (0, (1, 0), ([], [], []), [some (.inl (0, mcB, mcT))], [])
def mo_T1 : rt_Tg := (18, (1, 0), ([], [79], []), [some (.inl (0, mcB, mcT)), some (.inl (0, 201, 201)), some (.inl (0, mcB, mcT)), some (.inr (.inl (79, 1))), none, none, none, none, some (.inr (.inl (79, 1))), some (.inl (0, mcB, mcT)), some (.inl (0, mcB, mcT))], [])
def mo_lo (x g1 g2 : Option rt_V) : List (Option rt_V) := [some (.inr (.inl (79, 1))), some (.inl (0, mcB, mcT)), some (.inl (0, mcB, mcT)), x, none, none, none, none, none, none, none, none, none, none, none, none, none, none, none, none, g1, g2]
def mo_V (q : Nat) (c g : Int32) (x g1 g2 : Option Value) : List (Option Value) := [some (.ref q), some (.int c), some (.int g), x, none, none, none, none, none, none, none, none, none, none, none, none, none, none, none, none, g1, g2]
def mo_Sa : rt_S := (21, (1, 0), ([], [79], []), mo_lo none none none, [.inl (0, -1, -1)], [])
def mo_Sb : rt_S := (21, (1, 0), ([((0, 59), (0, 0), none, none), ((mcB, mcT), (0, 0), none, none)], [79, 59], []), mo_lo none (some (.inl (1, 0, 0))) (some (.inl (2, 0, 0))), [.inl (1, 0, 0)], [(1, (0, 91), .inr (.inl (59, 2))), (2, (1, 0), .inl (2, 0, 0))])
def mo_T2 : rt_Tg := (39, (1, 0), ([((mcB, mcT), (0, 0), none, none), ((0, 59), (0, 0), none, none)], [79], []), [some (.inl (0, mcB, mcT)), some (.inl (1, 0, 0)), some (.inl (0, mcB, mcT)), some (.inr (.inl (79, 1))), none, none, none, none, some (.inr (.inl (79, 1))), some (.inl (0, mcB, mcT)), some (.inl (0, mcB, mcT)), some (.inl (2, 0, 0)), none, none, none, none, none, none, none, none, none, none, none, none, none, none, none, none, some (.inl (2, 0, 0)), some (.inl (1, 0, 0))], [])
def mo_Sc : rt_S := (42, (1, 0), ([((0, 59), (0, 0), none, none)], [79], []), mo_lo (some (.inl (1, 0, 0))) none none, [.inl (0, -1, -1)], [])
def mo_Sd : rt_S := (42, (1, 0), ([((0, 59), (0, 0), none, none), ((0, 59), (0, 0), none, none), ((0, 200), (0, 0), none, none), ((0, 200), (3, 1), none, none)], [79, 59], []), mo_lo (some (.inl (1, 0, 0))) none none, [.inl (2, 0, 0)], [(1, (0, 91), .inr (.inl (59, 2))), (2, (1, 0), .inl (4, 0, 0)), (2, (2, 0), .inl (3, 0, 0))])
noncomputable def mo_chk (KK : List (List rt_K)) (MX : rt_X) (SW : rt_W) (SP : rt_SP) (n d : Nat) : Bool := cond (rt_run KK MX [] SP n d 244 [18, 39] false (rt_tgl 4 SW [mo_T1]) (rt_tgi SW [mo_R]) mo_S0) (cond (rt_run KK MX [] SP n d 244 [18, 39] true rt_kf (rt_tgi SW [mo_R]) mo_Sa) (cond (rt_run KK MX [] SP n d 244 [18, 39] true (rt_tgl 4 SW [mo_T2]) rt_kf2 mo_Sb) (cond (rt_run KK MX [] SP n d 244 [18, 39] true rt_kf (rt_tgi SW [mo_R]) mo_Sc) ((rt_run KK MX [] SP n d 244 [18, 39] true rt_kf (rt_tgi SW [mo_R]) mo_Sd)) false) false) false) false
noncomputable def mo_ty (KK : List (List rt_K)) : Bool := cond (rt_allK (fun j (_ : Unit) => match mTy KK 1 60 j with
  | some a => cond (ri_le 0 a.1) (ri_le a.2 200) false
  | none => false) (List.replicate 60 ()) 0) (match rt_kd KK 1 79 with
  | some (.inl o) => Nat.beq o.1 12
  | _ => false) false
theorem mo_r18 : ri_rowOK mT yX12_logged cX12_logged 5 (some .int) 18 (.invokevirtual 681, 3, 12 + 4, 240, ((3 + 1 : Nat) : Int)) := (show ri_PR mT (yX12_logged, cX12_logged, 5, (some .int)) 18 (.invokevirtual 681, 3, 16, 240, 4) from rw_244_1.2.2.1).resolve_left (fun h => by cases h)
theorem mo_r39 : ri_rowOK mT yX12_logged cX12_logged 5 (some .int) 39 (.invokevirtual 681, 3, 12 + 4, 240, ((3 + 1 : Nat) : Int)) := (show ri_PR mT (yX12_logged, cX12_logged, 5, (some .int)) 39 (.invokevirtual 681, 3, 16, 240, 4) from rw_244_2.2.2.2.2.2.2.2.1).resolve_left (fun h => by cases h)
theorem m_four {α : Type} {l : List α} (h : l.length = 4) : ∃ a b c d, l = [a, b, c, d] := by
  match l, h with
  | [a, b, c, d], _ => exact ⟨a, b, c, d, rfl⟩
def mlA (vs : List Value) : Int32 := match (vs[2]? : Option Value) with
  | some (Value.int a) => a
  | _ => 0
section MLO
variable {l : Launch} {D : va_G} {KK : List (List rt_K)} {κ : Nat → ClassId} {ad : List Nat} {MX : rt_X} {SW : rt_W} {SP : rt_SP} {b d n : Nat}
set_option maxHeartbeats 1000000 in
theorem m_latest (hcx : rt_ctx KK mK ad (mF b)) (hMC : rt_MCok l D κ SP.2) (hMX : rt_MXok KK κ mK ad (mF b) MX) (hSW : rt_SWok KK κ mK ad (mF b) SW) (hk : ml_chk KK MX SW SP n d = true) (hty : ml_ty KK = true) (hd : 1 ≤ d) (t1 : Int) : rc_Met l κ D d 240 (fun vs w => rt_hp KK κ mK ad w (mF b) t1 1 0 w ∧ ∃ (q : Nat) (cz az gz : Int32), ad[0]? = some q ∧ vs = [.ref q, .int cz, .int az, .int gz]) (fun vs w ov w' => mlQ KK κ ad b t1 w (mlA vs) ov w') := by
  have em : mT[240]? = some (yX12_latest, cX12_latest, 6, some .int) := rfl
  have any1 : ∀ x : Int32, mcB ≤ x.toInt ∧ x.toInt ≤ mcT := fun x => ⟨Int32.le_toInt x, by
    have := Int32.toInt_lt x
    show x.toInt ≤ 2147483647
    omega⟩
  refine rc_body (fun vs _ => rc_pad 20 (rc_en vs) ++ (List.replicate 2 none ++ [vs[2]?])) ?_ ?_ ?_
  · rintro vs w ⟨-, q, cz, az, gz, -, rfl⟩ i v hi hv
    rw [List.getElem?_append_left (by rw [rc_pad_len (by show 4 ≤ 20; decide)]; exact hi)] at hv
    exact rc_pad_at hv
  · rintro y cc nL ret hm vs w ⟨-, q, cz, az, gz, -, rfl⟩
    rw [em] at hm
    cases hm
    show 4 ≤ 6
    decide
  · rintro y cc nL ret hm w vs ⟨hh, q, cz, az, gz, hq, rfl⟩ p e s m below meth c B
    rw [em] at hm
    cases hm
    have hloop := ml_loop (e := e) (s := s) (below := below) (az := az) (t1 := t1) (w0 := w) hcx hMC hMX hSW hk hty hd em B hh.1 hq
    obtain ⟨k0, -⟩ := rt_cnd hk
    have hrun := rt_run_ok (SP := SP) (CS := []) hcx hMC hMX (fun _ h => by cases h) n
    have hL : rt_gL [az.toInt] [q] [] mK ad [some (.inr (.inl (79, 1))), some (.inl (0, mcB, mcT)), some (.inl (1, 0, 0)), some (.inl (0, mcB, mcT))] (rc_en [.ref q, .int cz, .int az, .int gz]) := by
      intro j x hx
      match j, hx with
      | 0, hx => cases hx; exact ⟨_, rfl, q, rfl, ⟨0, hq, rfl⟩, Or.inr ⟨0, rfl, rfl⟩⟩
      | 1, hx => cases hx; exact ⟨_, rfl, cz, rfl, rt_gI_0.mpr (any1 cz)⟩
      | 2, hx => cases hx; exact ⟨_, rfl, az, rfl, m_gI (k := 0) rfl⟩
      | 3, hx => cases hx; exact ⟨_, rfl, gz, rfl, rt_gI_0.mpr (any1 gz)⟩
      | j + 4, hx => cases hx
    obtain ⟨g1, g2⟩ := rt_gL_pad hL rfl 20
    have core : rc_AB p l e s m [.ref q, .int cz, .int az, .int gz].toArray below meth c 6 D w (MQ below (rc_Q D w s.heap.size (mlQ KK κ ad b t1 w az)) [Value.ref q, .int cz, .int az, .int gz].toArray s 0 0 (va_A w s.heap.size)) d (0, rc_pad 20 (rc_en [.ref q, .int cz, .int az, .int gz]) ++ (List.replicate 2 none ++ [some (.int az)]), [], w) := by
      refine hrun d 240 [6] false _ _ _ k0 hd _ _ 6 _ em (by decide) p e s m _ below meth c w B _ hh.1 w t1 _ ⟨[az.toInt], [q], [], rfl, hh, ⟨m_okE rfl ?_, ⟨rfl, ?_⟩, ⟨rfl, fun j c h1 => by cases h1⟩⟩, rt_gL_app g1 (rt_gL_app (rt_gL_non 2 _) (fun i x hx => ?_) rfl) g2, trivial, fun o ho => by cases ho⟩ (fun S' b' z1 z2 z3 => ?_) (fun v S' b' ov h1 => by cases h1)
      · intro j e b h1 h2
        match j, h1, h2 with
        | 0, h1, h2 => cases h1; cases h2; exact m_okB (any1 az).1 (any1 az).2 (Or.inl rfl)
        | j + 1, h1, h2 => cases h1
      · intro j k h1
        match j, h1 with
        | 0, h1 => cases h1; exact ⟨_, rfl, 0, hq, rfl⟩
        | j + 1, h1 => cases h1
      · match i, hx with
        | 0, hx => cases hx; exact ⟨_, rfl, az, rfl, m_gI (k := 0) rfl⟩
        | i + 1, hx => cases hx
      · obtain ⟨hl0, tg, htg, hat⟩ := rt_tgl_ok hSW z1 z2
        rw [List.mem_singleton.mp htg] at hat
        obtain ⟨τ, ν, lm, hpc, k2, k3, k4, -⟩ := hat
        have hb0 : b'.2.2.1 = [] := List.length_eq_zero_iff.mp hl0
        have hpc : b'.1 = 6 := by
          rcases hpc with hpc | hpc
          · cases hpc
          · exact hpc
        rw [hb0] at k4
        obtain ⟨t0, p0, q0x, rfl, ⟨i0, p1, p2⟩, -⟩ := k4 8 (.inr (.inl (79, 1))) rfl
        have := mK_inj i0 0 79 p2 rfl
        subst this
        rw [hq] at p1
        cases p1
        obtain ⟨v1, pu, cz', rfl, -⟩ := k4 9 (.inl (0, mcB, mcT)) rfl
        obtain ⟨v2, pa, az', rfl, ga⟩ := k4 10 (.inl (1, 0, 0)) rfl
        obtain ⟨v3, pg, gz', rfl, -⟩ := k4 11 (.inl (0, mcB, mcT)) rfl
        obtain ⟨v4, pz, zz', rfl, gz2⟩ := k4 12 (.inl (0, -1, -1)) rfl
        obtain ⟨v5, pi, iz', rfl, gi⟩ := k4 13 (.inl (0, 0, 0)) rfl
        obtain ⟨v8, h22, x22, rfl, g22⟩ := k4 30 (.inl (1, 0, 0)) rfl
        obtain ⟨ta, ea, -, -, -⟩ := m_tg k3.1 (k := 0) rfl
        have ga := m_gIe ga ea
        have g22 := m_gIe g22 ea
        have gz2 := rt_gI_0.mp gz2
        have gi := rt_gI_0.mp gi
        have v22 := z3 22 _ (by decide) (show b'.2.1[22]? = some (some (.int x22)) from h22)
        have v22 : some (some (Value.int az)) = some (some (.int x22)) := v22
        cases v22
        have hza : az' = az := Int32.toInt_inj.mp (by omega)
        subst hza
        refine rc_At_loc (V := ml_V q cz' az' gz' zz' iz') (ml_loc (show b'.2.1[0]? = _ from p0) (show b'.2.1[1]? = _ from pu) (show b'.2.1[2]? = _ from pa) (show b'.2.1[3]? = _ from pg) (show b'.2.1[4]? = _ from pz) (show b'.2.1[5]? = _ from pi)) ?_
        rw [hb0, hpc]
        exact hloop _ cz' gz' zz' iz' b'.2.2.2 (Nat.le_refl _) (by omega) (by omega) (by omega) (by omega) (Or.inl (by omega)) k2
    exact core
def mo_C (d : Nat) : rt_Co := ((244, d), 0, (([((mcB, mcT), (0, 0), none, none), ((mcB, mcT), (0, 0), none, none)], [79], []), [some (.inr (.inl (79, 1))), some (.inl (1, 0, 0)), some (.inl (2, 0, 0))], []), [((0, 0), some (.inl (mcB, mcT)), [])])
theorem mo_loc {V : List (Option Value)} {q : Nat} {c g : Int32} {x g1 g2 : Option Value} (h0 : V[0]? = some (some (.ref q))) (h1 : V[1]? = some (some (.int c))) (h2 : V[2]? = some (some (.int g))) (h3 : ∀ v, x = some v → V[3]? = some (some v)) : ∀ (i : Nat) (v : Value), i < 20 → (mo_V q c g x g1 g2)[i]? = some (some v) → V[i]? = some (some v) := by
  intro i v hi hv
  match i, hv with
  | 0, hv => cases hv; exact h0
  | 1, hv => cases hv; exact h1
  | 2, hv => cases hv; exact h2
  | 3, hv => exact h3 v (Option.some.inj hv)
  | 4, hv => cases hv
  | 5, hv => cases hv
  | 6, hv => cases hv
  | 7, hv => cases hv
  | 8, hv => cases hv
  | 9, hv => cases hv
  | 10, hv => cases hv
  | 11, hv => cases hv
  | 12, hv => cases hv
  | 13, hv => cases hv
  | 14, hv => cases hv
  | 15, hv => cases hv
  | 16, hv => cases hv
  | 17, hv => cases hv
  | 18, hv => cases hv
  | 19, hv => cases hv
  | i + 20, hv => omega
theorem mo_gL {τ : List Int} {ν : List Nat} {lm : List Int64} {q : Nat} {c g : Int32} {x g1 g2 : Option rt_V} {vx v1 v2 : Option Value} (hq : ad[0]? = some q) (hν : ν[0]? = some q) (hx : ∀ y, x = some y → ∃ v, vx = some v ∧ rt_gV τ ν lm mK ad y v) (h1 : ∀ y, g1 = some y → ∃ v, v1 = some v ∧ rt_gV τ ν lm mK ad y v) (h2 : ∀ y, g2 = some y → ∃ v, v2 = some v ∧ rt_gV τ ν lm mK ad y v) : rt_gL τ ν lm mK ad (mo_lo x g1 g2) (mo_V q c g vx v1 v2) := by
  have hany : ∀ x : Int32, rt_gI τ (0, mcB, mcT) x := fun x => rt_gI_0.mpr ⟨Int32.le_toInt x, by
    have := Int32.toInt_lt x
    show x.toInt ≤ 2147483647
    omega⟩
  intro j y hy
  match j, hy with
  | 0, hy => cases hy; exact ⟨_, rfl, q, rfl, ⟨0, hq, rfl⟩, Or.inr ⟨0, rfl, hν⟩⟩
  | 1, hy => cases hy; exact ⟨_, rfl, c, rfl, hany c⟩
  | 2, hy => cases hy; exact ⟨_, rfl, g, rfl, hany g⟩
  | 3, hy =>
    obtain ⟨v, e1, e2⟩ := hx y (Option.some.inj hy)
    exact ⟨v, by rw [e1]; rfl, e2⟩
  | 4, hy => cases hy
  | 5, hy => cases hy
  | 6, hy => cases hy
  | 7, hy => cases hy
  | 8, hy => cases hy
  | 9, hy => cases hy
  | 10, hy => cases hy
  | 11, hy => cases hy
  | 12, hy => cases hy
  | 13, hy => cases hy
  | 14, hy => cases hy
  | 15, hy => cases hy
  | 16, hy => cases hy
  | 17, hy => cases hy
  | 18, hy => cases hy
  | 19, hy => cases hy
  | 20, hy =>
    obtain ⟨v, e1, e2⟩ := h1 y (Option.some.inj hy)
    exact ⟨v, by rw [e1]; rfl, e2⟩
  | 21, hy =>
    obtain ⟨v, e1, e2⟩ := h2 y (Option.some.inj hy)
    exact ⟨v, by rw [e1]; rfl, e2⟩
  | j + 22, hy => cases hy
set_option maxHeartbeats 1000000 in
theorem m_logged {d1 : Nat} (hcx : rt_ctx KK mK ad (mF b)) (hMC : rt_MCok l D κ SP.2) (hMX : rt_MXok KK κ mK ad (mF b) MX) (hSW : rt_SWok KK κ mK ad (mF b) SW) (hmx : rt_mx MX 0 1 1 = some 0) (hkl : ml_chk KK MX SW SP n d1 = true) (htl : ml_ty KK = true) (hk : mo_chk KK MX SW SP n d = true) (hty : mo_ty KK = true) (hd1 : 1 ≤ d1) (hd : d1 + 1 ≤ d) : rt_Con l D KK κ mK ad (mF b) (mo_C d) := by
  intro t1 τ ν lm
  have em : mT[244]? = some (yX12_logged, cX12_logged, 5, some .int) := rfl
  have any1 : ∀ x : Int32, mcB ≤ x.toInt ∧ x.toInt ≤ mcT := fun x => ⟨Int32.le_toInt x, by
    have := Int32.toInt_lt x
    show x.toInt ≤ 2147483647
    omega⟩
  have hlat := m_latest (l := l) (D := D) hcx hMC hMX hSW hkl htl hd1 t1
  obtain ⟨y1, htl⟩ := rt_cnd htl
  obtain ⟨y2, -⟩ := rt_cnd htl
  obtain ⟨y3, y4⟩ := rt_cnd hty
  obtain ⟨k0, hk⟩ := rt_cnd hk
  obtain ⟨ka, hk⟩ := rt_cnd hk
  obtain ⟨kb, hk⟩ := rt_cnd hk
  obtain ⟨kc, kd⟩ := rt_cnd hk
  have hT : ∀ j : Nat, j < 60 → ∃ a, mTy KK 1 60 j = some a ∧ 0 ≤ a.1 ∧ a.2 ≤ 200 := by
    intro j h1
    have := rt_allK_ok y3 j () (by
      rw [List.getElem?_replicate, if_pos h1])
    rw [Nat.zero_add] at this
    cases h : mTy KK 1 60 j with
    | none => rw [h] at this; cases this
    | some a =>
      rw [h] at this
      obtain ⟨c1, c2⟩ := rt_cnd this
      exact ⟨a, rfl, ri_le_iff.mp c1, ri_le_iff.mp c2⟩
  have hcl : ∃ o, rt_kd KK 1 79 = some (.inl o) ∧ o.1 = 12 := by
    rcases h : rt_kd KK 1 79 with _ | o | o
    · rw [h] at y4; cases y4
    · rw [h] at y4
      exact ⟨o, rfl, Nat.eq_of_beq_eq_true y4⟩
    · rw [h] at y4; cases y4
  obtain ⟨oM, hoM, hoc⟩ := hcl
  have hrun := rt_run_ok (SP := SP) (CS := []) hcx hMC hMX (fun _ h => by cases h) n
  have e0 : t1 - ((0 : Nat) : Int) = t1 := by omega
  have core : rc_Met l κ D d 244 (rt_pre KK κ mK ad (mF b) t1 τ ν lm 0 (mo_C d).2.2.1) (fun _ w ov w' => rt_hp KK κ mK ad w (mF b) t1 0 0 w' ∧ ∃ z : Int32, ov = some (.int z)) := by
    refine rc_body (fun vs _ => rc_pad 20 (rc_en vs)) (fun _ _ _ _ _ _ h => rc_pad_at h) ?_ ?_
    · rintro y cc nL ret hm vs w ⟨-, -, -, -, hlen⟩
      rw [em] at hm
      cases hm
      have hlen : (rc_en vs).length = 3 := hlen
      omega
    · rintro y cc nL ret hm w vs ⟨hh, hN, hL, hO, hlen⟩ p e s m below meth c B
      rw [em] at hm
      cases hm
      have hlen : (rc_en vs).length = 3 := hlen
      obtain ⟨v0, p0, q, rfl, ⟨i0, hq, p2⟩, -⟩ := hL 0 _ rfl
      have := mK_inj i0 0 79 p2 rfl
      subst this
      obtain ⟨v1, p1, cz, rfl, -⟩ := hL 1 _ rfl
      obtain ⟨v2, p3, gz, rfl, -⟩ := hL 2 _ rfl
      have hent : ∀ w2, rt_hp KK κ mK ad w (mF b) t1 0 0 w2 → rt_hp KK κ mK ad w2 (mF b) t1 1 0 w2 := by
        intro w2 h
        have := (hMX 0 1 1 0 hmx).1 w t1 0 w2 h
        rw [e0] at this
        exact this
      have hmix : ∀ w2 w3, rt_hp KK κ mK ad w (mF b) t1 0 0 w2 → rt_hp KK κ mK ad w2 (mF b) t1 1 0 w3 → rt_hp KK κ mK ad w (mF b) t1 0 0 w3 := by
        intro w2 w3 h h'
        exact (hMX 0 1 1 0 hmx).2.2 w t1 0 0 w2 w3 h (by rw [e0]; exact h')
      have ret_ok : ∀ w2, rt_hp KK κ mK ad w (mF b) t1 0 0 w2 → ∀ (v : Option rt_V) (S' : rt_S) (b' : rc_C) (ov : Option Value), rt_tgi SW [mo_R] v S' = true → b'.2.2.1 = ov.toList → rt_rl KK κ mK ad w2 (mF b) t1 S' b' → rt_hp KK κ mK ad w (mF b) t1 0 0 b'.2.2.2 ∧ ∃ z : Int32, ov = some (.int z) := by
        intro w2 H v S' b' ov h1 h3 h4
        cases v with
        | none => cases h1
        | some x =>
          obtain ⟨tg, htg, hat⟩ := rt_tgt_ok hSW (show rt_tgt SW [mo_R] S' = true from h1) h4
          rw [List.mem_singleton.mp htg] at hat
          obtain ⟨τ, ν, lm, -, g2, -, g4, -⟩ := hat
          refine ⟨hmix _ _ H g2, ?_⟩
          obtain ⟨v, g5, z, rfl, -⟩ := g4 0 (.inl (0, mcB, mcT)) rfl
          rw [h3] at g5
          cases ov with
          | none => cases g5
          | some w =>
            cases g5
            exact ⟨z, rfl⟩
      have hcall : ∀ (pc : Nat) (V : List (Option Value)) (w2 : va_W) (cz az gz : Int32), ri_rowOK mT yX12_logged cX12_logged 5 (some .int) pc (.invokevirtual 681, 3, 12 + 4, 240, ((3 + 1 : Nat) : Int)) → rt_hp KK κ mK ad w (mF b) t1 0 0 w2 → (∀ (z : Int32) (w3 : va_W), rt_hp KK κ mK ad w (mF b) t1 0 0 w3 → (∀ j, j < 60 → mv w3 60 j = mv w2 60 j) → -1 ≤ z.toInt → z.toInt ≤ 59 → (z.toInt = -1 ∨ mv w2 60 z.toInt.toNat < az.toInt) → rc_AB p l e s m vs.toArray below meth c 5 D w (MQ below (rc_Q D w s.heap.size (fun ov w' => rt_hp KK κ mK ad w (mF b) t1 0 0 w' ∧ ∃ z : Int32, ov = some (.int z))) vs.toArray s 0 0 (va_A w s.heap.size)) d (pc + 3, V, [.int z], w3)) → rc_AB p l e s m vs.toArray below meth c 5 D w (MQ below (rc_Q D w s.heap.size (fun ov w' => rt_hp KK κ mK ad w (mF b) t1 0 0 w' ∧ ∃ z : Int32, ov = some (.int z))) vs.toArray s 0 0 (va_A w s.heap.size)) d (pc, V, [.int gz, .int az, .int cz, .ref q], w2) := by
        intro pc V w2 cz az gz hrow H kk
        have H1 := hent w2 H
        obtain ⟨q', vb, c1, c2, -⟩ := m_cell0 H1.2.1 H1.1 hoM
        rw [hq] at c2
        cases c2
        rw [hoc] at c1
        refine rc_call B (a := (pc, V, [.int gz, .int az, .int cz, .ref q], w2)) (As := [.int cz, .int az, .int gz]) (rst := []) (qb := q) (kb := 0) (vb := vb) hd hrow rfl rfl (by decide) c1 hlat ⟨H1, q, cz, az, gz, hq, rfl⟩ (fun ov ws' hQ _ => ?_)
        obtain ⟨hQ1, z, rfl, z1, z2, z3⟩ := hQ
        exact kk z ws' (hmix _ _ H hQ1) (fun j hj => mA_ok y1 mE1_ok hQ1.2.2.1 j hj) z1 z2 z3
      have hR1 : rt_okR mK ad [79] [q] := ⟨rfl, fun j k h1 => by
        match j, h1 with
        | 0, h1 => cases h1; exact ⟨_, rfl, 0, hq, rfl⟩
        | j + 1, h1 => cases h1⟩
      have hL0 : rt_gL [] [q] [] mK ad [some (.inr (.inl (79, 1))), some (.inl (0, mcB, mcT)), some (.inl (0, mcB, mcT))] (rc_en vs) := by
        intro j x hx
        match j, hx with
        | 0, hx => cases hx; exact ⟨_, p0, q, rfl, ⟨0, hq, rfl⟩, Or.inr ⟨0, rfl, rfl⟩⟩
        | 1, hx => cases hx; exact ⟨_, p1, cz, rfl, rt_gI_0.mpr (any1 cz)⟩
        | 2, hx => cases hx; exact ⟨_, p3, gz, rfl, rt_gI_0.mpr (any1 gz)⟩
        | j + 3, hx => cases hx
      obtain ⟨g1, -⟩ := rt_gL_pad hL0 hlen.symm 20
      -- the second answer
      have seg2 : ∀ (cz gz zz z2 : Int32) (w5 : va_W), rt_hp KK κ mK ad w (mF b) t1 0 0 w5 → 0 ≤ zz.toInt → zz.toInt ≤ 59 → -1 ≤ z2.toInt → z2.toInt ≤ 59 → (z2.toInt = -1 ∨ mv w5 60 z2.toInt.toNat + 1 ≤ mv w5 60 zz.toInt.toNat) → rc_AB p l e s m vs.toArray below meth c 5 D w (MQ below (rc_Q D w s.heap.size (fun ov w' => rt_hp KK κ mK ad w (mF b) t1 0 0 w' ∧ ∃ z : Int32, ov = some (.int z))) vs.toArray s 0 0 (va_A w s.heap.size)) d (42, mo_V q cz gz (some (.int zz)) none none, [.int z2], w5) := by
        intro cz gz zz z2 w5 H5 b1 b2 b3 b4 b5
        have H := hent w5 H5
        rcases b5 with b5 | b5
        · refine hrun d 244 [18, 39] true _ _ _ kc (by omega) _ _ 5 _ em (by decide) p e s m _ below meth c w B _ hh.1 w5 t1 _ ⟨[zz.toInt], [q], [], rfl, H, ⟨m_okE rfl ?_, hR1, ⟨rfl, fun j c h1 => by cases h1⟩⟩, mo_gL hq rfl (fun y hy => ?_) (fun y hy => by cases hy) (fun y hy => by cases hy), ⟨⟨z2, rfl, rt_gI_0.mpr ⟨by omega, by omega⟩⟩, trivial⟩, fun o ho => by cases ho⟩ (fun S' b' h1 => by cases h1) (fun v S' b' ov h1 _ h3 h4 _ => ret_ok w5 H5 v S' b' ov h1 h3 h4)
          · intro j e b h1 h2
            match j, h1, h2 with
            | 0, h1, h2 => cases h1; cases h2; exact m_okB b1 b2 (Or.inl rfl)
            | j + 1, h1, h2 => cases h1
          · cases hy
            exact ⟨_, rfl, zz, rfl, m_gI (k := 0) rfl⟩
        · have b3' : 0 ≤ z2.toInt ∨ z2.toInt = -1 := by omega
          rcases b3' with b3' | b3'
          · obtain ⟨q0, qT, eM, eT, r1, r2, r3, r4⟩ := m_ref H.2.1 H.1 y2
            have hq0 : q0 = q := by
              have := ri_ad_at r1
              rw [H.1, hq] at this
              exact (Option.some.inj this).symm
            subst hq0
            obtain ⟨aT, hTi, ha1, ha2⟩ := hT zz.toInt.toNat (by omega)
            obtain ⟨qT', eT', j1, j2, j3, j4⟩ := m_int H.2.1 hTi
            rw [r2] at j1
            cases j1
            obtain ⟨aU, hTj, hb1, hb2⟩ := hT z2.toInt.toNat (by omega)
            obtain ⟨qU', eU', l1, l2, l3, l4⟩ := m_int H.2.1 hTj
            rw [r2] at l1
            cases l1
            refine hrun d 244 [18, 39] true _ _ _ kd (by omega) _ _ 5 _ em (by decide) p e s m _ below meth c w B _ hh.1 w5 t1 _ ⟨[zz.toInt, z2.toInt, mv w5 60 z2.toInt.toNat, mv w5 60 zz.toInt.toNat], [q0, qT], [], rfl, H, ⟨m_okE rfl ?_, ⟨rfl, ?_⟩, ⟨rfl, fun j c h1 => by cases h1⟩⟩, mo_gL hq rfl (fun y hy => ?_) (fun y hy => by cases hy) (fun y hy => by cases hy), ⟨⟨z2, rfl, m_gI (k := 1) rfl⟩, trivial⟩, ?_⟩ (fun S' b' h1 => by cases h1) (fun v S' b' ov h1 _ h3 h4 _ => ret_ok w5 H5 v S' b' ov h1 h3 h4)
            · intro j e b h1 h2
              match j, h1, h2 with
              | 0, h1, h2 => cases h1; cases h2; exact m_okB b1 b2 (Or.inl rfl)
              | 1, h1, h2 => cases h1; cases h2; exact m_okB b3' b4 (Or.inl rfl)
              | 2, h1, h2 => cases h1; cases h2; exact m_okB (by show 0 ≤ mv w5 60 z2.toInt.toNat; omega) (by show mv w5 60 z2.toInt.toNat ≤ 200; omega) (Or.inl rfl)
              | 3, h1, h2 => cases h1; cases h2; exact m_okB (by show 0 ≤ mv w5 60 zz.toInt.toNat; omega) (by show mv w5 60 zz.toInt.toNat ≤ 200; omega) (Or.inr ⟨mv w5 60 z2.toInt.toNat, rfl, b5⟩)
              | j + 4, h1, h2 => cases h1
            · intro j k h1
              match j, h1 with
              | 0, h1 => cases h1; exact ⟨_, rfl, 0, hq, rfl⟩
              | 1, h1 => cases h1; exact ⟨_, rfl, 60, r4, rfl⟩
              | j + 2, h1 => cases h1
            · cases hy
              exact ⟨_, rfl, zz, rfl, m_gI (k := 0) rfl⟩
            · intro o ho
              rcases List.mem_cons.mp ho with rfl | ho
              · exact m_mkR (j := 0) (j' := 1) (i := 60) (f := 91) rfl rfl r1 r3 r4 rfl
              · rcases List.mem_cons.mp ho with rfl | ho
                · exact m_mkOt (j := 1) (i := 60) (t := 0) rfl r2 rfl b1 j2 (m_gI (k := 3) rfl)
                · rw [List.mem_singleton.mp ho]
                  exact m_mkOt (j := 1) (i := 60) (t := 1) rfl r2 rfl b3' l2 (m_gI (k := 2) rfl)
          · refine hrun d 244 [18, 39] true _ _ _ kc (by omega) _ _ 5 _ em (by decide) p e s m _ below meth c w B _ hh.1 w5 t1 _ ⟨[zz.toInt], [q], [], rfl, H, ⟨m_okE rfl ?_, hR1, ⟨rfl, fun j c h1 => by cases h1⟩⟩, mo_gL hq rfl (fun y hy => ?_) (fun y hy => by cases hy) (fun y hy => by cases hy), ⟨⟨z2, rfl, rt_gI_0.mpr ⟨by omega, by omega⟩⟩, trivial⟩, fun o ho => by cases ho⟩ (fun S' b' h1 => by cases h1) (fun v S' b' ov h1 _ h3 h4 _ => ret_ok w5 H5 v S' b' ov h1 h3 h4)
            · intro j e b h1 h2
              match j, h1, h2 with
              | 0, h1, h2 => cases h1; cases h2; exact m_okB b1 b2 (Or.inl rfl)
              | j + 1, h1, h2 => cases h1
            · cases hy
              exact ⟨_, rfl, zz, rfl, m_gI (k := 0) rfl⟩
      -- the first answer
      have seg1 : ∀ (cz gz zz : Int32) (w3 : va_W), rt_hp KK κ mK ad w (mF b) t1 0 0 w3 → -1 ≤ zz.toInt → zz.toInt ≤ 59 → rc_AB p l e s m vs.toArray below meth c 5 D w (MQ below (rc_Q D w s.heap.size (fun ov w' => rt_hp KK κ mK ad w (mF b) t1 0 0 w' ∧ ∃ z : Int32, ov = some (.int z))) vs.toArray s 0 0 (va_A w s.heap.size)) d (21, mo_V q cz gz none none none, [.int zz], w3) := by
        intro cz gz zz w3 H3 b1 b2
        have H := hent w3 H3
        rcases (show zz.toInt = -1 ∨ 0 ≤ zz.toInt by omega) with b3 | b3
        · refine hrun d 244 [18, 39] true _ _ _ ka (by omega) _ _ 5 _ em (by decide) p e s m _ below meth c w B _ hh.1 w3 t1 _ ⟨[], [q], [], rfl, H, ⟨m_okE rfl (fun j e b h1 => by cases h1), hR1, ⟨rfl, fun j c h1 => by cases h1⟩⟩, mo_gL hq rfl (fun y hy => by cases hy) (fun y hy => by cases hy) (fun y hy => by cases hy), ⟨⟨zz, rfl, rt_gI_0.mpr ⟨by omega, by omega⟩⟩, trivial⟩, fun o ho => by cases ho⟩ (fun S' b' h1 => by cases h1) (fun v S' b' ov h1 _ h3 h4 _ => ret_ok w3 H3 v S' b' ov h1 h3 h4)
        · obtain ⟨q0, qT, eM, eT, r1, r2, r3, r4⟩ := m_ref H.2.1 H.1 y2
          have hq0 : q0 = q := by
            have := ri_ad_at r1
            rw [H.1, hq] at this
            exact (Option.some.inj this).symm
          subst hq0
          obtain ⟨aT, hTi, -, -⟩ := hT zz.toInt.toNat (by omega)
          obtain ⟨qT', eT', j1, j2, -, -⟩ := m_int H.2.1 hTi
          rw [r2] at j1
          cases j1
          refine rc_At_loc (V := mo_V q0 cz gz none (some (.int zz)) (some (.int (mz w3 60 zz.toInt.toNat)))) (mo_loc rfl rfl rfl (fun v hv => by cases hv)) ?_
          refine hrun d 244 [18, 39] true _ _ _ kb (by omega) _ _ 5 _ em (by decide) p e s m _ below meth c w B _ hh.1 w3 t1 _ ⟨[zz.toInt, mv w3 60 zz.toInt.toNat], [q0, qT], [], rfl, H, ⟨m_okE rfl ?_, ⟨rfl, ?_⟩, ⟨rfl, fun j c h1 => by cases h1⟩⟩, mo_gL hq rfl (fun y hy => by cases hy) (fun y hy => ?_) (fun y hy => ?_), ⟨⟨zz, rfl, m_gI (k := 0) rfl⟩, trivial⟩, ?_⟩ (fun S' b' x1 x2 x3 => ?_) (fun v S' b' ov h1 => by cases h1)
          · intro j e b h1 h2
            match j, h1, h2 with
            | 0, h1, h2 => cases h1; cases h2; exact m_okB b3 b2 (Or.inl rfl)
            | 1, h1, h2 => cases h1; cases h2; exact m_okB (any1 (mz w3 60 zz.toInt.toNat)).1 (any1 (mz w3 60 zz.toInt.toNat)).2 (Or.inl rfl)
            | j + 2, h1, h2 => cases h1
          · intro j k h1
            match j, h1 with
            | 0, h1 => cases h1; exact ⟨_, rfl, 0, hq, rfl⟩
            | 1, h1 => cases h1; exact ⟨_, rfl, 60, r4, rfl⟩
            | j + 2, h1 => cases h1
          · cases hy
            exact ⟨_, rfl, zz, rfl, m_gI (k := 0) rfl⟩
          · cases hy
            exact ⟨_, rfl, _, rfl, m_gI (k := 1) rfl⟩
          · intro o ho
            rcases List.mem_cons.mp ho with rfl | ho
            · exact m_mkR (j := 0) (j' := 1) (i := 60) (f := 91) rfl rfl r1 r3 r4 rfl
            · rw [List.mem_singleton.mp ho]
              exact m_mkOt (j := 1) (i := 60) (t := 0) rfl r2 rfl b3 j2 (m_gI (k := 1) rfl)
          · obtain ⟨hl0, tg, htg, hat⟩ := rt_tgl_ok hSW x1 x2
            rw [List.mem_singleton.mp htg] at hat
            obtain ⟨τ', ν', lm', hpc, k2, k3, k4, -⟩ := hat
            obtain ⟨sa, sb, sc, sd, hb0⟩ := m_four hl0
            have hpc : b'.1 = 39 := by
              rcases hpc with hpc | hpc
              · cases hpc
              · exact hpc
            rw [hb0] at k4
            obtain ⟨_, s0, g', rfl, -⟩ := k4 0 (.inl (0, mcB, mcT)) rfl
            have s0 : some (some sa) = some (some (Value.int g')) := s0
            cases s0
            obtain ⟨_, s1, v', rfl, gv⟩ := k4 1 (.inl (1, 0, 0)) rfl
            have s1 : some (some sb) = some (some (Value.int v')) := s1
            cases s1
            obtain ⟨_, s2, c', rfl, -⟩ := k4 2 (.inl (0, mcB, mcT)) rfl
            have s2 : some (some sc) = some (some (Value.int c')) := s2
            cases s2
            obtain ⟨_, s3, q3, rfl, ⟨i3, s4, s5⟩, -⟩ := k4 3 (.inr (.inl (79, 1))) rfl
            have s3 : some (some sd) = some (some (Value.ref q3)) := s3
            cases s3
            have := mK_inj i3 0 79 s5 rfl
            subst this
            rw [hq] at s4
            cases s4
            obtain ⟨_, u0, q4, rfl, ⟨i4, u1, u2⟩, -⟩ := k4 8 (.inr (.inl (79, 1))) rfl
            have := mK_inj i4 0 79 u2 rfl
            subst this
            rw [hq] at u1
            cases u1
            obtain ⟨_, uc, c4, rfl, -⟩ := k4 9 (.inl (0, mcB, mcT)) rfl
            obtain ⟨_, ug, g4, rfl, -⟩ := k4 10 (.inl (0, mcB, mcT)) rfl
            obtain ⟨_, uz, z4, rfl, gz4⟩ := k4 11 (.inl (2, 0, 0)) rfl
            obtain ⟨_, h20, x20, rfl, g20⟩ := k4 28 (.inl (2, 0, 0)) rfl
            obtain ⟨_, h21, x21, rfl, g21⟩ := k4 29 (.inl (1, 0, 0)) rfl
            obtain ⟨tv, ev, -, -, -⟩ := m_tg k3.1 (k := 0) rfl
            obtain ⟨tz, ez, -, -, -⟩ := m_tg k3.1 (k := 1) rfl
            have gv := m_gIe gv ev
            have gz4 := m_gIe gz4 ez
            have g20 := m_gIe g20 ez
            have g21 := m_gIe g21 ev
            have v20 := x3 20 _ (by decide) (show b'.2.1[20]? = some (some (.int x20)) from h20)
            have v20 : some (some (Value.int zz)) = some (some (.int x20)) := v20
            cases v20
            have v21 := x3 21 _ (by decide) (show b'.2.1[21]? = some (some (.int x21)) from h21)
            have v21 : some (some (Value.int (mz w3 60 zz.toInt.toNat))) = some (some (.int x21)) := v21
            cases v21
            have hzz : z4 = zz := Int32.toInt_inj.mp (by omega)
            subst hzz
            have hvv : v'.toInt = mv w3 60 z4.toInt.toNat := by
              show v'.toInt = (mz w3 60 z4.toInt.toNat).toInt
              omega
            have hF : ∀ j, j < 60 → mv b'.2.2.2 60 j = mv w3 60 j := fun j hj => mA_ok y1 mE1_ok k2.2.2.1 j hj
            refine rc_At_loc (V := mo_V q0 c4 g4 (some (.int z4)) none none) (mo_loc (show b'.2.1[0]? = _ from u0) (show b'.2.1[1]? = _ from uc) (show b'.2.1[2]? = _ from ug) (fun v hv => by cases hv; exact uz)) ?_
            rw [hb0, hpc]
            refine hcall 39 _ b'.2.2.2 c' v' g' mo_r39 (hmix _ _ H3 k2) (fun z2 w5 H5 F5 a1 a2 a3 => seg2 c4 g4 z4 z2 w5 H5 b3 b2 a1 a2 ?_)
            rcases a3 with a3 | a3
            · exact Or.inl a3
            · rcases (show z2.toInt = -1 ∨ 0 ≤ z2.toInt by omega) with a4 | a4
              · exact Or.inl a4
              · have f1 := F5 z2.toInt.toNat (by omega)
                have f2 := F5 z4.toInt.toNat (by omega)
                have f3 := hF z4.toInt.toNat (by omega)
                exact Or.inr (by omega)
      refine hrun d 244 [18, 39] false _ _ _ k0 (by omega) _ _ 5 _ em (by decide) p e s m _ below meth c w B _ hh.1 w t1 _ ⟨[], [q], [], rfl, hent w hh, ⟨m_okE rfl (fun j e b h1 => by cases h1), hR1, ⟨rfl, fun j c h1 => by cases h1⟩⟩, g1, trivial, fun o ho => by cases ho⟩ (fun S' b' x1 x2 x3 => ?_) (fun v S' b' ov h1 _ h3 h4 _ => ret_ok w hh v S' b' ov h1 h3 h4)
      obtain ⟨hl0, tg, htg, hat⟩ := rt_tgl_ok hSW x1 x2
      rw [List.mem_singleton.mp htg] at hat
      obtain ⟨τ', ν', lm', hpc, k2, k3, k4, -⟩ := hat
      obtain ⟨sa, sb, sc, sd, hb0⟩ := m_four hl0
      have hpc : b'.1 = 18 := by
        rcases hpc with hpc | hpc
        · cases hpc
        · exact hpc
      rw [hb0] at k4
      obtain ⟨_, s0, g', rfl, -⟩ := k4 0 (.inl (0, mcB, mcT)) rfl
      have s0 : some (some sa) = some (some (Value.int g')) := s0
      cases s0
      obtain ⟨_, s1, v', rfl, -⟩ := k4 1 (.inl (0, 201, 201)) rfl
      have s1 : some (some sb) = some (some (Value.int v')) := s1
      cases s1
      obtain ⟨_, s2, c', rfl, -⟩ := k4 2 (.inl (0, mcB, mcT)) rfl
      have s2 : some (some sc) = some (some (Value.int c')) := s2
      cases s2
      obtain ⟨_, s3, q3, rfl, ⟨i3, s4, s5⟩, -⟩ := k4 3 (.inr (.inl (79, 1))) rfl
      have s3 : some (some sd) = some (some (Value.ref q3)) := s3
      cases s3
      have := mK_inj i3 0 79 s5 rfl
      subst this
      rw [hq] at s4
      cases s4
      obtain ⟨_, u0, q4, rfl, ⟨i4, u1, u2⟩, -⟩ := k4 8 (.inr (.inl (79, 1))) rfl
      have := mK_inj i4 0 79 u2 rfl
      subst this
      rw [hq] at u1
      cases u1
      obtain ⟨_, uc, c4, rfl, -⟩ := k4 9 (.inl (0, mcB, mcT)) rfl
      obtain ⟨_, ug, g4, rfl, -⟩ := k4 10 (.inl (0, mcB, mcT)) rfl
      refine rc_At_loc (V := mo_V q c4 g4 none none none) (mo_loc (show b'.2.1[0]? = _ from u0) (show b'.2.1[1]? = _ from uc) (show b'.2.1[2]? = _ from ug) (fun v hv => by cases hv)) ?_
      rw [hb0, hpc]
      exact hcall 18 _ b'.2.2.2 c' v' g' mo_r18 (hmix _ _ hh k2) (fun z w3 H3 _ a1 a2 _ => seg1 c4 g4 z w3 H3 a1 a2)
  intro y cc nL ret hm w sz vs hp
  refine MetFree.mono (core y cc nL ret hm w sz vs hp) (fun _ _ g => g) (fun _ _ _ _ _ g => g) (fun a st o t _ hQ => ?_)
  obtain ⟨⟨⟨w', ov, m1, ⟨m2, z, rfl⟩, m3⟩, m9⟩, hf⟩ := hQ
  exact ⟨⟨⟨w', some (.int z), m1, ⟨_, List.mem_cons_self, m2, ⟨.int z, rfl, z, rfl, (any1 z).1, (any1 z).2⟩, fun x hx => by cases hx⟩, m3⟩, m9⟩, hf⟩
end MLO
