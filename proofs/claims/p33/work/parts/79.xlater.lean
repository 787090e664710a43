/-! later of the class: exact -/
def xt_lo (x : rt_V) : List (Option rt_V) := [some (.inr (.inl (0, 1))), some x, none, none, none, none, none, none, none, none, none, none, none, none, none, none, none, none, none, none, some (.inl (1, 0, 0))]
def xt_S (lo hi : Int) : rt_S := (0, (3, 0), ([((0, 100000), (0, 0), none, none)], [0, 11], []), xt_lo (.inl (0, lo, hi)), [], [(1, (0, 10), .inr (.inl (11, 2))), (2, (0, 0), .inl (1, 0, 0))])
def xt_R1 (lo : Int) : rt_Tg := (0, (3, 0), ([((lo, 100000), (0, 0), none, none)], [0, 11], []), [some (.inl (0, -1, -1)), none, none, none, none, none, none, none, some (.inr (.inl (0, 1))), none, none, none, none, none, none, none, none, none, none, none, none, none, none, none, none, none, none, none, some (.inl (1, 0, 0))], [(1, (0, 10), .inr (.inl (11, 2))), (2, (0, 0), .inl (1, 0, 0))])
def xt_R2 (k : Int) : rt_Tg := (0, (3, 0), ([((k, 100000), (0, 0), none, none)], [0, 11], []), [some (.inl (1, 0, 0)), none, none, none, none, none, none, none, some (.inr (.inl (0, 1))), none, none, none, none, none, none, none, none, none, none, none, none, none, none, none, none, none, none, none, some (.inl (1, -k, -k))], [(1, (0, 10), .inr (.inl (11, 2))), (2, (0, 0), .inl (1, 0, 0))])
theorem xt_ka : rt_run wX_K wX_X [] wX_S 3000 12 153 [] false rt_kf (rt_tgi wX_W [xt_R1 0]) (xt_S mcB (-1)) = true := by decide +kernel
theorem xt_kb : rt_run wX_K wX_X [] wX_S 3000 12 153 [] false rt_kf (rt_tgi wX_W [xt_R1 0]) (xt_S 1001 mcT) = true := by decide +kernel
theorem xt_kc : rt_allK (fun k (_ : Unit) => rt_run wX_K wX_X [] wX_S 3000 12 153 [] false rt_kf (rt_tgi wX_W [xt_R1 (100001 - (k : Int)), xt_R2 k]) (xt_S k k)) (List.replicate 1001 ()) 0 = true := by decide +kernel
/-- the cells of the class and of its logs -/
theorem wX_u0 : ∀ i : Nat, wX_D[i]? = some 0 → i = 0 := by
  intro i h
  have hi : i < 131 := (List.getElem?_eq_some_iff.mp h).1
  have := (by decide : ∀ j : Fin 131, wX_D[j.val]? = some 0 → j.val = 0) ⟨i, hi⟩
  exact this h
theorem wX_u11 : ∀ i : Nat, wX_D[i]? = some 11 → i = 85 := by
  intro i h
  have hi : i < 131 := (List.getElem?_eq_some_iff.mp h).1
  have := (by decide : ∀ j : Fin 131, wX_D[j.val]? = some 11 → j.val = 85) ⟨i, hi⟩
  exact this h
noncomputable def x_Ty (KK : List (List rt_K)) (g k j : Nat) : Option rt_T := match rt_kd KK g k with
  | none => none
  | some kd => (match rt_sT kd j with
    | some f => some f.2
    | none => none)
section XG
variable {KK : List (List rt_K)} {κ : Nat → ClassId} {K ad : List Nat} {g : Nat} {ws : va_W} {τ : List Int} {ν : List Nat} {lm : List Int64}
theorem x_slot (hH : rt_gH KK g κ K ad ws) {i j k : Nat} {T : rt_T} (hk : K[i]? = some k) (h : x_Ty KK g k j = some T) : ∃ (q : Nat) (e : va_E) (v : Value), ws[i]? = some (q, e) ∧ rt_sl e j = some v ∧ rt_gT K ad T v := by
  unfold x_Ty at h
  obtain ⟨q, e, kd, h1, h2, h3⟩ := hH i k hk
  rw [h2] at h
  have h : (match (generalizing := false) rt_sT kd j with
    | some f => some f.2
    | none => none) = some T := h
  cases hf : rt_sT kd j with
  | none => rw [hf] at h; cases h
  | some f =>
    rw [hf] at h
    cases h
    obtain ⟨v, e1, e2⟩ := h3.2 j f hf
    exact ⟨q, e, v, h1, e1, e2⟩
theorem x_int (hH : rt_gH KK g κ K ad ws) {i j k : Nat} {a : Int × Int} (hk : K[i]? = some k) (h : x_Ty KK g k j = some (.inl a)) : ∃ (q : Nat) (e : va_E), ws[i]? = some (q, e) ∧ rt_sl e j = some (.int (mz ws i j)) ∧ a.1 ≤ mv ws i j ∧ mv ws i j ≤ a.2 := by
  obtain ⟨q, e, v, h1, e1, z, rfl, e2, e3⟩ := x_slot hH hk h
  have ez : mz ws i j = z := by
    unfold mz
    rw [h1]
    show (match rt_sl e j with
      | some (.int z) => z
      | _ => 0) = z
    rw [e1]
  refine ⟨q, e, h1, by rw [e1, ez], ?_, ?_⟩
  · show a.1 ≤ (mz ws i j).toInt
    rw [ez]
    exact e2
  · show (mz ws i j).toInt ≤ a.2
    rw [ez]
    exact e3
theorem x_ref (hH : rt_gH KK g κ K ad ws) (had : ri_ad ws = ad) {i i' f k k' : Nat} (hk : K[i]? = some k) (h : x_Ty KK g k f = some (.inr (.inl k'))) (hk' : K[i']? = some k') (hu : ∀ j, K[j]? = some k' → j = i') : ∃ (q0 q : Nat) (e0 e : va_E), ws[i]? = some (q0, e0) ∧ ws[i']? = some (q, e) ∧ rt_sl e0 f = some (.ref q) ∧ ad[i']? = some q := by
  obtain ⟨q0, e0, v, h1, e1, q, rfl, i2, a1, a2⟩ := x_slot hH hk h
  have := hu i2 a2
  subst this
  obtain ⟨q', e', kd', g1, -, -⟩ := hH i2 k' hk'
  have : q' = q := by
    have := ri_ad_at g1
    rw [had, a1] at this
    exact (Option.some.inj this).symm
  subst this
  exact ⟨q0, q', e0, e', h1, g1, e1, a1⟩
theorem x_O0 (hi : ∀ (i j q : Nat), ad[i]? = some q → ad[j]? = some q → i = j) (had : ri_ad ws = ad) {j i f : Nat} {x : ri_I} {R : List Nat} {k : Nat} (hR : rt_okR K ad R ν) (hO : rt_gO τ ν lm K ad ws (j + 1, (0, (f : Int)), .inl x)) (hk : R[j]? = some k) (hu : ∀ j, K[j]? = some k → j = i) : rt_gI τ x (mz ws i f) := by
  obtain ⟨j', q, i', e, b, v, o1, o2, o3, o4, o5, o6, z, rfl, o8⟩ := hO
  have o1 : j + 1 = j' + 1 := o1
  have : j' = j := by omega
  subst this
  obtain ⟨q', r1, i2, r2, r3⟩ := hR.2 j' k hk
  have : q' = q := Option.some.inj (r1.symm.trans o2)
  subst this
  have := hu i2 r3
  subst this
  have h4 := ri_ad_at o3
  rw [had] at h4
  have := hi i' i2 q' h4 r2
  subst this
  have o4 : b = 0 := (Option.some.inj (show some 0 = some b from o4)).symm
  subst o4
  have o6 : rt_sl e ((0 : Int) + (f : Int)).toNat = some (.int z) := o6
  rw [show ((0 : Int) + (f : Int)).toNat = f by omega] at o6
  have ez : mz ws i' f = z := by
    unfold mz
    rw [o3]
    show (match rt_sl e f with
      | some (.int z) => z
      | _ => 0) = z
    rw [o6]
  rw [ez]
  exact o8
theorem x_mkO {j i f q : Nat} {x : ri_I} {e : va_E} (hν : ν[j]? = some q) (hw : ws[i]? = some (q, e)) (hs : rt_sl e f = some (.int (mz ws i f))) (hx : rt_gI τ x (mz ws i f)) : rt_gO τ ν lm K ad ws (j + 1, (0, (f : Int)), .inl x) := ⟨j, q, i, e, 0, .int (mz ws i f), rfl, hν, hw, rfl, by show (0 : Int) ≤ 0 + (f : Int); omega, by
  show rt_sl e ((0 : Int) + (f : Int)).toNat = _
  rw [show ((0 : Int) + (f : Int)).toNat = f by omega]
  exact hs, mz ws i f, rfl, hx⟩
theorem x_mkR {j j' i0 i f q0 q : Nat} {k : Nat} {e0 : va_E} (hν : ν[j]? = some q0) (hν' : ν[j']? = some q) (hw : ws[i0]? = some (q0, e0)) (hs : rt_sl e0 f = some (.ref q)) (ha : ad[i]? = some q) (hk : K[i]? = some k) : rt_gO τ ν lm K ad ws (j + 1, (0, (f : Int)), .inr (.inl (k, j' + 1))) := ⟨j, q0, i0, e0, 0, .ref q, rfl, hν, hw, rfl, by show (0 : Int) ≤ 0 + (f : Int); omega, by
  show rt_sl e0 ((0 : Int) + (f : Int)).toNat = _
  rw [show ((0 : Int) + (f : Int)).toNat = f by omega]
  exact hs, q, rfl, ⟨i, ha, hk⟩, Or.inr ⟨j', rfl, hν'⟩⟩
end XG
section XTL
variable {l : Launch} {D : va_G} {κ : Nat → ClassId} {ad : List Nat}
def xtQ (κ : Nat → ClassId) (ad : List Nat) (t1 : Int) (w : va_W) (z : Int32) (ov : Option Value) (w' : va_W) : Prop := rt_hp wX_K κ wX_D ad w wX_F t1 3 0 w' ∧ ∃ r : Int32, ov = some (.int r) ∧ r.toInt = mtA (mv w 85 0) z.toInt ∧ mv w' 85 0 = mtT (mv w 85 0) z.toInt
theorem xt_gL {τ : List Int} {ν : List Nat} {lm : List Int64} {q : Nat} {z T : Int32} {lo hi : Int} (hq : ad[0]? = some q) (hν : ν[0]? = some q) (h0 : τ[0]? = some T.toInt) (hz : lo ≤ z.toInt ∧ z.toInt ≤ hi) : rt_gL τ ν lm wX_D ad (xt_lo (.inl (0, lo, hi))) (mt_V q z T) := by
  intro j x hx
  match j, hx with
  | 0, hx => cases hx; exact ⟨_, rfl, q, rfl, ⟨0, hq, rfl⟩, Or.inr ⟨0, rfl, hν⟩⟩
  | 1, hx => cases hx; exact ⟨_, rfl, z, rfl, rt_gI_0.mpr hz⟩
  | 2, hx => cases hx
  | 3, hx => cases hx
  | 4, hx => cases hx
  | 5, hx => cases hx
  | 6, hx => cases hx
  | 7, hx => cases hx
  | 8, hx => cases hx
  | 9, hx => cases hx
  | 10, hx => cases hx
  | 11, hx => cases hx
  | 12, hx => cases hx
  | 13, hx => cases hx
  | 14, hx => cases hx
  | 15, hx => cases hx
  | 16, hx => cases hx
  | 17, hx => cases hx
  | 18, hx => cases hx
  | 19, hx => cases hx
  | 20, hx => cases hx; exact ⟨_, rfl, T, rfl, m_gI h0⟩
  | j + 21, hx => cases hx
set_option maxHeartbeats 1000000 in
theorem x_later (hinj : ∀ (i j q : Nat), ad[i]? = some q → ad[j]? = some q → i = j) (t1 : Int) : rc_Met l κ D 12 153 (fun vs w => rt_hp wX_K κ wX_D ad w wX_F t1 3 0 w ∧ ∃ (q : Nat) (z : Int32), ad[0]? = some q ∧ vs = [.ref q, .int z]) (fun vs w ov w' => xtQ κ ad t1 w (mtZ vs) ov w') := by
  have em : mT[153]? = some (yX11_later, cX11_later, 2, some .int) := rfl
  have hcx := wX_cx (ad := ad) hinj
  have hty : x_Ty wX_K 3 11 0 = some (.inl (0, 100000)) := by decide +kernel
  have htr : x_Ty wX_K 3 0 10 = some (.inr (.inl 11)) := by decide +kernel
  have any1 : ∀ x : Int32, mcB ≤ x.toInt ∧ x.toInt ≤ mcT := fun x => ⟨Int32.le_toInt x, by
    have := Int32.toInt_lt x
    show x.toInt ≤ 2147483647
    omega⟩
  refine rc_body (fun vs w => rc_pad 20 (rc_en vs) ++ [some (.int (mz w 85 0))]) ?_ ?_ ?_
  · rintro vs w ⟨-, q, z, -, rfl⟩ i v hi hv
    rw [List.getElem?_append_left (by rw [rc_pad_len (by show 2 ≤ 20; decide)]; exact hi)] at hv
    exact rc_pad_at hv
  · rintro y cc nL ret hm vs w ⟨-, q, z, -, rfl⟩
    rw [em] at hm
    cases hm
    show 2 ≤ 2
    decide
  · rintro y cc nL ret hm w vs ⟨hh, q, z, hq, rfl⟩ p e s m below meth c B
    rw [em] at hm
    cases hm
    obtain ⟨qL, eL, i1, i2, i3, i4⟩ := x_int hh.2.1 (show wX_D[85]? = some 11 from rfl) hty
    obtain ⟨q', qM, e0, eM, r1, r2, r3, r4⟩ := x_ref hh.2.1 hh.1 (show wX_D[0]? = some 0 from rfl) htr (show wX_D[85]? = some 11 from rfl) wX_u11
    rw [i1] at r2
    cases r2
    have hq' : q' = q := by
      have := ri_ad_at r1
      rw [hh.1, hq] at this
      exact (Option.some.inj this).symm
    subst hq'
    have hrun := rt_run_ok (l := l) (D := D) (κ := κ) (SP := wX_S) (CS := []) hcx mc_all wX_mx (fun _ h => by cases h) 3000
    have i3 : 0 ≤ mv w 85 0 := i3
    have i4 : mv w 85 0 ≤ 100000 := i4
    have go : ∀ (lo hi : Int) (tg : List rt_Tg), rt_run wX_K wX_X [] wX_S 3000 12 153 [] false rt_kf (rt_tgi wX_W tg) (xt_S lo hi) = true → lo ≤ z.toInt → z.toInt ≤ hi → (∀ (b' : rc_C) (ov : Option Value), b'.2.2.1 = ov.toList → (∃ t ∈ tg, rt_atT wX_K κ wX_D ad w wX_F t1 t b') → (∀ (i : Nat) (v : Value), 20 ≤ i → b'.2.1[i]? = some (some v) → (mt_V q' z (mz w 85 0))[i]? = some (some v)) → xtQ κ ad t1 w z ov b'.2.2.2) → rc_AB p l e s m [Value.ref q', .int z].toArray below meth c 2 D w (MQ below (rc_Q D w s.heap.size (xtQ κ ad t1 w z)) [Value.ref q', .int z].toArray s 0 0 (va_A w s.heap.size)) 12 (0, mt_V q' z (mz w 85 0), [], w) := by
      intro lo hi tg hr b1 b2 kk
      refine hrun 12 153 [] false _ _ _ hr (by decide) _ _ 2 _ em (by decide) p e s m _ below meth c w B _ hh.1 w t1 _ ⟨[mv w 85 0], [q', qL], [], rfl, hh, ⟨m_okE rfl ?_, ⟨rfl, ?_⟩, ⟨rfl, fun j c h1 => by cases h1⟩⟩, xt_gL hq rfl rfl ⟨b1, b2⟩, trivial, ?_⟩ (fun S' b' h1 => by cases h1) (fun v S' b' ov h1 _ h3 h4 h5 => ?_)
      · intro j e b h1 h2
        match j, h1, h2 with
        | 0, h1, h2 => cases h1; cases h2; exact m_okB i3 i4 (Or.inl rfl)
        | j + 1, h1, h2 => cases h1
      · intro j k h1
        match j, h1 with
        | 0, h1 => cases h1; exact ⟨_, rfl, 0, hq, rfl⟩
        | 1, h1 => cases h1; exact ⟨_, rfl, 85, r4, rfl⟩
        | j + 2, h1 => cases h1
      · intro o ho
        rcases List.mem_cons.mp ho with rfl | ho
        · exact x_mkR (j := 0) (j' := 1) (i0 := 0) (i := 85) (f := 10) rfl rfl r1 r3 r4 rfl
        · rw [List.mem_singleton.mp ho]
          exact x_mkO (j := 1) (i := 85) (f := 0) rfl i1 i2 (m_gI (k := 0) rfl)
      · cases v with
        | none => cases h1
        | some x => exact kk b' ov h3 (rt_tgt_ok wX_sw (show rt_tgt wX_W tg S' = true from h1) h4) h5
    have fin1 : ∀ (lo : Int) (b' : rc_C) (ov : Option Value), b'.2.2.1 = ov.toList → rt_atT wX_K κ wX_D ad w wX_F t1 (xt_R1 lo) b' → (∀ (i : Nat) (v : Value), 20 ≤ i → b'.2.1[i]? = some (some v) → (mt_V q' z (mz w 85 0))[i]? = some (some v)) → (lo ≤ mv w 85 0 → ¬ (0 ≤ z.toInt ∧ z.toInt ≤ 1000 ∧ mv w 85 0 + z.toInt ≤ 100000)) → xtQ κ ad t1 w z ov b'.2.2.2 := by
      intro lo b' ov h3 hat G hlo
      obtain ⟨τ, ν, lm, -, g2, g3, g4, g5⟩ := hat
      cases ov with
      | none =>
        rw [h3] at g4
        obtain ⟨_, s0, _⟩ := g4 0 (.inl (0, -1, -1)) rfl
        cases s0
      | some r0 =>
        rw [h3] at g4
        obtain ⟨_, s0, r, rfl, gr⟩ := g4 0 (.inl (0, -1, -1)) rfl
        have s0 : some (some r0) = some (some (Value.int r)) := s0
        cases s0
        have gr := rt_gI_0.mp gr
        obtain ⟨_, h20, x20, rfl, g20⟩ := g4 28 (.inl (1, 0, 0)) rfl
        obtain ⟨tv, ev, bv, -, -⟩ := m_tg g3.1 (k := 0) rfl
        have g20 := m_gIe g20 ev
        have v20 := G 20 _ (by decide) (show b'.2.1[20]? = some (some (.int x20)) from h20)
        have v20 : some (some (Value.int (mz w 85 0))) = some (some (.int x20)) := v20
        cases v20
        have g20 : mv w 85 0 = tv + 0 := g20
        have bv : lo ≤ tv := bv
        have oT := m_gIe (x_O0 hcx.2 g2.1 (i := 85) (f := 0) g3.2.1 (g5 _ (List.mem_cons_of_mem _ List.mem_cons_self)) rfl wX_u11) ev
        have oT : mv b'.2.2.2 85 0 = tv + 0 := oT
        have hn := hlo (by omega)
        refine ⟨g2, r, rfl, ?_, ?_⟩
        · unfold mtA
          rw [if_neg hn]
          omega
        · unfold mtT
          rw [if_neg hn]
          omega
    have fin2 : ∀ (b' : rc_C) (ov : Option Value), 0 ≤ z.toInt → z.toInt ≤ 1000 → b'.2.2.1 = ov.toList → rt_atT wX_K κ wX_D ad w wX_F t1 (xt_R2 z.toInt) b' → (∀ (i : Nat) (v : Value), 20 ≤ i → b'.2.1[i]? = some (some v) → (mt_V q' z (mz w 85 0))[i]? = some (some v)) → xtQ κ ad t1 w z ov b'.2.2.2 := by
      intro b' ov z1 z2 h3 hat G
      obtain ⟨τ, ν, lm, -, g2, g3, g4, g5⟩ := hat
      cases ov with
      | none =>
        rw [h3] at g4
        obtain ⟨_, s0, _⟩ := g4 0 (.inl (1, 0, 0)) rfl
        cases s0
      | some r0 =>
        rw [h3] at g4
        obtain ⟨_, s0, r, rfl, gr⟩ := g4 0 (.inl (1, 0, 0)) rfl
        have s0 : some (some r0) = some (some (Value.int r)) := s0
        cases s0
        obtain ⟨_, h20, x20, rfl, g20⟩ := g4 28 (.inl (1, -z.toInt, -z.toInt)) rfl
        obtain ⟨tv, ev, -, bv, -⟩ := m_tg g3.1 (k := 0) rfl
        have gr := m_gIe gr ev
        have g20 := m_gIe g20 ev
        have v20 := G 20 _ (by decide) (show b'.2.1[20]? = some (some (.int x20)) from h20)
        have v20 : some (some (Value.int (mz w 85 0))) = some (some (.int x20)) := v20
        cases v20
        have g20 : mv w 85 0 = tv + -z.toInt := g20
        have bv : tv ≤ 100000 := bv
        have oT := m_gIe (x_O0 hcx.2 g2.1 (i := 85) (f := 0) g3.2.1 (g5 _ (List.mem_cons_of_mem _ List.mem_cons_self)) rfl wX_u11) ev
        have oT : mv b'.2.2.2 85 0 = tv + 0 := oT
        have hy : 0 ≤ z.toInt ∧ z.toInt ≤ 1000 ∧ mv w 85 0 + z.toInt ≤ 100000 := ⟨z1, z2, by omega⟩
        refine ⟨g2, r, rfl, ?_, ?_⟩
        · unfold mtA
          rw [if_pos hy]
          omega
        · unfold mtT
          rw [if_pos hy]
          omega
    show rc_AB p l e s m [Value.ref q', .int z].toArray below meth c 2 D w (MQ below (rc_Q D w s.heap.size (xtQ κ ad t1 w z)) [Value.ref q', .int z].toArray s 0 0 (va_A w s.heap.size)) 12 (0, mt_V q' z (mz w 85 0), [], w)
    rcases (show z.toInt ≤ -1 ∨ 1001 ≤ z.toInt ∨ (0 ≤ z.toInt ∧ z.toInt ≤ 1000) by omega) with hz | hz | ⟨hz1, hz2⟩
    · refine go _ _ _ xt_ka (any1 z).1 hz (fun b' ov h3 ht G => ?_)
      obtain ⟨tg, htg, hat⟩ := ht
      rw [List.mem_singleton.mp htg] at hat
      exact fin1 _ b' ov h3 hat G (fun _ h => by omega)
    · refine go _ _ _ xt_kb hz (any1 z).2 (fun b' ov h3 ht G => ?_)
      obtain ⟨tg, htg, hat⟩ := ht
      rw [List.mem_singleton.mp htg] at hat
      exact fin1 _ b' ov h3 hat G (fun _ h => by omega)
    · have h := rt_allK_ok xt_kc z.toInt.toNat () (by
        rw [List.getElem?_replicate, if_pos (by omega)])
      rw [Nat.zero_add] at h
      have ez : ((z.toInt.toNat : Nat) : Int) = z.toInt := Int.toNat_of_nonneg hz1
      rw [ez] at h
      refine go _ _ _ h (Int.le_refl _) (Int.le_refl _) (fun b' ov h3 ht G => ?_)
      obtain ⟨tg, htg, hat⟩ := ht
      rcases List.mem_cons.mp htg with rfl | htg
      · exact fin1 _ b' ov h3 hat G (fun _ h => by omega)
      · rw [List.mem_singleton.mp htg] at hat
        exact fin2 b' ov hz1 hz2 h3 hat G
end XTL
