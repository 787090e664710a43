/-! later of the reference: exact -/
def mt_lo (x : rt_V) : List (Option rt_V) := [some (.inr (.inl (79, 1))), some x, none, none, none, none, none, none, none, none, none, none, none, none, none, none, none, none, none, none, some (.inl (1, 0, 0))]
def mt_V (q : Nat) (z T : Int32) : List (Option Value) := [some (.ref q), some (.int z), none, none, none, none, none, none, none, none, none, none, none, none, none, none, none, none, none, none, some (.int T)]
def mt_S (lo hi : Int) : rt_S := (0, (35, 0), ([((0, 100000), (0, 0), none, none)], [79], []), mt_lo (.inl (0, lo, hi)), [], [(1, (0, 97), .inl (1, 0, 0))])
def mt_R1 (lo : Int) : rt_Tg := (0, (35, 0), ([((lo, 100000), (0, 0), none, none)], [79], []), [some (.inl (0, -1, -1)), none, none, none, none, none, none, none, some (.inr (.inl (79, 1))), none, none, none, none, none, none, none, none, none, none, none, none, none, none, none, none, none, none, none, some (.inl (1, 0, 0))], [(1, (0, 97), .inl (1, 0, 0))])
def mt_R2 (k : Int) : rt_Tg := (0, (35, 0), ([((k, 100000), (0, 0), none, none)], [79], []), [some (.inl (1, 0, 0)), none, none, none, none, none, none, none, some (.inr (.inl (79, 1))), none, none, none, none, none, none, none, none, none, none, none, none, none, none, none, none, none, none, none, some (.inl (1, (-k), (-k)))], [(1, (0, 97), .inl (1, 0, 0))])
noncomputable def mt_chk (KK : List (List rt_K)) (MX : rt_X) (SW : rt_W) (SP : rt_SP) (n d : Nat) : Bool := cond (rt_run KK MX [] SP n d 239 [] false rt_kf (rt_tgi SW [mt_R1 0]) (mt_S mcB (-1))) (cond (rt_run KK MX [] SP n d 239 [] false rt_kf (rt_tgi SW [mt_R1 0]) (mt_S 1001 mcT)) (rt_allK (fun k (_ : Unit) => rt_run KK MX [] SP n d 239 [] false rt_kf (rt_tgi SW [mt_R1 (100001 - (k : Int)), mt_R2 k]) (mt_S k k)) (List.replicate 1001 ()) 0) false) false
/-- the answer and the time behind it -/
def mtA (T z : Int) : Int := if 0 ≤ z ∧ z ≤ 1000 ∧ T + z ≤ 100000 then T + z else -1
def mtT (T z : Int) : Int := if 0 ≤ z ∧ z ≤ 1000 ∧ T + z ≤ 100000 then T + z else T
def mtZ (vs : List Value) : Int32 := match (vs[1]? : Option Value) with
  | some (Value.int a) => a
  | _ => 0
section MTL
variable {l : Launch} {D : va_G} {KK : List (List rt_K)} {κ : Nat → ClassId} {ad : List Nat} {MX : rt_X} {SW : rt_W} {SP : rt_SP} {b d n : Nat}
def mtQ (KK : List (List rt_K)) (κ : Nat → ClassId) (ad : List Nat) (b : Nat) (t1 : Int) (w : va_W) (z : Int32) (ov : Option Value) (w' : va_W) : Prop := rt_hp KK κ mK ad w (mF b) t1 35 0 w' ∧ ∃ r : Int32, ov = some (.int r) ∧ r.toInt = mtA (mv w 0 97) z.toInt ∧ mv w' 0 97 = mtT (mv w 0 97) z.toInt
theorem mt_gL {τ : List Int} {ν : List Nat} {lm : List Int64} {q : Nat} {z T : Int32} {lo hi : Int} (hq : ad[0]? = some q) (hν : ν[0]? = some q) (h0 : τ[0]? = some T.toInt) (hz : lo ≤ z.toInt ∧ z.toInt ≤ hi) : rt_gL τ ν lm mK ad (mt_lo (.inl (0, lo, hi))) (mt_V q z T) := by
  intro j x hx
  match j, hx with
  | 0, hx => cases hx; exact ⟨_, rfl, q, rfl, ⟨0, hq, rfl⟩, Or.inr ⟨0, rfl, hν⟩⟩
  | 1, hx => cases hx; exact ⟨_, rfl, z, rfl, rt_gI_0.mpr hz⟩
  | 2, hx => cases hx
  | 3, hx => cases hx
  | 4, hx => cases hx
  | 5, hx => cases hx
  | 6, hx => cases hx
  | 7, hx => cases hx
  | 8, hx => cases hx
  | 9, hx => cases hx
  | 10, hx => cases hx
  | 11, hx => cases hx
  | 12, hx => cases hx
  | 13, hx => cases hx
  | 14, hx => cases hx
  | 15, hx => cases hx
  | 16, hx => cases hx
  | 17, hx => cases hx
  | 18, hx => cases hx
  | 19, hx => cases hx
  | 20, hx => cases hx; exact ⟨_, rfl, T, rfl, m_gI h0⟩
  | j + 21, hx => cases hx
set_option maxHeartbeats 1000000 in
theorem m_later (hcx : rt_ctx KK mK ad (mF b)) (hMC : rt_MCok l D κ SP.2) (hMX : rt_MXok KK κ mK ad (mF b) MX) (hSW : rt_SWok KK κ mK ad (mF b) SW) (hk : mt_chk KK MX SW SP n d = true) (hty : mTy KK 35 0 97 = some (0, 100000)) (hd : 1 ≤ d) (t1 : Int) : rc_Met l κ D d 239 (fun vs w => rt_hp KK κ mK ad w (mF b) t1 35 0 w ∧ ∃ (q : Nat) (z : Int32), ad[0]? = some q ∧ vs = [.ref q, .int z]) (fun vs w ov w' => mtQ KK κ ad b t1 w (mtZ vs) ov w') := by
  have em : mT[239]? = some (yX12_later, cX12_later, 2, some .int) := rfl
  have any1 : ∀ x : Int32, mcB ≤ x.toInt ∧ x.toInt ≤ mcT := fun x => ⟨Int32.le_toInt x, by
    have := Int32.toInt_lt x
    show x.toInt ≤ 2147483647
    omega⟩
  obtain ⟨k1, hk⟩ := rt_cnd hk
  obtain ⟨k2, k3⟩ := rt_cnd hk
  refine rc_body (fun vs w => rc_pad 20 (rc_en vs) ++ [some (.int (mz w 0 97))]) ?_ ?_ ?_
  · rintro vs w ⟨-, q, z, -, rfl⟩ i v hi hv
    rw [List.getElem?_append_left (by rw [rc_pad_len (by show 2 ≤ 20; decide)]; exact hi)] at hv
    exact rc_pad_at hv
  · rintro y cc nL ret hm vs w ⟨-, q, z, -, rfl⟩
    rw [em] at hm
    cases hm
    show 2 ≤ 2
    decide
  · rintro y cc nL ret hm w vs ⟨hh, q, z, hq, rfl⟩ p e s m below meth c B
    rw [em] at hm
    cases hm
    obtain ⟨q', eM, i1, i2, i3, i4⟩ := m_int hh.2.1 hty
    have hq' : q' = q := by
      have := ri_ad_at i1
      rw [hh.1, hq] at this
      exact (Option.some.inj this).symm
    subst hq'
    have hrun := rt_run_ok (SP := SP) (CS := []) hcx hMC hMX (fun _ h => by cases h) n
    have i3 : 0 ≤ mv w 0 97 := i3
    have i4 : mv w 0 97 ≤ 100000 := i4
    have go : ∀ (lo hi : Int) (tg : List rt_Tg), rt_run KK MX [] SP n d 239 [] false rt_kf (rt_tgi SW tg) (mt_S lo hi) = true → lo ≤ z.toInt → z.toInt ≤ hi → (∀ (b' : rc_C) (ov : Option Value), b'.2.2.1 = ov.toList → (∃ t ∈ tg, rt_atT KK κ mK ad w (mF b) t1 t b') → (∀ (i : Nat) (v : Value), 20 ≤ i → b'.2.1[i]? = some (some v) → (mt_V q' z (mz w 0 97))[i]? = some (some v)) → mtQ KK κ ad b t1 w z ov b'.2.2.2) → rc_AB p l e s m [Value.ref q', .int z].toArray below meth c 2 D w (MQ below (rc_Q D w s.heap.size (mtQ KK κ ad b t1 w z)) [Value.ref q', .int z].toArray s 0 0 (va_A w s.heap.size)) d (0, mt_V q' z (mz w 0 97), [], w) := by
      intro lo hi tg hr b1 b2 kk
      refine hrun d 239 [] false _ _ _ hr hd _ _ 2 _ em (by decide) p e s m _ below meth c w B _ hh.1 w t1 _ ⟨[mv w 0 97], [q'], [], rfl, hh, ⟨m_okE rfl ?_, ⟨rfl, ?_⟩, ⟨rfl, fun j c h1 => by cases h1⟩⟩, mt_gL hq rfl rfl ⟨b1, b2⟩, trivial, ?_⟩ (fun S' b' h1 => by cases h1) (fun v S' b' ov h1 _ h3 h4 h5 => ?_)
      · intro j e b h1 h2
        match j, h1, h2 with
        | 0, h1, h2 => cases h1; cases h2; exact m_okB i3 i4 (Or.inl rfl)
        | j + 1, h1, h2 => cases h1
      · intro j k h1
        match j, h1 with
        | 0, h1 => cases h1; exact ⟨_, rfl, 0, hq, rfl⟩
        | j + 1, h1 => cases h1
      · intro o ho
        rw [List.mem_singleton.mp ho]
        exact m_mkO hh.1 (j := 0) (i := 0) (f := 97) rfl i1 i2 (m_gI (k := 0) rfl)
      · cases v with
        | none => cases h1
        | some x => exact kk b' ov h3 (rt_tgt_ok hSW (show rt_tgt SW tg S' = true from h1) h4) h5
    have fin1 : ∀ (lo : Int) (b' : rc_C) (ov : Option Value), b'.2.2.1 = ov.toList → rt_atT KK κ mK ad w (mF b) t1 (mt_R1 lo) b' → (∀ (i : Nat) (v : Value), 20 ≤ i → b'.2.1[i]? = some (some v) → (mt_V q' z (mz w 0 97))[i]? = some (some v)) → (lo ≤ mv w 0 97 → ¬ (0 ≤ z.toInt ∧ z.toInt ≤ 1000 ∧ mv w 0 97 + z.toInt ≤ 100000)) → mtQ KK κ ad b t1 w z ov b'.2.2.2 := by
      intro lo b' ov h3 hat G hlo
      obtain ⟨τ, ν, lm, -, g2, g3, g4, g5⟩ := hat
      cases ov with
      | none =>
        rw [h3] at g4
        obtain ⟨_, s0, _⟩ := g4 0 (.inl (0, -1, -1)) rfl
        cases s0
      | some r0 =>
        rw [h3] at g4
        obtain ⟨_, s0, r, rfl, gr⟩ := g4 0 (.inl (0, -1, -1)) rfl
        have s0 : some (some r0) = some (some (Value.int r)) := s0
        cases s0
        have gr := rt_gI_0.mp gr
        obtain ⟨_, h20, x20, rfl, g20⟩ := g4 28 (.inl (1, 0, 0)) rfl
        obtain ⟨tv, ev, bv, -, -⟩ := m_tg g3.1 (k := 0) rfl
        have g20 := m_gIe g20 ev
        have v20 := G 20 _ (by decide) (show b'.2.1[20]? = some (some (.int x20)) from h20)
        have v20 : some (some (Value.int (mz w 0 97))) = some (some (.int x20)) := v20
        cases v20
        have g20 : mv w 0 97 = tv + 0 := g20
        have bv : lo ≤ tv := bv
        have oT := m_gIe (m_O0 hcx.2 g2.1 (i := 0) (f := 97) g3.2.1 (g5 _ List.mem_cons_self) rfl rfl) ev
        have oT : mv b'.2.2.2 0 97 = tv + 0 := oT
        have hn := hlo (by omega)
        refine ⟨g2, r, rfl, ?_, ?_⟩
        · unfold mtA
          rw [if_neg hn]
          omega
        · unfold mtT
          rw [if_neg hn]
          omega
    have fin2 : ∀ (b' : rc_C) (ov : Option Value), 0 ≤ z.toInt → z.toInt ≤ 1000 → b'.2.2.1 = ov.toList → rt_atT KK κ mK ad w (mF b) t1 (mt_R2 z.toInt) b' → (∀ (i : Nat) (v : Value), 20 ≤ i → b'.2.1[i]? = some (some v) → (mt_V q' z (mz w 0 97))[i]? = some (some v)) → mtQ KK κ ad b t1 w z ov b'.2.2.2 := by
      intro b' ov z1 z2 h3 hat G
      obtain ⟨τ, ν, lm, -, g2, g3, g4, g5⟩ := hat
      cases ov with
      | none =>
        rw [h3] at g4
        obtain ⟨_, s0, _⟩ := g4 0 (.inl (1, 0, 0)) rfl
        cases s0
      | some r0 =>
        rw [h3] at g4
        obtain ⟨_, s0, r, rfl, gr⟩ := g4 0 (.inl (1, 0, 0)) rfl
        have s0 : some (some r0) = some (some (Value.int r)) := s0
        cases s0
        obtain ⟨_, h20, x20, rfl, g20⟩ := g4 28 (.inl (1, -z.toInt, -z.toInt)) rfl
        obtain ⟨tv, ev, -, bv, -⟩ := m_tg g3.1 (k := 0) rfl
        have gr := m_gIe gr ev
        have g20 := m_gIe g20 ev
        have v20 := G 20 _ (by decide) (show b'.2.1[20]? = some (some (.int x20)) from h20)
        have v20 : some (some (Value.int (mz w 0 97))) = some (some (.int x20)) := v20
        cases v20
        have g20 : mv w 0 97 = tv + -z.toInt := g20
        have bv : tv ≤ 100000 := bv
        have oT := m_gIe (m_O0 hcx.2 g2.1 (i := 0) (f := 97) g3.2.1 (g5 _ List.mem_cons_self) rfl rfl) ev
        have oT : mv b'.2.2.2 0 97 = tv + 0 := oT
        have hy : 0 ≤ z.toInt ∧ z.toInt ≤ 1000 ∧ mv w 0 97 + z.toInt ≤ 100000 := ⟨z1, z2, by omega⟩
        refine ⟨g2, r, rfl, ?_, ?_⟩
        · unfold mtA
          rw [if_pos hy]
          omega
        · unfold mtT
          rw [if_pos hy]
          omega
    show rc_AB p l e s m [Value.ref q', .int z].toArray below meth c 2 D w (MQ below (rc_Q D w s.heap.size (mtQ KK κ ad b t1 w z)) [Value.ref q', .int z].toArray s 0 0 (va_A w s.heap.size)) d (0, mt_V q' z (mz w 0 97), [], w)
    rcases (show z.toInt ≤ -1 ∨ 1001 ≤ z.toInt ∨ (0 ≤ z.toInt ∧ z.toInt ≤ 1000) by omega) with hz | hz | ⟨hz1, hz2⟩
    · refine go _ _ _ k1 (any1 z).1 hz (fun b' ov h3 ht G => ?_)
      obtain ⟨tg, htg, hat⟩ := ht
      rw [List.mem_singleton.mp htg] at hat
      exact fin1 _ b' ov h3 hat G (fun _ h => by omega)
    · refine go _ _ _ k2 hz (any1 z).2 (fun b' ov h3 ht G => ?_)
      obtain ⟨tg, htg, hat⟩ := ht
      rw [List.mem_singleton.mp htg] at hat
      exact fin1 _ b' ov h3 hat G (fun _ h => by omega)
    · have h := rt_allK_ok k3 z.toInt.toNat () (by
        rw [List.getElem?_replicate, if_pos (by omega)])
      rw [Nat.zero_add] at h
      have ez : ((z.toInt.toNat : Nat) : Int) = z.toInt := Int.toNat_of_nonneg hz1
      rw [ez] at h
      refine go _ _ _ h (Int.le_refl _) (Int.le_refl _) (fun b' ov h3 ht G => ?_)
      obtain ⟨tg, htg, hat⟩ := ht
      rcases List.mem_cons.mp htg with rfl | htg
      · exact fin1 _ b' ov h3 hat G (fun _ h => by omega)
      · rw [List.mem_singleton.mp htg] at hat
        exact fin2 b' ov hz1 hz2 h3 hat G
end MTL
