/-! A method by its cuts: what is checked -/
abbrev rt_W : Type := List (List (Nat × List (Nat × Nat × rt_T)))
noncomputable def rt_sw (SW : rt_W) (g g' : Nat) : Option (List (Nat × Nat × rt_T)) := cond (Nat.beq g g') (some []) (match ri_nth SW g with
  | none => none
  | some l => List.rec (motive := fun _ => Option (List (Nat × Nat × rt_T))) none (fun q _ ih => cond (Nat.beq q.1 g') (some q.2) ih) l)
/-- a cut: place; mode, steps; names, locals (ghosts too), overlay; measure -/
abbrev rt_Cu : Type := Nat × (Nat × Nat) × rt_Tm × List ri_I
/-- a contract; how many of its names are ghosts; the measure's signs; cuts -/
abbrev rt_It : Type := rt_Co × Nat × List Bool × List rt_Cu
noncomputable def rt_msG (ms : List ri_I) : Nat → List (Option rt_V) → List (Option rt_V) := List.rec (motive := fun _ => Nat → List (Option rt_V) → List (Option rt_V)) (fun _ lo => lo) (fun x _ ih k lo => ih (Nat.succ k) (ri_set (some (.inl x)) lo k)) ms
noncomputable def rt_start (q : rt_Cu) : rt_S := (q.1, q.2.1, q.2.2.1.1, rt_msG q.2.2.2 20 q.2.2.1.2.1, [], q.2.2.1.2.2)
noncomputable def rt_min1 (mE : List ri_I) (x : ri_I) : Option ri_I := match x.1 with
  | 0 => some x
  | Nat.succ k => ri_nth mE k
noncomputable def rt_dec (E : List rt_B) (sg : Bool) (x y : ri_I) (d : Int) : Bool := cond sg (rt_ge0 (rt_low E x y) d) (rt_ge0 (rt_low E y x) d)
noncomputable def rt_lex (E : List rt_B) (mE : List ri_I) (sgs : List Bool) : List (Option rt_V) → List ri_I → Bool := List.rec (motive := fun _ => List (Option rt_V) → List ri_I → Bool) (fun _ _ => false) (fun sg _ ih gs ms => match gs with
  | some (.inl x) :: gr => (match ms with
    | w :: mr => (match rt_min1 mE w with
      | some y => cond (rt_dec E sg x y 1) true (cond (rt_dec E sg x y 0) (ih gr mr) false)
      | none => false)
    | [] => false)
  | _ => false) sgs
noncomputable def rt_mok (n : Nat) (x : ri_I) : Bool := match x.1 with
  | 0 => cond (ri_le x.2.2 x.2.1) (cond (ri_le x.2.1 x.2.2) (cond (ri_le ri_lo x.2.1) (ri_le x.2.1 ri_hi) false) false) false
  | Nat.succ k => cond (Nat.blt k n) (cond (ri_le 0 x.2.1) (cond (ri_le x.2.1 0) (cond (ri_le 0 x.2.2) (ri_le x.2.2 0) false) false) false) false
noncomputable def rt_moks (n : Nat) (ms : List ri_I) : Bool := List.rec (motive := fun _ => Bool) true (fun x _ ih => cond (rt_mok n x) ih false) ms
noncomputable def rt_arr1 (SW : rt_W) (sgs : List Bool) (fm : Bool) (S : rt_S) (q : rt_Cu) : Bool := cond (Nat.beq q.1 S.1) (match rt_st S with
  | [] => (match rt_sw SW S.2.1.1 q.2.1.1 with
    | none => false
    | some r => cond (rt_so (rt_E S) (rt_R S) (rt_ov S) r) (cond (Nat.ble q.2.1.2 S.2.1.2) (match rt_mt (rt_E S) (rt_ov S) (rt_lo S) q.2.2.1.1 q.2.2.1.2.1 q.2.2.1.2.2 with
      | none => false
      | some mm => cond fm (rt_lex (rt_E S) mm.1 sgs (rt_drop 20 (rt_lo S)) q.2.2.2) true) false) false)
  | _ => false) false
noncomputable def rt_arr (SW : rt_W) (sgs : List Bool) (fm : Bool) (cuts : List rt_Cu) (S : rt_S) : Bool := List.rec (motive := fun _ => Bool) false (fun q _ ih => cond (rt_arr1 SW sgs fm S q) true ih) cuts
noncomputable def rt_ansT (E : List rt_B) (v : Option rt_V) (T : Option rt_T) : Bool := match v with
  | none => (match T with
    | none => true
    | some _ => false)
  | some x => (match T with
    | none => false
    | some T => rt_is E x T)
noncomputable def rt_slot1 (L : Nat) (S : rt_S) (x : Nat × Nat × rt_T) : Bool := match ri_nth (rt_lo S) (Nat.add (Nat.add 20 L) x.1) with
  | some (some (.inr (.inl q))) => (match rt_og (rt_ov S) q.2 (0, .ofNat x.2.1) with
    | some w => rt_is (rt_E S) w x.2.2
    | none => false)
  | _ => false
noncomputable def rt_slots (L : Nat) (S : rt_S) (xs : List (Nat × Nat × rt_T)) : Bool := List.rec (motive := fun _ => Bool) true (fun x _ ih => cond (rt_slot1 L S x) ih false) xs
noncomputable def rt_rp1 (SW : rt_W) (L : Nat) (v : Option rt_V) (S : rt_S) (P : rt_Po) : Bool := match rt_sw SW S.2.1.1 P.1.1 with
  | none => false
  | some r => cond (rt_so (rt_E S) (rt_R S) (rt_ov S) r) (cond (Nat.ble P.1.2 S.2.1.2) (cond (rt_ansT (rt_E S) v P.2.1) (rt_slots L S P.2.2) false) false) false
noncomputable def rt_ret (SW : rt_W) (L : Nat) (Ps : List rt_Po) (v : Option rt_V) (S : rt_S) : Bool := List.rec (motive := fun _ => Bool) false (fun P _ ih => cond (rt_rp1 SW L v S P) true ih) Ps
noncomputable def rt_non (n : Nat) : List (Option rt_V) := Nat.rec (motive := fun _ => List (Option rt_V)) [] (fun _ ih => none :: ih) n
/-- names as ghosts -/
noncomputable def rt_ghN (R : List Nat) : Nat → Nat → List (Option rt_V) := List.rec (motive := fun _ => Nat → Nat → List (Option rt_V)) (fun _ _ => []) (fun k _ ih j n => match n with
  | 0 => []
  | Nat.succ n => some (.inr (.inl (k, Nat.succ j))) :: ih (Nat.succ j) n) R
noncomputable def rt_ent (it : rt_It) : rt_S := (0, (it.1.2.1, 0), it.1.2.2.1.1, List.append (rt_pad 20 it.1.2.2.1.2.1) (List.append (rt_non (ri_len it.2.2.1)) (rt_ghN it.1.2.2.1.1.2.1 0 it.2.1)), [], it.1.2.2.1.2.2)
noncomputable def rt_pcs (cuts : List rt_Cu) : List Nat := List.rec (motive := fun _ => List Nat) [] (fun q _ ih => q.1 :: ih) cuts
noncomputable def rt_cuts (sgs : List Bool) (f : rt_S → Bool) (cuts : List rt_Cu) : Bool := List.rec (motive := fun _ => Bool) true (fun q _ ih => cond (rt_moks (ri_len q.2.2.1.1.1) q.2.2.2) (cond (Nat.beq (ri_len q.2.2.2) (ri_len sgs)) (cond (f (rt_start q)) ih false) false) false) cuts
noncomputable def rt_chk (KK : List (List rt_K)) (MX : rt_X) (SW : rt_W) (CS : List rt_Co) (SP : rt_SP) (n : Nat) (it : rt_It) : Bool := match ri_nth mt it.1.1.1 with
  | none => false
  | some w => cond (Nat.ble w.2 20) (cond (Nat.ble 1 it.1.1.2) (cond (Nat.ble (ri_len it.1.2.2.1.2.1) w.2) (cond (rt_run KK MX CS SP n it.1.1.2 it.1.1.1 (rt_pcs it.2.2.2) false (rt_arr SW it.2.2.1 false it.2.2.2) (rt_ret SW (ri_len it.2.2.1) it.1.2.2.2) (rt_ent it)) (rt_cuts it.2.2.1 (rt_run KK MX CS SP n it.1.1.2 it.1.1.1 (rt_pcs it.2.2.2) true (rt_arr SW it.2.2.1 true it.2.2.2) (rt_ret SW (ri_len it.2.2.1) it.1.2.2.2)) it.2.2.2) false) false) false) false
section RT63
variable {KK : List (List rt_K)} {κ : Nat → ClassId} {K ad : List Nat} {Φ : Nat → Int → va_W → Prop} {SW : rt_W} {τ τ' : List Int} {ν ν' : List Nat} {lm lm' : List Int64} {ws0 : va_W} {t0 : Int}
def rt_SWok (KK : List (List rt_K)) (κ : Nat → ClassId) (K ad : List Nat) (Φ : Nat → Int → va_W → Prop) (SW : rt_W) : Prop := ∀ (g g' : Nat) (r : List (Nat × Nat × rt_T)), rt_sw SW g g' = some r → ∀ (ws0 : va_W) (t0 : Int) (s s' : Nat) (ws : va_W) (n : rt_N) (τ : List Int) (ν : List Nat) (lm : List Int64) (ov : List rt_O), s' ≤ s → rt_okN K ad n τ ν lm → (∀ o ∈ ov, rt_gO τ ν lm K ad ws o) → rt_so n.1 n.2.1 ov r = true → rt_hp KK κ K ad ws0 Φ t0 g s ws → rt_hp KK κ K ad ws0 Φ t0 g' s' ws
/-- the measure as a number -/
def rt_enc : List Bool → List Int32 → Nat
  | [], _ => 0
  | _ :: _, [] => 0
  | sg :: t, z :: zt => (if sg then z.toInt + 2147483648 else 2147483647 - z.toInt).toNat * 4294967296 ^ t.length + rt_enc t zt
theorem rt_enc_lt : ∀ (sgs : List Bool) (zs : List Int32), rt_enc sgs zs < 4294967296 ^ sgs.length
  | [], _ => by
    show 0 < 4294967296 ^ 0
    decide
  | _ :: t, [] => Nat.pow_pos (by decide)
  | sg :: t, z :: zt => by
    have h := rt_enc_lt t zt
    have h1 := Int32.le_toInt z
    have h2 := Int32.toInt_lt z
    have hc : (if sg then z.toInt + 2147483648 else 2147483647 - z.toInt).toNat + 1 ≤ 4294967296 := by
      split
      · omega
      · omega
    show (if sg then z.toInt + 2147483648 else 2147483647 - z.toInt).toNat * 4294967296 ^ t.length + rt_enc t zt < 4294967296 ^ (t.length + 1)
    have h3 := Nat.mul_le_mul_right (4294967296 ^ t.length) hc
    rw [Nat.add_mul, Nat.one_mul] at h3
    rw [Nat.pow_succ, Nat.mul_comm (4294967296 ^ t.length) 4294967296]
    omega
theorem rt_lex_ok {E : List rt_B} (hE : rt_okE E τ lm) {mE : List ri_I} : ∀ {sgs : List Bool} {gs : List (Option rt_V)} {ms : List ri_I} {zs0 zs1 : List Int32}, rt_lex E mE sgs gs ms = true → (∀ (j : Nat) (x : ri_I), j < sgs.length → gs[j]? = some (some (.inl x)) → ∃ z, zs0[j]? = some z ∧ rt_gI τ x z) → (∀ (j : Nat) (w : ri_I), ms[j]? = some w → ∃ z, zs1[j]? = some z ∧ ∀ y, rt_min1 mE w = some y → rt_gI τ y z) → rt_enc sgs zs1 < rt_enc sgs zs0 := by
  intro sgs
  induction sgs with
  | nil => intro gs ms zs0 zs1 h; cases h
  | cons sg sgs ih =>
    intro gs ms zs0 zs1 h h0 h1
    rcases gs with _ | ⟨_ | x | x, gr⟩
    · cases h
    · cases h
    · rcases ms with _ | ⟨w, mr⟩
      · cases h
      · have h : (match (generalizing := false) rt_min1 mE w with
          | some y => cond (rt_dec E sg x y 1) true (cond (rt_dec E sg x y 0) (rt_lex E mE sgs gr mr) false)
          | none => false) = true := h
        cases hy : rt_min1 mE w with
        | none => rw [hy] at h; cases h
        | some y =>
          rw [hy] at h
          have h : cond (rt_dec E sg x y 1) true (cond (rt_dec E sg x y 0) (rt_lex E mE sgs gr mr) false) = true := h
          obtain ⟨z0, e0, g0⟩ := h0 0 x (Nat.succ_pos _) rfl
          obtain ⟨z1, e1, g1⟩ := h1 0 w rfl
          have g1 := g1 y hy
          rcases zs0 with _ | ⟨z0', zt0⟩
          · cases e0
          · cases e0
            rcases zs1 with _ | ⟨z1', zt1⟩
            · cases e1
            · cases e1
              have a0 := Int32.le_toInt z0
              have a1 := Int32.toInt_lt z0
              have b0 := Int32.le_toInt z1
              have b1 := Int32.toInt_lt z1
              have hd : ∀ d : Int, rt_dec E sg x y d = true → ((if sg then z1.toInt + 2147483648 else 2147483647 - z1.toInt).toNat : Int) + d ≤ ((if sg then z0.toInt + 2147483648 else 2147483647 - z0.toInt).toNat : Int) := fun d hd => by
                unfold rt_dec at hd
                cases sg with
                | true =>
                  have := rt_ge0_ok hE (show rt_ge0 (rt_low E x y) d = true from hd) g0 g1
                  simp
                  omega
                | false =>
                  have := rt_ge0_ok hE (show rt_ge0 (rt_low E y x) d = true from hd) g1 g0
                  simp
                  omega
              show (if sg then z1.toInt + 2147483648 else 2147483647 - z1.toInt).toNat * 4294967296 ^ sgs.length + rt_enc sgs zt1 < (if sg then z0.toInt + 2147483648 else 2147483647 - z0.toInt).toNat * 4294967296 ^ sgs.length + rt_enc sgs zt0
              generalize (if sg then z1.toInt + 2147483648 else 2147483647 - z1.toInt).toNat = c1 at hd
              generalize (if sg then z0.toInt + 2147483648 else 2147483647 - z0.toInt).toNat = c0 at hd
              have hb := rt_enc_lt sgs zt1
              cases hd1 : rt_dec E sg x y 1 with
              | true =>
                have h3 : c1 + 1 ≤ c0 := by
                  have := hd 1 hd1
                  omega
                have h3 := Nat.mul_le_mul_right (4294967296 ^ sgs.length) h3
                rw [Nat.add_mul, Nat.one_mul] at h3
                omega
              | false =>
                rw [hd1] at h
                obtain ⟨hd0, h2⟩ := rt_cnd h
                have h3 : c1 ≤ c0 := by
                  have := hd 0 hd0
                  omega
                have h3 := Nat.mul_le_mul_right (4294967296 ^ sgs.length) h3
                have h4 := ih h2 (zs0 := zt0) (zs1 := zt1) (fun j x hj hx => h0 (j + 1) x (Nat.succ_lt_succ hj) hx) (fun j w hw => h1 (j + 1) w hw)
                omega
    · cases h
/-- what the measure's ints are -/
theorem rt_mok_ok {TN : rt_N} {mm : rt_M} (hN : rt_okN K ad TN τ' ν' lm') (hm : rt_mg K ad τ ν lm TN mm τ' ν' lm') {x : ri_I} (h : rt_mok (ri_len TN.1) x = true) : ∃ z : Int32, rt_gI τ' x z ∧ ∀ y, rt_min1 mm.1 x = some y → rt_gI τ y z := by
  obtain ⟨k, a, b⟩ := x
  cases k with
  | zero =>
    have h : cond (ri_le b a) (cond (ri_le a b) (cond (ri_le ri_lo a) (ri_le a ri_hi) false) false) false = true := h
    obtain ⟨c1, h2⟩ := rt_cnd h
    obtain ⟨c2, h3⟩ := rt_cnd h2
    obtain ⟨c3, c4⟩ := rt_cnd h3
    have c1 := ri_le_iff.mp c1
    have c2 := ri_le_iff.mp c2
    have c3 : (-2147483648 : Int) ≤ a := ri_le_iff.mp c3
    have c4 : a ≤ (2147483647 : Int) := ri_le_iff.mp c4
    have ez : (Int32.ofInt a).toInt = a := Int32.toInt_ofInt_of_le c3 (by
      show a < 2147483648
      omega)
    have g : ∀ τ, rt_gI τ (0, a, b) (Int32.ofInt a) := fun τ => rt_gI_0.mpr ⟨by omega, by omega⟩
    exact ⟨Int32.ofInt a, g _, fun y hy => by cases hy; exact g _⟩
  | succ k =>
    have h : cond (Nat.blt k (ri_len TN.1)) (cond (ri_le 0 a) (cond (ri_le a 0) (cond (ri_le 0 b) (ri_le b 0) false) false) false) false = true := h
    obtain ⟨c1, h2⟩ := rt_cnd h
    obtain ⟨c2, h3⟩ := rt_cnd h2
    obtain ⟨c3, h4⟩ := rt_cnd h3
    obtain ⟨c4, c5⟩ := rt_cnd h4
    have c1 := rt_blt.mp c1
    rw [ri_len_eq] at c1
    have c2 := ri_le_iff.mp c2
    have c3 := ri_le_iff.mp c3
    have c4 := ri_le_iff.mp c4
    have c5 := ri_le_iff.mp c5
    have e1 : τ'.length = TN.1.length := hN.1.1
    have e2 : τ'.length = mm.1.length := hm.1.1
    have hk : k < mm.1.length := by omega
    obtain ⟨z, ez, gz⟩ := hm.1.2.1 k mm.1[k] (List.getElem?_eq_getElem hk)
    refine ⟨z, ⟨z.toInt, ez, by show z.toInt + a ≤ z.toInt; omega, by show z.toInt ≤ z.toInt + b; omega⟩, fun y hy => ?_⟩
    have hy : ri_nth mm.1 k = some y := hy
    rw [ri_nth_eq, List.getElem?_eq_getElem hk] at hy
    cases hy
    exact gz
theorem rt_moks_ok {TN : rt_N} {mm : rt_M} (hN : rt_okN K ad TN τ' ν' lm') (hm : rt_mg K ad τ ν lm TN mm τ' ν' lm') : ∀ {ms : List ri_I}, rt_moks (ri_len TN.1) ms = true → ∃ zs : List Int32, zs.length = ms.length ∧ ∀ (j : Nat) (x : ri_I), ms[j]? = some x → ∃ z, zs[j]? = some z ∧ rt_gI τ' x z ∧ ∀ y, rt_min1 mm.1 x = some y → rt_gI τ y z
  | [], _ => ⟨[], rfl, fun j x hx => by cases hx⟩
  | x :: ms, h => by
    have h : cond (rt_mok (ri_len TN.1) x) (rt_moks (ri_len TN.1) ms) false = true := h
    obtain ⟨c1, h2⟩ := rt_cnd h
    obtain ⟨z, g1, g2⟩ := rt_mok_ok hN hm c1
    obtain ⟨zs, e1, e2⟩ := rt_moks_ok hN hm h2
    refine ⟨z :: zs, by simp [e1], fun j x' hx => ?_⟩
    cases j with
    | zero =>
      cases hx
      exact ⟨z, rfl, g1, g2⟩
    | succ j => exact e2 j x' hx
/-- ghosts set -/
def rc_msV : List Int32 → Nat → List (Option Value) → List (Option Value)
  | [], _, V => V
  | z :: zs, k, V => rc_msV zs (k + 1) (V.set k (some (.int z)))
theorem rc_msV_out : ∀ (zs : List Int32) (k : Nat) (V : List (Option Value)) (i : Nat), i < k ∨ k + zs.length ≤ i → (rc_msV zs k V)[i]? = V[i]?
  | [], _, _, _, _ => rfl
  | z :: zs, k, V, i, h => by
    show (rc_msV zs (k + 1) (V.set k (some (.int z))))[i]? = V[i]?
    have h : i < k ∨ k + (zs.length + 1) ≤ i := h
    rw [rc_msV_out zs (k + 1) _ i (by omega), List.getElem?_set_ne (by omega)]
theorem rc_msV_in : ∀ (zs : List Int32) (k : Nat) (V : List (Option Value)) (j : Nat) (z : Int32), k + zs.length ≤ V.length → zs[j]? = some z → (rc_msV zs k V)[k + j]? = some (some (.int z))
  | [], _, _, j, z, _, h => by cases h
  | z0 :: zs, k, V, j, z, hl, h => by
    show (rc_msV zs (k + 1) (V.set k (some (.int z0))))[k + j]? = _
    have hl : k + (zs.length + 1) ≤ V.length := hl
    cases j with
    | zero =>
      cases h
      rw [rc_msV_out zs (k + 1) _ _ (by omega)]
      exact List.getElem?_set_self (by omega)
    | succ j =>
      rw [show k + (j + 1) = k + 1 + j by omega]
      exact rc_msV_in zs (k + 1) _ j z (by simp; omega) h
theorem rt_gL_set {A : List (Option rt_V)} {V : List (Option Value)} (h : rt_gL τ ν lm K ad A V) {k : Nat} {x : rt_V} {v : Value} (hk : k < V.length) (hx : rt_gV τ ν lm K ad x v) : rt_gL τ ν lm K ad (A.set k (some x)) (V.set k (some v)) := fun i w hw => by
  by_cases hik : k = i
  · subst hik
    rcases Nat.lt_or_ge k A.length with g | g
    · rw [List.getElem?_set_self g] at hw
      cases hw
      exact ⟨v, List.getElem?_set_self hk, hx⟩
    · rw [List.getElem?_eq_none (by simpa using g)] at hw
      cases hw
  · rw [List.getElem?_set_ne hik] at hw
    obtain ⟨u, e, g⟩ := h i w hw
    exact ⟨u, by rw [List.getElem?_set_ne hik]; exact e, g⟩
theorem rt_msG_ok : ∀ {ms : List ri_I} {zs : List Int32} {k : Nat} {A : List (Option rt_V)} {V : List (Option Value)}, zs.length = ms.length → k + zs.length ≤ V.length → rt_gL τ ν lm K ad A V → (∀ (j : Nat) (x : ri_I), ms[j]? = some x → ∃ z, zs[j]? = some z ∧ rt_gI τ x z) → rt_gL τ ν lm K ad (rt_msG ms k A) (rc_msV zs k V)
  | [], [], _, _, _, _, _, h, _ => h
  | x :: ms, z :: zs, k, A, V, hl, hV, h, hx => by
    have hV : k + (zs.length + 1) ≤ V.length := hV
    show rt_gL τ ν lm K ad (rt_msG ms (k + 1) (ri_set (some (.inl x)) A k)) (rc_msV zs (k + 1) (V.set k (some (.int z))))
    rw [ri_set_eq]
    obtain ⟨z', e, g⟩ := hx 0 x rfl
    cases e
    exact rt_msG_ok (by simpa using hl) (by simp; omega) (rt_gL_set h (by omega) ⟨z, rfl, g⟩) (fun j x hj => hx (j + 1) x hj)
  | [], _ :: _, _, _, _, hl, _, _, _ => by cases hl
  | _ :: _, [], _, _, _, hl, _, _, _ => by cases hl
theorem rc_pad_mono {n i : Nat} {V : List (Option Value)} {v : Value} (h : V[i]? = some (some v)) : (rc_pad n V)[i]? = some (some v) := by
  unfold rc_pad
  rw [List.getElem?_append_left (List.getElem?_eq_some_iff.mp h).1]
  exact h
theorem rc_pad_ge (n : Nat) (V : List (Option Value)) : n ≤ (rc_pad n V).length := by
  unfold rc_pad
  simp
  omega
theorem rt_gL_pad2 {A : List (Option rt_V)} {V : List (Option Value)} (h : rt_gL τ ν lm K ad A V) (n : Nat) : rt_gL τ ν lm K ad A (rc_pad n V) := fun i x hx => by
  obtain ⟨v, e, g⟩ := h i x hx
  exact ⟨v, rc_pad_mono e, g⟩
theorem rt_arr1_ok (hSW : rt_SWok KK κ K ad Φ SW) {sgs : List Bool} {fm : Bool} {S : rt_S} {q : rt_Cu} (h : rt_arr1 SW sgs fm S q = true) (hm1 : rt_moks (ri_len q.2.2.1.1.1) q.2.2.2 = true) (hm2 : q.2.2.2.length = sgs.length) {b : rc_C} (hr : rt_rl KK κ K ad ws0 Φ t0 S b) : ∃ (zs : List Int32) (V : List (Option Value)), rt_rl KK κ K ad ws0 Φ t0 (rt_start q) (b.1, V, b.2.2.1, b.2.2.2) ∧ zs.length = sgs.length ∧ (∀ (j : Nat) (z : Int32), zs[j]? = some z → V[20 + j]? = some (some (.int z))) ∧ (∀ (i : Nat) (v : Value), i < 20 ∨ 20 + sgs.length ≤ i → V[i]? = some (some v) → b.2.1[i]? = some (some v)) ∧ (fm = true → ∀ zs0 : List Int32, (∀ (j : Nat) (v : Value), j < sgs.length → b.2.1[20 + j]? = some (some v) → ∃ z, zs0[j]? = some z ∧ v = .int z) → rt_enc sgs zs < rt_enc sgs zs0) := by
  unfold rt_arr1 at h
  obtain ⟨c1, h⟩ := rt_cnd h
  have c1 := Nat.eq_of_beq_eq_true c1
  obtain ⟨τ, ν, lm, r1, r2, r3, r4, r5, r6⟩ := hr
  cases hst : rt_st S with
  | cons x st => rw [hst] at h; cases h
  | nil =>
    rw [hst] at h
    have h : (match (generalizing := false) rt_sw SW S.2.1.1 q.2.1.1 with
      | none => false
      | some r => cond (rt_so (rt_E S) (rt_R S) (rt_ov S) r) (cond (Nat.ble q.2.1.2 S.2.1.2) (match (generalizing := false) rt_mt (rt_E S) (rt_ov S) (rt_lo S) q.2.2.1.1 q.2.2.1.2.1 q.2.2.1.2.2 with
        | none => false
        | some mm => cond fm (rt_lex (rt_E S) mm.1 sgs (rt_drop 20 (rt_lo S)) q.2.2.2) true) false) false) = true := h
    cases hsw : rt_sw SW S.2.1.1 q.2.1.1 with
    | none => rw [hsw] at h; cases h
    | some r =>
      rw [hsw] at h
      obtain ⟨c2, h2⟩ := rt_cnd h
      obtain ⟨c3, h3⟩ := rt_cnd h2
      have c3 := Nat.le_of_ble_eq_true c3
      cases hmt : rt_mt (rt_E S) (rt_ov S) (rt_lo S) q.2.2.1.1 q.2.2.1.2.1 q.2.2.1.2.2 with
      | none => rw [hmt] at h3; cases h3
      | some mm =>
        rw [hmt] at h3
        have h3 : cond fm (rt_lex (rt_E S) mm.1 sgs (rt_drop 20 (rt_lo S)) q.2.2.2) true = true := h3
        obtain ⟨τ', ν', lm', f1, f2, f3, f4⟩ := rt_mt_ok (R := S.2.2.1) r3 r6 r4 hmt
        obtain ⟨zs, z1, z2⟩ := rt_moks_ok f1 f2 hm1
        have hh := hSW _ _ r hsw ws0 t0 S.2.1.2 q.2.1.2 b.2.2.2 S.2.2.1 τ ν lm (rt_ov S) c3 r3 r6 c2 r2
        rw [hst] at r5
        have e0 := rt_gS_nil r5
        have hpg := rc_pad_ge (20 + zs.length) b.2.1
        refine ⟨zs, rc_msV zs 20 (rc_pad (20 + zs.length) b.2.1), ⟨τ', ν', lm', by rw [r1]; exact c1.symm, hh, f1, ?_, by rw [e0]; exact trivial, f4⟩, by rw [z1, hm2], fun j z hz => rc_msV_in zs 20 _ j z hpg hz, fun i v hi hv => ?_, fun hfm zs0 h0 => ?_⟩
        · refine rt_msG_ok z1 hpg (rt_gL_pad2 f3 _) (fun j x hx => ?_)
          obtain ⟨z, g1, g2, -⟩ := z2 j x hx
          exact ⟨z, g1, g2⟩
        · have hv : (rc_msV zs 20 (rc_pad (20 + zs.length) b.2.1))[i]? = some (some v) := hv
          rw [rc_msV_out zs 20 _ i (by omega)] at hv
          exact rc_pad_at hv
        · subst hfm
          have h3 : rt_lex (rt_E S) mm.1 sgs (rt_drop 20 (rt_lo S)) q.2.2.2 = true := h3
          refine rt_lex_ok r3.1 h3 (fun j x hj hx => ?_) (fun j w hw => ?_)
          · rw [rt_drop_eq, List.getElem?_drop] at hx
            obtain ⟨v, e1, z, rfl, g1⟩ := r4 _ _ hx
            obtain ⟨z', e2, e3⟩ := h0 j _ hj e1
            cases e3
            exact ⟨z, e2, g1⟩
          · obtain ⟨z, g1, -, g3⟩ := z2 j w hw
            exact ⟨z, g1, g3⟩
theorem rt_arr_ok {sgs : List Bool} {fm : Bool} {S : rt_S} : ∀ {cuts : List rt_Cu}, rt_arr SW sgs fm cuts S = true → ∃ q ∈ cuts, rt_arr1 SW sgs fm S q = true
  | [], h => by cases h
  | q :: cuts, h => by
    have h : cond (rt_arr1 SW sgs fm S q) true (rt_arr SW sgs fm cuts S) = true := h
    cases hq : rt_arr1 SW sgs fm S q with
    | true => exact ⟨q, List.mem_cons_self, hq⟩
    | false =>
      rw [hq] at h
      obtain ⟨q', h1, h2⟩ := rt_arr_ok (cuts := cuts) h
      exact ⟨q', List.mem_cons_of_mem _ h1, h2⟩
theorem rt_ret_ok {L : Nat} {v : Option rt_V} {S : rt_S} : ∀ {Ps : List rt_Po}, rt_ret SW L Ps v S = true → ∃ P ∈ Ps, rt_rp1 SW L v S P = true
  | [], h => by cases h
  | P :: Ps, h => by
    have h : cond (rt_rp1 SW L v S P) true (rt_ret SW L Ps v S) = true := h
    cases hq : rt_rp1 SW L v S P with
    | true => exact ⟨P, List.mem_cons_self, hq⟩
    | false =>
      rw [hq] at h
      obtain ⟨q', h1, h2⟩ := rt_ret_ok (Ps := Ps) h
      exact ⟨q', List.mem_cons_of_mem _ h1, h2⟩
theorem rt_slots_ok {L : Nat} {S : rt_S} : ∀ {xs : List (Nat × Nat × rt_T)}, rt_slots L S xs = true → ∀ x ∈ xs, rt_slot1 L S x = true
  | [], _, x, hx => by cases hx
  | y :: xs, h, x, hx => by
    have h : cond (rt_slot1 L S y) (rt_slots L S xs) false = true := h
    obtain ⟨c1, h2⟩ := rt_cnd h
    rcases List.mem_cons.mp hx with rfl | hx
    · exact c1
    · exact rt_slots_ok h2 x hx
theorem rt_cuts_ok {sgs : List Bool} {f : rt_S → Bool} : ∀ {cuts : List rt_Cu}, rt_cuts sgs f cuts = true → ∀ q ∈ cuts, rt_moks (ri_len q.2.2.1.1.1) q.2.2.2 = true ∧ q.2.2.2.length = sgs.length ∧ f (rt_start q) = true
  | [], _, q, hq => by cases hq
  | y :: cuts, h, q, hq => by
    have h : cond (rt_moks (ri_len y.2.2.1.1.1) y.2.2.2) (cond (Nat.beq (ri_len y.2.2.2) (ri_len sgs)) (cond (f (rt_start y)) (rt_cuts sgs f cuts) false) false) false = true := h
    obtain ⟨c1, h2⟩ := rt_cnd h
    obtain ⟨c2, h3⟩ := rt_cnd h2
    obtain ⟨c3, h4⟩ := rt_cnd h3
    have c2 := Nat.eq_of_beq_eq_true c2
    rw [ri_len_eq, ri_len_eq] at c2
    rcases List.mem_cons.mp hq with rfl | hq
    · exact ⟨c1, c2, c3⟩
    · exact rt_cuts_ok h4 q hq
theorem rt_non_eq : ∀ n : Nat, rt_non n = List.replicate n none
  | 0 => rfl
  | n + 1 => by
    show none :: rt_non n = _
    rw [rt_non_eq n]
    rfl
theorem rt_ghN_at : ∀ {R : List Nat} {j n i : Nat} {x : rt_V}, (rt_ghN R j n)[i]? = some (some x) → i < n ∧ ∃ k, R[i]? = some k ∧ x = .inr (.inl (k, j + i + 1))
  | [], j, n, i, x, h => by cases h
  | k :: R, j, 0, i, x, h => by cases h
  | k :: R, j, n + 1, i, x, h => by
    have h : (some (Sum.inr (Sum.inl (k, Nat.succ j))) :: rt_ghN R (Nat.succ j) n)[i]? = some (some x) := h
    cases i with
    | zero =>
      cases h
      exact ⟨Nat.succ_pos _, k, rfl, rfl⟩
    | succ i =>
      obtain ⟨h1, k', h2, h3⟩ := rt_ghN_at (R := R) (j := j + 1) (n := n) (i := i) h
      refine ⟨Nat.succ_lt_succ h1, k', h2, ?_⟩
      rw [h3, show j + 1 + i + 1 = j + (i + 1) + 1 by omega]
end RT63
