/-! By hand: starts and ends of runs, stores -/
/-- an array cell of ints -/
noncomputable def mI1 (P : Int × Int → Bool) (KK : List (List rt_K)) (g t i n : Nat) : Bool := match ri_nth mK i with
  | none => false
  | some k => (match rt_kd KK g k with
    | some (.inr o) => cond (Nat.beq o.1 t) (cond (Nat.beq (rt_tot o.2) n) (rt_all1 (fun q => match q.2.2 with
      | .inl a => P a
      | .inr _ => false) o.2) false) false
    | _ => false)
def mAny (_ : Int × Int) : Bool := true
def mWd (a : Int × Int) : Bool := cond (ri_le a.1 (-2147483648)) (ri_le 2147483647 a.2) false
def mNu (ad cs : List Nat) : List Nat := cs.map (fun c => (ad[c]?).getD 0)
def mVal (ad cs : List Nat) (τ : List Int) (x : rt_V) (v : Value) : Prop := match x with
  | .inl x => ∃ z : Int32, v = .int z ∧ rt_gI τ x z
  | .inr (.inl (k, Nat.succ j)) => ∃ c p : Nat, cs[j]? = some c ∧ mK[c]? = some k ∧ ad[c]? = some p ∧ v = .ref p
  | _ => False
def mLo (ad cs : List Nat) (τ : List Int) : List (Option rt_V) → List (Option Value) → Prop
  | [], _ => True
  | none :: A, V => mLo ad cs τ A V.tail
  | some x :: A, V => (∃ v, V.head? = some (some v) ∧ mVal ad cs τ x v) ∧ mLo ad cs τ A V.tail
def mStk (ad cs : List Nat) (τ : List Int) : List rt_V → List Value → Prop
  | [], [] => True
  | x :: A, v :: V => mVal ad cs τ x v ∧ mStk ad cs τ A V
  | _, _ => False
def mEs (τ : List Int) : List rt_B → List Int → Prop
  | [], [] => True
  | e :: E, x :: X => rt_okB τ [] e x ∧ mEs τ E X
  | _, _ => False
def mOv (KK : List (List rt_K)) (g : Nat) (cs : List Nat) (τ : List Int) (w : va_W) (o : rt_O) : Prop := match o with
  | (Nat.succ j, sel, .inl x) => ∃ (c : Nat) (b : Int) (a : Int × Int), cs[j]? = some c ∧ rt_bs τ sel.1 = some b ∧ 0 ≤ b + sel.2 ∧ mTy KK g c (b + sel.2).toNat = some a ∧ rt_gI τ x (mz w c (b + sel.2).toNat)
  | (Nat.succ 0, (0, off), .inr (.inl (k, Nat.succ j))) => cs[0]? = some 0 ∧ ∃ (c f : Nat), cs[j]? = some c ∧ mK[c]? = some k ∧ off = (f : Int) ∧ mRf KK g f c = true
  | _ => False
def mOvs (KK : List (List rt_K)) (g : Nat) (cs : List Nat) (τ : List Int) (w : va_W) : List rt_O → Prop
  | [] => True
  | o :: l => mOv KK g cs τ w o ∧ mOvs KK g cs τ w l
noncomputable def mS (pc g s : Nat) (E : List rt_B) (R : List Nat) (A Gh : List (Option rt_V)) (st : List rt_V) (ov : List rt_O) : rt_S := (pc, (g, s), (E, R, []), List.append (rt_pad 20 A) Gh, st, ov)
noncomputable def mT8 (pc g s : Nat) (E : List rt_B) (R : List Nat) (sk A Gh : List (Option rt_V)) (ov : List rt_O) : rt_Tg := (pc, (g, s), (E, R, []), List.append (rt_pad 8 sk) (List.append (rt_pad 20 A) Gh), ov)
def mV20 (Va Vg : List (Option Value)) : List (Option Value) := rc_pad 20 Va ++ Vg
section MTOOL
variable {l : Launch} {D : va_G} {KK : List (List rt_K)} {κ : Nat → ClassId} {ad : List Nat} {g : Nat} {w w' ws0 : va_W} {τ : List Int} {ν : List Nat} {lm : List Int64} {cs : List Nat} {Φ : Nat → Int → va_W → Prop} {t0 : Int}
theorem mI1_ty {P : Int × Int → Bool} {t i n : Nat} (h : mI1 P KK g t i n = true) {j : Nat} (hj : j < n) : ∃ a, mTy KK g i j = some a ∧ P a = true := by
  unfold mI1 at h
  unfold mTy
  rw [ri_nth_eq] at h ⊢
  cases hk : mK[i]? with
  | none => rw [hk] at h; cases h
  | some k =>
    rw [hk] at h
    have h : (match (generalizing := false) rt_kd KK g k with
      | some (.inr o) => cond (Nat.beq o.1 t) (cond (Nat.beq (rt_tot o.2) n) (rt_all1 (fun q => match q.2.2 with
        | .inl a => P a
        | .inr _ => false) o.2) false) false
      | _ => false) = true := h
    rcases hkd : rt_kd KK g k with _ | o | o
    · rw [hkd] at h; cases h
    · rw [hkd] at h; cases h
    · rw [hkd] at h
      obtain ⟨-, h2⟩ := rt_cnd h
      obtain ⟨c2, h3⟩ := rt_cnd h2
      have c2 := Nat.eq_of_beq_eq_true c2
      obtain ⟨f, hf⟩ := rt_sg_tot (l := o.2) (k := j) (by omega)
      have hm : ∃ q ∈ o.2, q.2 = f := by
        have : ∀ {l : List (Nat × rt_F)} {j : Nat}, rt_sg l j = some f → ∃ q ∈ l, q.2 = f := by
          intro l
          induction l with
          | nil => intro j hf; cases hf
          | cons q l ih =>
            intro j hf
            have hf : cond (Nat.blt j q.1) (some q.2) (rt_sg l (Nat.sub j q.1)) = some f := hf
            cases hc : Nat.blt j q.1 with
            | true =>
              rw [hc] at hf
              cases hf
              exact ⟨q, List.mem_cons_self, rfl⟩
            | false =>
              rw [hc] at hf
              obtain ⟨q', h1, h2⟩ := ih hf
              exact ⟨q', List.mem_cons_of_mem _ h1, h2⟩
        exact this hf
      obtain ⟨q, hq, rfl⟩ := hm
      have h4 := rt_all1_ok h3 q hq
      show ∃ a, (match (generalizing := false) rt_kd KK g k with
        | none => none
        | some kd => (match (generalizing := false) rt_sT kd j with
          | some f => (match (generalizing := false) f.2 with
            | .inl a => some a
            | .inr _ => none)
          | none => none)) = some a ∧ P a = true
      rw [hkd]
      show ∃ a, (match (generalizing := false) rt_sg o.2 j with
          | some f => (match (generalizing := false) f.2 with
            | .inl a => some a
            | .inr _ => none)
          | none => none) = some a ∧ P a = true
      rw [hf]
      rcases hq2 : q.2.2 with a | a
      · rw [hq2] at h4
        exact ⟨a, by show (match (generalizing := false) q.2.2 with
          | .inl a => some a
          | .inr _ => none) = some a; rw [hq2], h4⟩
      · rw [hq2] at h4
        cases h4
theorem m_arr {P : Int × Int → Bool} (hH : rt_gH KK g κ mK ad w) (had : ri_ad w = ad) {t i n : Nat} (ht : t ≤ 2) (h : mI1 P KK g t i n = true) : ∃ (q : Nat) (f : Nat → Int32), w[i]? = some (q, .inl (κ t, n, .inl f)) ∧ ad[i]? = some q ∧ ∀ j, j < n → mz w i j = f j := by
  unfold mI1 at h
  rw [ri_nth_eq] at h
  cases hk : mK[i]? with
  | none => rw [hk] at h; cases h
  | some k =>
    rw [hk] at h
    have h : (match (generalizing := false) rt_kd KK g k with
      | some (.inr o) => cond (Nat.beq o.1 t) (cond (Nat.beq (rt_tot o.2) n) (rt_all1 (fun q => match q.2.2 with
        | .inl a => P a
        | .inr _ => false) o.2) false) false
      | _ => false) = true := h
    rcases hkd : rt_kd KK g k with _ | o | o
    · rw [hkd] at h; cases h
    · rw [hkd] at h; cases h
    · rw [hkd] at h
      obtain ⟨c1, h2⟩ := rt_cnd h
      obtain ⟨c2, -⟩ := rt_cnd h2
      have c1 := Nat.eq_of_beq_eq_true c1
      have c2 := Nat.eq_of_beq_eq_true c2
      obtain ⟨q, e, kd, h1, h2, h3⟩ := hH i k hk
      have : kd = .inr o := Option.some.inj (h2.symm.trans hkd)
      subst this
      have hs : (o.1 ≤ 2 ∧ ∃ f : Nat → Int32, e = .inl (κ o.1, rt_tot o.2, .inl f)) ∨ (o.1 = 3 ∧ ∃ f : Nat → Int64, e = .inl (κ 3, rt_tot o.2, .inr (.inl f))) ∨ (4 ≤ o.1 ∧ o.1 ≤ 7 ∧ ∃ f : Nat → Option Nat, e = .inl (κ o.1, rt_tot o.2, .inr (.inr (.inr (.inr f))))) := h3.1
      rcases hs with ⟨-, f, rfl⟩ | ⟨h5, -⟩ | ⟨h5, -⟩
      · rw [c1, c2] at h1
        refine ⟨q, f, h1, by rw [← had]; exact ri_ad_at h1, fun j hj => ?_⟩
        unfold mz
        rw [h1]
        show (match (if j < n then some (Value.int (f j)) else none) with
          | some (.int z) => z
          | _ => 0) = f j
        rw [if_pos hj]
      · omega
      · omega
theorem mVal_ok {x : rt_V} {v : Value} (h : mVal ad cs τ x v) : rt_gV τ (mNu ad cs) lm mK ad x v := by
  rcases x with x | ⟨k, _ | j⟩ | _ | t
  · exact h
  · exact h.elim
  · obtain ⟨c, p, h1, h2, h3, rfl⟩ := h
    refine ⟨p, rfl, ⟨c, h3, h2⟩, Or.inr ⟨j, rfl, ?_⟩⟩
    unfold mNu
    rw [List.getElem?_map, h1]
    show some ((ad[c]?).getD 0) = some p
    rw [h3]
    rfl
  · exact h.elim
  · exact h.elim
theorem mLo_ok : ∀ {A : List (Option rt_V)} {V : List (Option Value)}, mLo ad cs τ A V → rt_gL τ (mNu ad cs) lm mK ad A V
  | [], V, _, i, x, hx => by cases hx
  | none :: A, V, h, i, x, hx => by
    cases i with
    | zero => cases hx
    | succ i =>
      obtain ⟨v, h1, h2⟩ := mLo_ok (show mLo ad cs τ A V.tail from h) i x hx
      refine ⟨v, ?_, h2⟩
      rw [List.getElem?_tail] at h1
      exact h1
  | some y :: A, V, h, i, x, hx => by
    obtain ⟨⟨v, h1, h2⟩, h3⟩ := h
    cases i with
    | zero =>
      cases hx
      refine ⟨v, ?_, mVal_ok h2⟩
      rw [← List.head?_eq_getElem?]
      exact h1
    | succ i =>
      obtain ⟨v, h1, h2⟩ := mLo_ok h3 i x hx
      refine ⟨v, ?_, h2⟩
      rw [List.getElem?_tail] at h1
      exact h1
theorem mStk_ok : ∀ {A : List rt_V} {V : List Value}, mStk ad cs τ A V → rt_gS τ (mNu ad cs) lm mK ad A V
  | [], [], _ => trivial
  | _ :: _, _ :: _, h => ⟨mVal_ok h.1, mStk_ok h.2⟩
  | [], _ :: _, h => h.elim
  | _ :: _, [], h => h.elim
theorem mEs_at : ∀ {E : List rt_B} {X : List Int}, mEs τ E X → X.length = E.length ∧ ∀ (k : Nat) (e : rt_B) (b : Int), E[k]? = some e → X[k]? = some b → rt_okB τ [] e b
  | [], [], _ => ⟨rfl, fun k e b h => by cases h⟩
  | e :: E, x :: X, h => by
    obtain ⟨h1, h2⟩ := mEs_at h.2
    refine ⟨by simp [h1], fun k e' b he hb => ?_⟩
    cases k with
    | zero =>
      cases he
      cases hb
      exact h.1
    | succ k => exact h2 k e' b he hb
  | [], _ :: _, h => h.elim
  | _ :: _, [], h => h.elim
theorem mEs_ok {E : List rt_B} (h : mEs τ E τ) : rt_okE E τ [] := mEs_at h
theorem m_adAt (hH : rt_gH KK g κ mK ad w) (had : ri_ad w = ad) {c k : Nat} (hc : mK[c]? = some k) : ad[c]? = some ((ad[c]?).getD 0) := by
  obtain ⟨q, e, kd, h1, -, -⟩ := hH c k hc
  have := ri_ad_at h1
  rw [had] at this
  rw [this]
  rfl
theorem mOv_ok (hH : rt_gH KK g κ mK ad w) (had : ri_ad w = ad) {o : rt_O} (h : mOv KK g cs τ w o) : rt_gO τ (mNu ad cs) lm mK ad w o := by
  have nu : ∀ {j c p : Nat}, cs[j]? = some c → ad[c]? = some p → (mNu ad cs)[j]? = some p := fun {j c p} h1 h2 => by
    unfold mNu
    rw [List.getElem?_map, h1]
    show some ((ad[c]?).getD 0) = some p
    rw [h2]
    rfl
  obtain ⟨j, sel, v⟩ := o
  rcases j with _ | j
  · exact h.elim
  · rcases v with x | v
    · obtain ⟨c, b, a, h1, h2, h3, h4, h5⟩ := h
      obtain ⟨q, e, w1, w2, -, -⟩ := m_int hH h4
      have hq : ad[c]? = some q := by rw [← had]; exact ri_ad_at w1
      exact ⟨j, q, c, e, b, .int (mz w c (b + sel.2).toNat), rfl, nu h1 hq, w1, h2, h3, w2, mz w c (b + sel.2).toNat, rfl, h5⟩
    · obtain ⟨s1, s2⟩ := sel
      rcases j with _ | j
      · rcases s1 with _ | s1
        · rcases v with ⟨k, _ | j'⟩ | v
          · exact h.elim
          · obtain ⟨h0, c, f, h1, h2, rfl, h3⟩ := h
            obtain ⟨q0, q, e0, e, r1, r2, r3, r4⟩ := m_ref hH had h3
            have hq0 : ad[0]? = some q0 := by rw [← had]; exact ri_ad_at r1
            exact m_mkR (j := 0) (j' := j') (i := c) (f := f) (nu h0 hq0) (nu h1 r4) r1 r3 r4 h2
          · exact h.elim
        · rcases v with ⟨k, _ | j'⟩ | v
          · exact h.elim
          · exact h.elim
          · exact h.elim
      · rcases s1 with _ | s1
        · rcases v with ⟨k, _ | j'⟩ | v
          · exact h.elim
          · exact h.elim
          · exact h.elim
        · rcases v with ⟨k, _ | j'⟩ | v
          · exact h.elim
          · exact h.elim
          · exact h.elim
theorem mOvs_ok (hH : rt_gH KK g κ mK ad w) (had : ri_ad w = ad) : ∀ {l : List rt_O}, mOvs KK g cs τ w l → ∀ o ∈ l, rt_gO τ (mNu ad cs) lm mK ad w o
  | [], _, o, ho => by cases ho
  | a :: l, h, o, ho => by
    rcases List.mem_cons.mp ho with rfl | ho
    · exact mOv_ok hH had h.1
    · exact mOvs_ok hH had h.2 o ho
/-- a start of a run -/
theorem m_start {S : rt_S} {V : List (Option Value)} {st : List Value} (hh : rt_hp KK κ mK ad ws0 Φ t0 S.2.1.1 S.2.1.2 w) (hR : rt_R S = cs.map (fun c => mK.getD c 0)) (hcs : ∀ c ∈ cs, c < 80) (hL : rt_L S = []) (hE : mEs τ (rt_E S) τ) (hlo : rt_gL τ (mNu ad cs) [] mK ad (rt_lo S) V) (hst : mStk ad cs τ (rt_st S) st) (hov : mOvs KK S.2.1.1 cs τ w (rt_ov S)) : rt_rl KK κ mK ad ws0 Φ t0 S (S.1, V, st, w) := by
  refine ⟨τ, mNu ad cs, [], rfl, hh, ⟨mEs_ok hE, ?_, ?_⟩, hlo, mStk_ok hst, mOvs_ok hh.2.1 hh.1 hov⟩
  · show rt_okR mK ad (rt_R S) (mNu ad cs)
    rw [hR]
    refine ⟨by unfold mNu; simp, fun j k hk => ?_⟩
    rw [List.getElem?_map] at hk
    cases hc : cs[j]? with
    | none => rw [hc] at hk; cases hk
    | some c =>
      rw [hc] at hk
      have hk : some (mK.getD c 0) = some k := hk
      have hlt := hcs c (List.mem_of_getElem? hc)
      have hmk : mK[c]? = some k := by
        rw [List.getD_eq_getElem?_getD, List.getElem?_eq_getElem (show c < mK.length from hlt)] at hk
        rw [List.getElem?_eq_getElem (show c < mK.length from hlt)]
        exact hk
      refine ⟨(ad[c]?).getD 0, ?_, c, m_adAt hh.2.1 hh.1 hmk, hmk⟩
      unfold mNu
      rw [List.getElem?_map, hc]
      rfl
  · show rt_okL (rt_L S) []
    rw [hL]
    exact ⟨rfl, fun j c h => by cases h⟩
theorem m_lo20 {A Gh : List (Option rt_V)} {Va Vg : List (Option Value)} (hl : A.length = Va.length) (h20 : A.length ≤ 20) (h1 : mLo ad cs τ A Va) (h2 : mLo ad cs τ Gh Vg) : rt_gL τ (mNu ad cs) lm mK ad (List.append (rt_pad 20 A) Gh) (mV20 Va Vg) := by
  obtain ⟨p1, p2⟩ := rt_gL_pad (mLo_ok (lm := lm) h1) hl 20
  exact rt_gL_app p1 (mLo_ok h2) p2
/-- an end of a run -/
theorem m_end {pc s : Nat} {E : List rt_B} {R : List Nat} {sk A Gh : List (Option rt_V)} {ov : List rt_O} {b : rc_C} (hat : rt_atT KK κ mK ad ws0 Φ t0 (mT8 pc g s E R sk A Gh ov) b) (h8 : sk.length ≤ 8) (h20 : A.length ≤ 20) (hb : b.2.2.1.length ≤ 8) : ∃ (τ : List Int) (ν : List Nat) (lm : List Int64), (pc = 0 ∨ b.1 = pc) ∧ rt_hp KK κ mK ad ws0 Φ t0 g s b.2.2.2 ∧ rt_okN mK ad (E, R, []) τ ν lm ∧ (∀ (i : Nat) (x : rt_V), sk[i]? = some (some x) → ∃ v, b.2.2.1[i]? = some v ∧ rt_gV τ ν lm mK ad x v) ∧ (∀ (i : Nat) (x : rt_V), A[i]? = some (some x) → ∃ v, b.2.1[i]? = some (some v) ∧ rt_gV τ ν lm mK ad x v) ∧ (∀ (i : Nat) (x : rt_V), Gh[i]? = some (some x) → ∃ v, b.2.1[20 + i]? = some (some v) ∧ rt_gV τ ν lm mK ad x v) ∧ ∀ o ∈ ov, rt_gO τ ν lm mK ad b.2.2.2 o := by
  obtain ⟨τ, ν, lm, a1, a2, a3, a4, a5⟩ := hat
  have a4 : rt_gL τ ν lm mK ad (rt_pad 8 sk ++ (rt_pad 20 A ++ Gh)) (rc_pad 8 (b.2.2.1.map some) ++ b.2.1) := a4
  have l8 : (rt_pad 8 sk).length = 8 := by
    rw [rt_pad_eq]
    simp
    omega
  have l20 : (rt_pad 20 A).length = 20 := by
    rw [rt_pad_eq]
    simp
    omega
  have r8 : (rc_pad 8 (b.2.2.1.map some)).length = 8 := rc_pad_len (by simpa using hb)
  refine ⟨τ, ν, lm, a1, a2, a3, fun i x hx => ?_, fun i x hx => ?_, fun i x hx => ?_, a5⟩
  · have hi : i < sk.length := (List.getElem?_eq_some_iff.mp hx).1
    obtain ⟨v, h1, h2⟩ := a4 i x (by rw [List.getElem?_append_left (by omega), rt_pad_eq, List.getElem?_append_left hi]; exact hx)
    rw [List.getElem?_append_left (by omega)] at h1
    have h1 := rc_pad_at h1
    rw [List.getElem?_map] at h1
    cases hv : b.2.2.1[i]? with
    | none => rw [hv] at h1; cases h1
    | some u =>
      rw [hv] at h1
      cases h1
      exact ⟨v, rfl, h2⟩
  · have hi : i < A.length := (List.getElem?_eq_some_iff.mp hx).1
    obtain ⟨v, h1, h2⟩ := a4 (8 + i) x (by rw [List.getElem?_append_right (by omega), l8, show 8 + i - 8 = i by omega, List.getElem?_append_left (by omega), rt_pad_eq, List.getElem?_append_left hi]; exact hx)
    rw [List.getElem?_append_right (by omega), r8, show 8 + i - 8 = i by omega] at h1
    exact ⟨v, h1, h2⟩
  · obtain ⟨v, h1, h2⟩ := a4 (28 + i) x (by rw [List.getElem?_append_right (by omega), l8, show 28 + i - 8 = 20 + i by omega, List.getElem?_append_right (by omega), l20, show 20 + i - 20 = i by omega]; exact hx)
    rw [List.getElem?_append_right (by omega), r8, show 28 + i - 8 = 20 + i by omega] at h1
    exact ⟨v, h1, h2⟩
/-- the ghosts at the end are those at the start -/
theorem m_ghost {a b : rc_C} {Va Vg : List (Option Value)} (hg : rc_gh a b) (ha : a.2.1 = mV20 Va Vg) (hl : Va.length ≤ 20) {i : Nat} {v : Value} (h : b.2.1[20 + i]? = some (some v)) : Vg[i]? = some (some v) := by
  have h1 := hg (20 + i) v (by omega) h
  rw [ha] at h1
  unfold mV20 at h1
  rw [List.getElem?_append_right (by rw [rc_pad_len hl]; omega), rc_pad_len hl, show 20 + i - 20 = i by omega] at h1
  exact h1
/-- only these locals are kept -/
theorem m_loc {V Va Vg : List (Option Value)} (hl : Va.length ≤ 20) (h : ∀ (i : Nat) (v : Value), Va[i]? = some (some v) → V[i]? = some (some v)) : ∀ (i : Nat) (v : Value), i < 20 → (mV20 Va Vg)[i]? = some (some v) → V[i]? = some (some v) := fun i v hi hv => by
  unfold mV20 at hv
  rw [List.getElem?_append_left (by rw [rc_pad_len hl]; exact hi)] at hv
  exact h i v (rc_pad_at hv)
theorem m_vpin {z : Int32} {n : Nat} (h0 : 0 ≤ z.toInt) (h1 : z.toInt < n) : vp_in z n ∧ z.toNatClampNeg = z.toInt.toNat := by
  have e : z.toNatClampNeg = z.toInt.toNat := rfl
  refine ⟨fun h => ?_, e⟩
  rcases h with h | h
  · have := Int32.lt_iff_toInt_lt.mp h
    have e0 : (0 : Int32).toInt = 0 := by decide
    omega
  · omega
/-- one slot of a cell changed -/
theorem m_mvS {i0 q j : Nat} {e e' : va_E} {z : Int32} (hw : w[i0]? = some (q, e)) (hj : rt_sl e' j = some (.int z)) (ho : ∀ i, i ≠ j → rt_sl e' i = rt_sl e i) (i j' : Nat) : mv (w.set i0 (q, e')) i j' = if i = i0 ∧ j' = j then z.toInt else mv w i j' := by
  unfold mv mz
  by_cases hi : i = i0
  · subst hi
    rw [List.getElem?_set_self (List.getElem?_eq_some_iff.mp hw).1, hw]
    show (match rt_sl e' j' with
      | some (.int z) => z
      | _ => 0).toInt = _
    by_cases hjj : j' = j
    · subst hjj
      rw [hj, if_pos ⟨rfl, rfl⟩]
    · rw [ho j' hjj, if_neg (fun q => hjj q.2)]
      rfl
  · rw [List.getElem?_set_ne (fun q => hi q.symm), if_neg (fun q => hi q.1)]
theorem m_setH {i0 q j k0 : Nat} {e e' : va_E} {v : Value} (hH : rt_gH KK g κ mK ad w) (hw : w[i0]? = some (q, e)) (hk : mK[i0]? = some k0) (hs : ∀ kd, rt_shp κ kd e → rt_shp κ kd e') (hj : rt_sl e' j = some v) (ho : ∀ i, i ≠ j → rt_sl e' i = rt_sl e i) (hT : ∀ kd f, rt_kd KK g k0 = some kd → rt_sT kd j = some f → rt_gT mK ad f.2 v) : rt_gH KK g κ mK ad (w.set i0 (q, e')) := by
  intro i k hik
  obtain ⟨q1, e1, kd, h1, h2, h3⟩ := hH i k hik
  by_cases hi : i = i0
  · subst hi
    rw [hw] at h1
    cases h1
    rw [hk] at hik
    cases hik
    refine ⟨q, e', kd, List.getElem?_set_self (List.getElem?_eq_some_iff.mp hw).1, h2, hs kd h3.1, fun j' f hf => ?_⟩
    by_cases hjj : j' = j
    · subst hjj
      exact ⟨v, hj, hT kd f h2 hf⟩
    · rw [ho j' hjj]
      exact h3.2 j' f hf
  · exact ⟨q1, e1, kd, by rw [List.getElem?_set_ne (fun q => hi q.symm)]; exact h1, h2, h3⟩
theorem m_setA {g' i0 q j k0 : Nat} {e e' : va_E} (hH : rt_gH KK g κ mK ad w) (hw : w[i0]? = some (q, e)) (hk : mK[i0]? = some k0) (ho : ∀ i, i ≠ j → rt_sl e' i = rt_sl e i) (hT : ∀ kd f, rt_kd KK g' k0 = some kd → rt_sT kd j = some f → ¬ f.1 = 1) : rt_ag (fun f => f = 1) KK g' mK w (w.set i0 (q, e')) := by
  intro i k j' kd f hik hkd hf h1
  obtain ⟨q1, e1, -, h2, -, -⟩ := hH i k hik
  by_cases hi : i = i0
  · subst hi
    rw [hw] at h2
    cases h2
    rw [hk] at hik
    cases hik
    by_cases hjj : j' = j
    · subst hjj
      exact absurd h1 (hT kd f hkd hf)
    · exact ⟨q, q, e', e, List.getElem?_set_self (List.getElem?_eq_some_iff.mp hw).1, hw, ho j' hjj⟩
  · exact ⟨q1, q1, e1, e1, by rw [List.getElem?_set_ne (fun q => hi q.symm)]; exact h2, h2, rfl⟩
theorem m_agT {fl : Nat → Prop} {a b c : va_W} (h1 : rt_ag fl KK g mK a b) (h2 : rt_ag fl KK g mK b c) : rt_ag fl KK g mK a c := by
  intro i k j kd f hi hkd hf hfl
  obtain ⟨q, q0, e, e0, a1, a2, a3⟩ := h1 i k j kd f hi hkd hf hfl
  obtain ⟨q', q0', e', e0', b1, b2, b3⟩ := h2 i k j kd f hi hkd hf hfl
  rw [a1] at b2
  cases b2
  exact ⟨q', q0, e', e0, b1, a2, b3.trans a3⟩
theorem m_agR {fl : Nat → Prop} {g' : Nat} (hH : rt_gH KK g κ mK ad w) : rt_ag fl KK g' mK w w := by
  intro i k j kd f hi hkd hf hfl
  obtain ⟨q, e, -, h1, -, -⟩ := hH i k hi
  exact ⟨q, q, e, e, h1, h1, rfl⟩
/-- frozen in g' is frozen in g -/
noncomputable def mFl (KK : List (List rt_K)) (g g' : Nat) : Bool := match ri_nth KK g with
  | none => false
  | some l => (match ri_nth KK g' with
    | none => false
    | some m => rt_cK (fun _ b c => rt_flk b.1 c.1) l l m)
theorem mFl_ok (κ : Nat → ClassId) {g' : Nat} (h : mFl KK g g' = true) {a b : va_W} (hag : rt_ag (fun f => f = 1) KK g mK a b) : rt_ag (fun f => f = 1) KK g' mK a b := by
  unfold mFl at h
  rw [ri_nth_eq, ri_nth_eq] at h
  cases e1 : KK[g]? with
  | none => rw [e1] at h; cases h
  | some l =>
    rw [e1] at h
    cases e2 : KK[g']? with
    | none => rw [e2] at h; cases h
    | some m =>
      rw [e2] at h
      have h : rt_cK (fun _ b c => rt_flk b.1 c.1) l l m = true := h
      intro i k j kd f hi hkd hf hfl
      rw [rt_kd_at e2] at hkd
      obtain ⟨-, w2⟩ := rt_cK_ok _ _ _ h k
      obtain ⟨a1, b1, f1, f2, f3⟩ := w2 kd hkd
      obtain ⟨g1, g2, -, g4, g5⟩ := (rt_c1K_ok (κ := κ) f3).2 j f hf
      refine hag i k j b1 g2 hi (by rw [rt_kd_at e1]; exact f2) g4 ?_
      have hfl : f.1 = 1 := hfl
      have g5 : rt_flk g2.1 f.1 = true := g5
      unfold rt_flk at g5
      rw [hfl] at g5
      exact Nat.eq_of_beq_eq_true g5
end MTOOL
