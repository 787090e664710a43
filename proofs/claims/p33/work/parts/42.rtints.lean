/-! What tags mean; the laws of sums and of what a branch tells -/
def rt_bs (τ : List Int) (k : Nat) : Option Int := match k with
  | 0 => some 0
  | Nat.succ j => τ[j]?
def rt_gI (τ : List Int) (x : ri_I) (v : Int32) : Prop := ∃ b, rt_bs τ x.1 = some b ∧ b + x.2.1 ≤ v.toInt ∧ v.toInt ≤ b + x.2.2
def rt_df (τ : List Int) (lm : List Int64) (q : Bool × Nat × Int) (b : Int) : Prop := match q.1 with
  | true => ∃ (t : Nat) (u w : Int32), q.2.1 = t + 1 ∧ τ[t]? = some u.toInt ∧ w.toInt = q.2.2 ∧ b = (u &&& w).toInt
  | false => ∃ (t : Nat) (z w : Int64), q.2.1 = t + 1 ∧ lm[t]? = some z ∧ w.toInt = q.2.2 ∧ b = (lg_cmp z w).toInt
def rt_okB (τ : List Int) (lm : List Int64) (e : rt_B) (b : Int) : Prop := e.1.1 ≤ b ∧ b ≤ e.1.2 ∧ (e.2.1.1 = 0 ∨ ∃ c, rt_bs τ e.2.1.1 = some c ∧ c + e.2.1.2 ≤ b) ∧ (∀ c, e.2.2.1 = some c → b ≠ c) ∧ ∀ q, e.2.2.2 = some q → rt_df τ lm q b
def rt_okE (E : List rt_B) (τ : List Int) (lm : List Int64) : Prop := τ.length = E.length ∧ ∀ (k : Nat) (e : rt_B) (b : Int), E[k]? = some e → τ[k]? = some b → rt_okB τ lm e b
theorem rt_gI_0 {τ : List Int} {a b : Int} {v : Int32} : rt_gI τ (0, a, b) v ↔ a ≤ v.toInt ∧ v.toInt ≤ b := by
  constructor
  · rintro ⟨c, h, h1, h2⟩
    cases h
    have h1 : 0 + a ≤ v.toInt := h1
    have h2 : v.toInt ≤ 0 + b := h2
    omega
  · intro h
    exact ⟨0, rfl, by show 0 + a ≤ _; omega, by show _ ≤ 0 + b; omega⟩
theorem rt_gI_top (τ : List Int) (v : Int32) : rt_gI τ ri_top v := rt_gI_0.mpr (ri_i32 v)
theorem rt_mk_ok {τ : List Int} {a b : Int} {v : Int32} (h : ri_lo ≤ a → b ≤ ri_hi → a ≤ v.toInt ∧ v.toInt ≤ b) : rt_gI τ (ri_mk a b) v := by
  unfold ri_mk
  cases h1 : ri_le ri_lo a with
  | false => exact rt_gI_top τ v
  | true =>
    cases h2 : ri_le b ri_hi with
    | false => exact rt_gI_top τ v
    | true => exact rt_gI_0.mpr (h (ri_le_iff.mp h1) (ri_le_iff.mp h2))
theorem rt_bs_mono {τ τ' : List Int} (h : τ <+: τ') {k : Nat} {b : Int} (hb : rt_bs τ k = some b) : rt_bs τ' k = some b := by
  cases k with
  | zero => exact hb
  | succ k =>
    obtain ⟨t, rfl⟩ := h
    have hb : τ[k]? = some b := hb
    show (τ ++ t)[k]? = some b
    rw [List.getElem?_append_left (List.getElem?_eq_some_iff.mp hb).1]
    exact hb
theorem rt_gI_mono {τ τ' : List Int} (h : τ <+: τ') {x : ri_I} {v : Int32} (hv : rt_gI τ x v) : rt_gI τ' x v := by
  obtain ⟨b, h1, h2⟩ := hv
  exact ⟨b, rt_bs_mono h h1, h2⟩
section RT42
variable {E : List rt_B} {τ : List Int} {lm : List Int64}
theorem rt_tag (hE : rt_okE E τ lm) {k : Nat} {e : rt_B} (h : E[k]? = some e) : ∃ b, τ[k]? = some b ∧ rt_okB τ lm e b := by
  have hk := (List.getElem?_eq_some_iff.mp h).1
  have hk' : k < τ.length := by rw [hE.1]; exact hk
  exact ⟨_, List.getElem?_eq_getElem hk', hE.2 k e _ h (List.getElem?_eq_getElem hk')⟩
theorem rt_abs_ok (hE : rt_okE E τ lm) {x : ri_I} {a : Int × Int} (h : rt_abs E x = some a) {v : Int32} (hv : rt_gI τ x v) : a.1 ≤ v.toInt ∧ v.toInt ≤ a.2 := by
  obtain ⟨k, lo, hi⟩ := x
  cases k with
  | zero =>
    cases h
    exact rt_gI_0.mp hv
  | succ k =>
    have h : (match ri_nth E k with
      | some b => some (Int.add b.1.1 lo, Int.add b.1.2 hi)
      | none => none) = some a := h
    rw [ri_nth_eq] at h
    cases hb : E[k]? with
    | none => rw [hb] at h; cases h
    | some e =>
      rw [hb] at h
      cases h
      obtain ⟨b, h1, h2, h3, -⟩ := rt_tag hE hb
      obtain ⟨b', g1, g2, g3⟩ := hv
      have g1 : τ[k]? = some b' := g1
      have : b' = b := Option.some.inj (g1.symm.trans h1)
      subst this
      have g2 : b' + lo ≤ v.toInt := g2
      have g3 : v.toInt ≤ b' + hi := g3
      show e.1.1 + lo ≤ _ ∧ _ ≤ e.1.2 + hi
      omega
theorem rt_mkT_ok (hE : rt_okE E τ lm) {k : Nat} {a b : Int} {z : ri_I} (h : rt_mkT E k a b = some z) {v : Int32} (hv : ∀ c : Int, rt_bs τ k = some c → ri_lo ≤ c + a → c + b ≤ ri_hi → c + a ≤ v.toInt ∧ v.toInt ≤ c + b) : rt_gI τ z v := by
  cases k with
  | zero =>
    cases h
    exact rt_mk_ok (fun h1 h2 => by
      have := hv 0 rfl (by omega) (by omega)
      omega)
  | succ j =>
    have h : (match ri_nth E j with
      | some q => some (cond (ri_le ri_lo (Int.add q.1.1 a)) (cond (ri_le (Int.add q.1.2 b) ri_hi) (j + 1, a, b) (ri_mk (Int.add q.1.1 a) (Int.add q.1.2 b))) (ri_mk (Int.add q.1.1 a) (Int.add q.1.2 b)))
      | none => none) = some z := h
    rw [ri_nth_eq] at h
    cases hb : E[j]? with
    | none => rw [hb] at h; cases h
    | some q =>
      rw [hb] at h
      obtain ⟨c, h1, h2, h3, -⟩ := rt_tag hE hb
      have wide : rt_gI τ (ri_mk (Int.add q.1.1 a) (Int.add q.1.2 b)) v := rt_mk_ok (fun g1 g2 => by
        have g1 : ri_lo ≤ q.1.1 + a := g1
        have g2 : q.1.2 + b ≤ ri_hi := g2
        have := hv c h1 (by omega) (by omega)
        show q.1.1 + a ≤ _ ∧ _ ≤ q.1.2 + b
        omega)
      cases c1 : ri_le ri_lo (Int.add q.1.1 a) with
      | false =>
        simp only [c1, cond_false] at h
        cases h
        exact wide
      | true =>
        cases c2 : ri_le (Int.add q.1.2 b) ri_hi with
        | false =>
          simp only [c1, c2, cond_false, cond_true] at h
          cases h
          exact wide
        | true =>
          simp only [c1, c2, cond_true] at h
          cases h
          have c1 : ri_lo ≤ q.1.1 + a := ri_le_iff.mp c1
          have c2 : q.1.2 + b ≤ ri_hi := ri_le_iff.mp c2
          have := hv c h1 (by omega) (by omega)
          exact ⟨c, h1, this.1, this.2⟩
theorem rt_max_le {a b c : Int} : rt_max a b ≤ c ↔ a ≤ c ∧ b ≤ c := by
  unfold rt_max
  cases h : ri_le a b with
  | true =>
    have := ri_le_iff.mp h
    simp only [cond_true]
    omega
  | false =>
    have : ¬ a ≤ b := fun q => by rw [ri_le_iff.mpr q] at h; cases h
    simp only [cond_false]
    omega
theorem rt_le_max {a b c : Int} : c ≤ rt_max a b ↔ c ≤ a ∨ c ≤ b := by
  unfold rt_max
  cases h : ri_le a b with
  | true =>
    have := ri_le_iff.mp h
    simp only [cond_true]
    omega
  | false =>
    have : ¬ a ≤ b := fun q => by rw [ri_le_iff.mpr q] at h; cases h
    simp only [cond_false]
    omega
theorem rt_min_le {a b c : Int} : rt_min a b ≤ c ↔ a ≤ c ∨ b ≤ c := by
  unfold rt_min
  cases h : ri_le a b with
  | true =>
    have := ri_le_iff.mp h
    simp only [cond_true]
    omega
  | false =>
    have : ¬ a ≤ b := fun q => by rw [ri_le_iff.mpr q] at h; cases h
    simp only [cond_false]
    omega
theorem rt_le_min {a b c : Int} : c ≤ rt_min a b ↔ c ≤ a ∧ c ≤ b := by
  unfold rt_min
  cases h : ri_le a b with
  | true =>
    have := ri_le_iff.mp h
    simp only [cond_true]
    omega
  | false =>
    have : ¬ a ≤ b := fun q => by rw [ri_le_iff.mpr q] at h; cases h
    simp only [cond_false]
    omega
theorem rt_rel_ok (hE : rt_okE E τ lm) {x y : ri_I} {d : Int} (h : rt_rel E x y = some d) {u v : Int32} (hu : rt_gI τ x u) (hv : rt_gI τ y v) : d ≤ u.toInt - v.toInt := by
  obtain ⟨kx, xl, xh⟩ := x
  obtain ⟨ky, yl, yh⟩ := y
  cases kx with
  | zero => cases h
  | succ k =>
    cases ky with
    | zero => cases h
    | succ j =>
      have h : (match ri_nth E k with
        | some e => cond (Nat.beq e.2.1.1 (j + 1)) (some (Int.sub (Int.add e.2.1.2 xl) yh)) none
        | none => none) = some d := h
      rw [ri_nth_eq] at h
      cases hb : E[k]? with
      | none => rw [hb] at h; cases h
      | some e =>
        rw [hb] at h
        obtain ⟨c1, h⟩ := ri_cond h rfl
        cases h
        have c1 := Nat.eq_of_beq_eq_true c1
        obtain ⟨b, h1, -, -, h4, -⟩ := rt_tag hE hb
        obtain ⟨b', g1, g2, g3⟩ := hu
        obtain ⟨c, f1, f2, f3⟩ := hv
        have g1 : τ[k]? = some b' := g1
        have : b' = b := Option.some.inj (g1.symm.trans h1)
        subst this
        rcases h4 with h4 | ⟨c', h4, h5⟩
        · omega
        · rw [c1] at h4
          have : c' = c := Option.some.inj (h4.symm.trans f1)
          subst this
          have g2 : b' + xl ≤ u.toInt := g2
          have f3 : v.toInt ≤ c' + yh := f3
          show e.2.1.2 + xl - yh ≤ _
          omega
theorem rt_low_ok (hE : rt_okE E τ lm) {x y : ri_I} {d : Int} (h : rt_low E x y = some d) {u v : Int32} (hu : rt_gI τ x u) (hv : rt_gI τ y v) : d ≤ u.toInt - v.toInt := by
  unfold rt_low at h
  cases he : Nat.beq x.1 y.1 with
  | true =>
    rw [he] at h
    cases h
    have e := Nat.eq_of_beq_eq_true he
    obtain ⟨b, g1, g2, g3⟩ := hu
    obtain ⟨c, f1, f2, f3⟩ := hv
    rw [e] at g1
    have : b = c := Option.some.inj (g1.symm.trans f1)
    subst this
    show x.2.1 - y.2.2 ≤ _
    omega
  | false =>
    rw [he, cond_false] at h
    cases ha : rt_abs E x with
    | none => rw [ha] at h; cases h
    | some a =>
      cases hb : rt_abs E y with
      | none => rw [ha, hb] at h; cases h
      | some b =>
        rw [ha, hb] at h
        have h1 := rt_abs_ok hE ha hu
        have h2 := rt_abs_ok hE hb hv
        cases hr : rt_rel E x y with
        | none =>
          rw [hr] at h
          cases h
          show a.1 - b.2 ≤ _
          omega
        | some l =>
          rw [hr] at h
          cases h
          have := rt_rel_ok hE hr hu hv
          exact rt_max_le.mpr ⟨by show a.1 - b.2 ≤ _; omega, this⟩
theorem rt_add_ok (hE : rt_okE E τ lm) {x y z : ri_I} (h : rt_add E x y = some z) {u v : Int32} (hu : rt_gI τ x u) (hv : rt_gI τ y v) : rt_gI τ z (u + v) := by
  have key : ∀ lo hi : Int, lo ≤ u.toInt + v.toInt → u.toInt + v.toInt ≤ hi → ri_lo ≤ lo → hi ≤ ri_hi → lo ≤ (u + v).toInt ∧ (u + v).toInt ≤ hi := by
    intro lo hi h1 h2 h3 h4
    rw [Int32.toInt_add, ri_bm (by omega) (by omega)]
    exact ⟨h1, h2⟩
  obtain ⟨kx, xl, xh⟩ := x
  obtain ⟨ky, yl, yh⟩ := y
  cases ky with
  | zero =>
    have h : rt_mkT E kx (Int.add xl yl) (Int.add xh yh) = some z := h
    have hv := rt_gI_0.mp hv
    obtain ⟨b, g1, g2, g3⟩ := hu
    refine rt_mkT_ok hE h (fun c hc h3 h4 => ?_)
    have : c = b := Option.some.inj (hc.symm.trans g1)
    subst this
    have g2 : c + xl ≤ u.toInt := g2
    have g3 : u.toInt ≤ c + xh := g3
    exact key _ _ (by show c + (xl + yl) ≤ _; omega) (by show _ ≤ c + (xh + yh); omega) h3 h4
  | succ ky =>
    cases kx with
    | zero =>
      have h : rt_mkT E (ky + 1) (Int.add xl yl) (Int.add xh yh) = some z := h
      have hu := rt_gI_0.mp hu
      obtain ⟨b, g1, g2, g3⟩ := hv
      refine rt_mkT_ok hE h (fun c hc h3 h4 => ?_)
      have : c = b := Option.some.inj (hc.symm.trans g1)
      subst this
      have g2 : c + yl ≤ v.toInt := g2
      have g3 : v.toInt ≤ c + yh := g3
      exact key _ _ (by show c + (xl + yl) ≤ _; omega) (by show _ ≤ c + (xh + yh); omega) h3 h4
    | succ kx =>
      have h : (match rt_abs E (kx + 1, xl, xh) with
        | none => none
        | some a => (match rt_abs E (ky + 1, yl, yh) with
          | none => none
          | some b => some (ri_mk (Int.add a.1 b.1) (Int.add a.2 b.2)))) = some z := h
      cases ha : rt_abs E (kx + 1, xl, xh) with
      | none => rw [ha] at h; cases h
      | some a =>
        cases hb : rt_abs E (ky + 1, yl, yh) with
        | none => rw [ha, hb] at h; cases h
        | some b =>
          rw [ha, hb] at h
          cases h
          have h1 := rt_abs_ok hE ha hu
          have h2 := rt_abs_ok hE hb hv
          exact rt_mk_ok (fun h3 h4 => key _ _ (by show a.1 + b.1 ≤ _; omega) (by show _ ≤ a.2 + b.2; omega) h3 h4)
theorem rt_sub_ok (hE : rt_okE E τ lm) {x y z : ri_I} (h : rt_sub E x y = some z) {u v : Int32} (hu : rt_gI τ x u) (hv : rt_gI τ y v) : rt_gI τ z (u - v) := by
  have key : ∀ lo hi : Int, lo ≤ u.toInt - v.toInt → u.toInt - v.toInt ≤ hi → ri_lo ≤ lo → hi ≤ ri_hi → lo ≤ (u - v).toInt ∧ (u - v).toInt ≤ hi := by
    intro lo hi h1 h2 h3 h4
    rw [Int32.toInt_sub, ri_bm (by omega) (by omega)]
    exact ⟨h1, h2⟩
  obtain ⟨kx, xl, xh⟩ := x
  obtain ⟨ky, yl, yh⟩ := y
  cases ky with
  | zero =>
    have h : rt_mkT E kx (Int.sub xl yh) (Int.sub xh yl) = some z := h
    have hv := rt_gI_0.mp hv
    obtain ⟨b, g1, g2, g3⟩ := hu
    refine rt_mkT_ok hE h (fun c hc h3 h4 => ?_)
    have : c = b := Option.some.inj (hc.symm.trans g1)
    subst this
    have g2 : c + xl ≤ u.toInt := g2
    have g3 : u.toInt ≤ c + xh := g3
    exact key _ _ (by show c + (xl - yh) ≤ _; omega) (by show _ ≤ c + (xh - yl); omega) h3 h4
  | succ ky =>
    have h : cond (Nat.beq kx (ky + 1)) (some (ri_mk (Int.sub xl yh) (Int.sub xh yl))) (match rt_low E (kx, xl, xh) (ky + 1, yl, yh) with
      | none => none
      | some l => (match rt_abs E (kx, xl, xh) with
        | none => none
        | some a => (match rt_abs E (ky + 1, yl, yh) with
          | none => none
          | some b => some (ri_mk l (Int.sub a.2 b.1))))) = some z := h
    cases he : Nat.beq kx (ky + 1) with
    | true =>
      rw [he] at h
      cases h
      have e := Nat.eq_of_beq_eq_true he
      subst e
      obtain ⟨b, g1, g2, g3⟩ := hu
      obtain ⟨c, f1, f2, f3⟩ := hv
      have : b = c := Option.some.inj (g1.symm.trans f1)
      subst this
      have g2 : b + xl ≤ u.toInt := g2
      have g3 : u.toInt ≤ b + xh := g3
      have f2 : b + yl ≤ v.toInt := f2
      have f3 : v.toInt ≤ b + yh := f3
      exact rt_mk_ok (fun h3 h4 => key _ _ (by show xl - yh ≤ _; omega) (by show _ ≤ xh - yl; omega) h3 h4)
    | false =>
      rw [he, cond_false] at h
      cases hl : rt_low E (kx, xl, xh) (ky + 1, yl, yh) with
      | none => rw [hl] at h; cases h
      | some d =>
        cases ha : rt_abs E (kx, xl, xh) with
        | none => rw [hl, ha] at h; cases h
        | some a =>
          cases hb : rt_abs E (ky + 1, yl, yh) with
          | none => rw [hl, ha, hb] at h; cases h
          | some b =>
            rw [hl, ha, hb] at h
            cases h
            have h1 := rt_abs_ok hE ha hu
            have h2 := rt_abs_ok hE hb hv
            have h0 := rt_low_ok hE hl hu hv
            exact rt_mk_ok (fun h3 h4 => key _ _ h0 (by show _ ≤ a.2 - b.1; omega) h3 h4)
theorem rt_mulb {a b x y : Int} (h1 : a ≤ x) (h2 : x ≤ b) : (a * y ≤ x * y ∧ x * y ≤ b * y) ∨ (b * y ≤ x * y ∧ x * y ≤ a * y) := by
  rcases Int.le_total 0 y with h | h
  · exact Or.inl ⟨Int.mul_le_mul_of_nonneg_right h1 h, Int.mul_le_mul_of_nonneg_right h2 h⟩
  · exact Or.inr ⟨Int.mul_le_mul_of_nonpos_right h2 h, Int.mul_le_mul_of_nonpos_right h1 h⟩
theorem rt_mul_ok (hE : rt_okE E τ lm) {x y z : ri_I} (h : rt_mul E x y = some z) {u v : Int32} (hu : rt_gI τ x u) (hv : rt_gI τ y v) : rt_gI τ z (u * v) := by
  unfold rt_mul at h
  cases ha : rt_abs E x with
  | none => rw [ha] at h; cases h
  | some a =>
    cases hb : rt_abs E y with
    | none => rw [ha, hb] at h; cases h
    | some b =>
      rw [ha, hb] at h
      cases h
      obtain ⟨a1, a2⟩ := rt_abs_ok hE ha hu
      obtain ⟨b1, b2⟩ := rt_abs_ok hE hb hv
      have m1 := rt_mulb (y := v.toInt) a1 a2
      have m2 := rt_mulb (y := a.1) b1 b2
      have m3 := rt_mulb (y := a.2) b1 b2
      rw [Int.mul_comm b.1 a.1, Int.mul_comm v.toInt a.1, Int.mul_comm b.2 a.1] at m2
      rw [Int.mul_comm b.1 a.2, Int.mul_comm v.toInt a.2, Int.mul_comm b.2 a.2] at m3
      refine rt_mk_ok (fun h3 h4 => ?_)
      have e1 : Int.mul a.1 b.1 = a.1 * b.1 := rfl
      have e2 : Int.mul a.1 b.2 = a.1 * b.2 := rfl
      have e3 : Int.mul a.2 b.1 = a.2 * b.1 := rfl
      have e4 : Int.mul a.2 b.2 = a.2 * b.2 := rfl
      rw [e1, e2, e3, e4] at h3 h4 ⊢
      have lo : rt_min (rt_min (a.1 * b.1) (a.1 * b.2)) (rt_min (a.2 * b.1) (a.2 * b.2)) ≤ u.toInt * v.toInt := by
        rw [rt_min_le, rt_min_le, rt_min_le]
        generalize a.1 * b.1 = p1 at *
        generalize a.1 * b.2 = p2 at *
        generalize a.2 * b.1 = p3 at *
        generalize a.2 * b.2 = p4 at *
        generalize a.1 * v.toInt = p5 at *
        generalize a.2 * v.toInt = p6 at *
        generalize u.toInt * v.toInt = p7 at *
        omega
      have hi : u.toInt * v.toInt ≤ rt_max (rt_max (a.1 * b.1) (a.1 * b.2)) (rt_max (a.2 * b.1) (a.2 * b.2)) := by
        rw [rt_le_max, rt_le_max, rt_le_max]
        generalize a.1 * b.1 = p1 at *
        generalize a.1 * b.2 = p2 at *
        generalize a.2 * b.1 = p3 at *
        generalize a.2 * b.2 = p4 at *
        generalize a.1 * v.toInt = p5 at *
        generalize a.2 * v.toInt = p6 at *
        generalize u.toInt * v.toInt = p7 at *
        omega
      rw [Int32.toInt_mul, ri_bm (by omega) (by omega)]
      exact ⟨lo, hi⟩
theorem rt_nz_ok {b : Int × Int} (h : rt_nz b = true) {v : Int32} (hv : b.1 ≤ v.toInt ∧ v.toInt ≤ b.2) : ¬ v = 0 := by
  intro e
  subst e
  have e0 : (0 : Int32).toInt = 0 := rfl
  unfold rt_nz at h
  cases c1 : ri_le 1 b.1 with
  | true =>
    have := ri_le_iff.mp c1
    omega
  | false =>
    rw [c1, cond_false] at h
    have := ri_le_iff.mp h
    omega
theorem rt_div_ok (hE : rt_okE E τ lm) {x y z : ri_I} (h : rt_div E x y = some z) {u v : Int32} (hu : rt_gI τ x u) (hv : rt_gI τ y v) : ¬ v = 0 ∧ rt_gI τ z (u / v) := by
  unfold rt_div at h
  cases ha : rt_abs E x with
  | none => rw [ha] at h; cases h
  | some a =>
    cases hb : rt_abs E y with
    | none => rw [ha, hb] at h; cases h
    | some b =>
      rw [ha, hb] at h
      obtain ⟨c1, h⟩ := ri_cond h rfl
      have h1 := rt_abs_ok hE ha hu
      have h2 := rt_abs_ok hE hb hv
      refine ⟨rt_nz_ok c1 h2, ?_⟩
      obtain ⟨a1, a2⟩ := a
      obtain ⟨b1, b2⟩ := b
      cases a1 with
      | negSucc _ => cases h; exact rt_gI_top τ _
      | ofNat a1 =>
        cases a2 with
        | negSucc _ => cases h; exact rt_gI_top τ _
        | ofNat a2 =>
          cases b1 with
          | negSucc _ => cases h; exact rt_gI_top τ _
          | ofNat b1 =>
            cases b2 with
            | negSucc _ => cases h; exact rt_gI_top τ _
            | ofNat b2 =>
              have h : cond (Nat.beq b1 b2) (some (ri_mk (.ofNat (Nat.div a1 b1)) (.ofNat (Nat.div a2 b1)))) (some ri_top) = some z := h
              cases c2 : Nat.beq b1 b2 with
              | false => rw [c2] at h; cases h; exact rt_gI_top τ _
              | true =>
                rw [c2] at h
                cases h
                have e := Nat.eq_of_beq_eq_true c2
                subst e
                have h1 : (a1 : Int) ≤ u.toInt ∧ u.toInt ≤ (a2 : Int) := h1
                have h2 : (b1 : Int) ≤ v.toInt ∧ v.toInt ≤ (b1 : Int) := h2
                have hb0 : 1 ≤ b1 := by
                  unfold rt_nz at c1
                  cases c3 : ri_le 1 (Int.ofNat b1) with
                  | true =>
                    have : (1 : Int) ≤ (b1 : Int) := ri_le_iff.mp c3
                    omega
                  | false =>
                    have c1 : cond (ri_le 1 (Int.ofNat b1)) true (ri_le (Int.ofNat b1) (-1)) = true := c1
                    rw [c3, cond_false] at c1
                    have : (b1 : Int) ≤ -1 := ri_le_iff.mp c1
                    omega
                refine rt_mk_ok (fun h3 h4 => ?_)
                obtain ⟨n, hn⟩ : ∃ n : Nat, u.toInt = (n : Int) := ⟨u.toInt.toNat, by omega⟩
                have ev : v.toInt = (b1 : Int) := by omega
                have hu32 := ri_i32 u
                have e3 : (u / v).toInt = ((n / b1 : Nat) : Int) := by
                  rw [Int32.toInt_div, hn, ev, show ((n : Int).tdiv (b1 : Int)) = ((n / b1 : Nat) : Int) from rfl]
                  have hle : n / b1 ≤ n := Nat.div_le_self _ _
                  unfold ri_lo ri_hi at hu32
                  generalize n / b1 = k at hle ⊢
                  exact ri_bm (by unfold ri_lo; omega) (by unfold ri_hi; omega)
                rw [e3]
                have l1 : a1 / b1 ≤ n / b1 := Nat.div_le_div_right (by omega)
                have l2 : n / b1 ≤ a2 / b1 := Nat.div_le_div_right (by omega)
                exact ⟨Int.ofNat_le.mpr l1, Int.ofNat_le.mpr l2⟩
theorem rt_rem_ok (hE : rt_okE E τ lm) {x y z : ri_I} (h : rt_rem E x y = some z) {u v : Int32} (hv : rt_gI τ y v) : ¬ v = 0 ∧ rt_gI τ z (u - u / v * v) := by
  unfold rt_rem at h
  cases hb : rt_abs E y with
  | none => rw [hb] at h; cases h
  | some b =>
    rw [hb] at h
    obtain ⟨c1, h⟩ := ri_cond h rfl
    cases h
    exact ⟨rt_nz_ok c1 (rt_abs_ok hE hb hv), rt_gI_top τ _⟩
theorem rt_neg_ok (hE : rt_okE E τ lm) {x z : ri_I} (h : rt_neg E x = some z) {u : Int32} (hu : rt_gI τ x u) : rt_gI τ z (-u) := by
  unfold rt_neg at h
  cases ha : rt_abs E x with
  | none => rw [ha] at h; cases h
  | some a =>
    rw [ha] at h
    cases h
    have h1 := rt_abs_ok hE ha hu
    refine rt_mk_ok (fun h3 h4 => ?_)
    have h3 : ri_lo ≤ -a.2 := h3
    have h4 : -a.1 ≤ ri_hi := h4
    rw [Int32.toInt_neg, ri_bm (by omega) (by omega)]
    show -a.2 ≤ _ ∧ _ ≤ -a.1
    omega
theorem rt_i2b_ok (hE : rt_okE E τ lm) {x z : ri_I} (h : rt_i2b E x = some z) {u : Int32} (hu : rt_gI τ x u) : rt_gI τ z (u.toInt8.toInt32) := by
  unfold rt_i2b at h
  have wide : rt_gI τ (0, -128, 127) (u.toInt8.toInt32) := rt_gI_0.mpr (by
    rw [Int8.toInt_toInt32]
    have h1 := u.toInt8.le_toInt
    have h2 := u.toInt8.toInt_lt
    omega)
  cases ha : rt_abs E x with
  | none => rw [ha] at h; cases h
  | some a =>
    rw [ha] at h
    have h1 := rt_abs_ok hE ha hu
    have h : cond (ri_le (-128) a.1) (cond (ri_le a.2 127) (some x) (some (0, -128, 127))) (some (0, -128, 127)) = some z := h
    cases c1 : ri_le (-128) a.1 with
    | false => rw [c1] at h; cases h; exact wide
    | true =>
      cases c2 : ri_le a.2 127 with
      | false => rw [c1, c2] at h; cases h; exact wide
      | true =>
        rw [c1, c2] at h
        cases h
        have c1 := ri_le_iff.mp c1
        have c2 := ri_le_iff.mp c2
        have e : u.toInt8.toInt32 = u := by
          apply Int32.toInt_inj.mp
          rw [Int8.toInt_toInt32, Int32.toInt_toInt8, Int.bmod_def]
          omega
        rw [e]
        exact hu
end RT42
/-! Branches -/
theorem rt_put_len {E E' : List rt_B} {t : Nat} {e : rt_B} (h : rt_put E t e = some E') : E' = E.set t e := by
  unfold rt_put at h
  obtain ⟨c1, h⟩ := ri_cond h rfl
  cases c2 : ri_le e.1.2 e.1.1 with
  | false =>
    rw [c2] at h
    cases h
    exact ri_set_eq e E t
  | true =>
    rw [c2] at h
    cases c3 : e.2.2.1 with
    | none =>
      rw [c3] at h
      cases h
      exact ri_set_eq e E t
    | some c =>
      rw [c3] at h
      have h : cond (ri_le c e.1.1) (cond (ri_le e.1.1 c) none (some (ri_set e E t))) (some (ri_set e E t)) = some E' := h
      cases c4 : ri_le c e.1.1 with
      | false =>
        rw [c4] at h
        cases h
        exact ri_set_eq e E t
      | true =>
        rw [c4] at h
        cases c5 : ri_le e.1.1 c with
        | false =>
          rw [c5] at h
          cases h
          exact ri_set_eq e E t
        | true =>
          rw [c5] at h
          cases h
section RT42b
variable {E : List rt_B} {τ : List Int} {lm : List Int64}
theorem rt_okE_set (hE : rt_okE E τ lm) {t : Nat} {e : rt_B} {b : Int} (hb : τ[t]? = some b) (h : rt_okB τ lm e b) : rt_okE (E.set t e) τ lm := by
  refine ⟨by rw [List.length_set]; exact hE.1, fun k e' b' h1 h2 => ?_⟩
  rw [List.getElem?_set] at h1
  by_cases e0 : t = k
  · subst e0
    rw [if_pos rfl] at h1
    have : b' = b := Option.some.inj (h2.symm.trans hb)
    subst this
    split at h1
    · cases h1
      exact h
    · cases h1
  · rw [if_neg e0] at h1
    exact hE.2 k e' b' h1 h2
/-- a tag's new words hold: so there is something left -/
theorem rt_put_ok (hE : rt_okE E τ lm) {t : Nat} {e : rt_B} {b : Int} (hb : τ[t]? = some b) (h : rt_okB τ lm e b) : ∃ E', rt_put E t e = some E' ∧ rt_okE E' τ lm := by
  have hs := rt_okE_set hE hb h
  obtain ⟨h1, h2, -, h4, -⟩ := h
  unfold rt_put
  rw [ri_le_iff.mpr (show e.1.1 ≤ e.1.2 by omega), cond_true]
  cases c2 : ri_le e.1.2 e.1.1 with
  | false => exact ⟨_, rfl, by rw [ri_set_eq]; exact hs⟩
  | true =>
    have c2 := ri_le_iff.mp c2
    rw [cond_true]
    cases c3 : e.2.2.1 with
    | none => exact ⟨_, rfl, by rw [ri_set_eq]; exact hs⟩
    | some c =>
      have hne := h4 c c3
      show ∃ E', cond (ri_le c e.1.1) (cond (ri_le e.1.1 c) none (some (ri_set e E t))) (some (ri_set e E t)) = some E' ∧ _
      cases c4 : ri_le c e.1.1 with
      | false => exact ⟨_, rfl, by rw [ri_set_eq]; exact hs⟩
      | true =>
        rw [cond_true]
        cases c5 : ri_le e.1.1 c with
        | false => exact ⟨_, rfl, by rw [ri_set_eq]; exact hs⟩
        | true =>
          have c4 := ri_le_iff.mp c4
          have c5 := ri_le_iff.mp c5
          exact absurd (show b = c by omega) hne
/-- what an exact int says of its tag -/
theorem rt_tx_ok {x : ri_I} (h : rt_tx x = true) {u : Int32} (hu : rt_gI τ x u) : ∃ t b, x.1 = t + 1 ∧ τ[t]? = some b ∧ u.toInt = b + x.2.1 := by
  unfold rt_tx at h
  obtain ⟨k, lo, hi⟩ := x
  cases k with
  | zero => cases h
  | succ t =>
    have h : ri_le hi lo = true := h
    have h := ri_le_iff.mp h
    obtain ⟨b, h1, h2, h3⟩ := hu
    have h2 : b + lo ≤ u.toInt := h2
    have h3 : u.toInt ≤ b + hi := h3
    exact ⟨t, b, rfl, h1, by show _ = b + lo; omega⟩
theorem rt_slo_ok (hE : rt_okE E τ lm) {x : ri_I} (hx : rt_tx x = true) {a : Int} {u : Int32} (hu : rt_gI τ x u) (ha : a ≤ u.toInt) : ∃ E', rt_slo E x a = some E' ∧ rt_okE E' τ lm := by
  obtain ⟨t, b, e1, e2, e3⟩ := rt_tx_ok hx hu
  unfold rt_slo
  rw [e1]
  show ∃ E', (match ri_nth E t with
    | none => some E
    | some e => rt_put E t ((rt_max e.1.1 (Int.sub a x.2.1), e.1.2), e.2)) = some E' ∧ _
  rw [ri_nth_eq]
  cases he : E[t]? with
  | none => exact ⟨E, rfl, hE⟩
  | some e =>
    obtain ⟨h1, h2, h3⟩ := hE.2 t e b he e2
    exact rt_put_ok hE e2 ⟨rt_max_le.mpr ⟨h1, by show a - x.2.1 ≤ b; omega⟩, h2, h3⟩
theorem rt_shi_ok (hE : rt_okE E τ lm) {x : ri_I} (hx : rt_tx x = true) {a : Int} {u : Int32} (hu : rt_gI τ x u) (ha : u.toInt ≤ a) : ∃ E', rt_shi E x a = some E' ∧ rt_okE E' τ lm := by
  obtain ⟨t, b, e1, e2, e3⟩ := rt_tx_ok hx hu
  unfold rt_shi
  rw [e1]
  show ∃ E', (match ri_nth E t with
    | none => some E
    | some e => rt_put E t ((e.1.1, rt_min e.1.2 (Int.sub a x.2.1)), e.2)) = some E' ∧ _
  rw [ri_nth_eq]
  cases he : E[t]? with
  | none => exact ⟨E, rfl, hE⟩
  | some e =>
    obtain ⟨h1, h2, h3⟩ := hE.2 t e b he e2
    exact rt_put_ok hE e2 ⟨h1, rt_le_min.mpr ⟨h2, by show b ≤ a - x.2.1; omega⟩, h3⟩
theorem rt_srl_ok (hE : rt_okE E τ lm) {x y : ri_I} (hx : rt_tx x = true) (hy : rt_tx y = true) {d : Int} {u v : Int32} (hu : rt_gI τ x u) (hv : rt_gI τ y v) (ha : v.toInt + d ≤ u.toInt) : rt_okE (rt_srl E x y d) τ lm := by
  obtain ⟨t, b, e1, e2, e3⟩ := rt_tx_ok hx hu
  obtain ⟨j, c, f1, f2, f3⟩ := rt_tx_ok hy hv
  unfold rt_srl
  rw [e1]
  show rt_okE (match ri_nth E t with
    | none => E
    | some e => cond (cond (Nat.beq e.2.1.1 0) true (cond (Nat.beq e.2.1.1 y.1) (ri_le e.2.1.2 (Int.sub (Int.add y.2.1 d) x.2.1)) false)) (ri_set (e.1, (y.1, Int.sub (Int.add y.2.1 d) x.2.1), e.2.2) E t) E) τ lm
  rw [ri_nth_eq]
  cases he : E[t]? with
  | none => exact hE
  | some e =>
    show rt_okE (cond (cond (Nat.beq e.2.1.1 0) true (cond (Nat.beq e.2.1.1 y.1) (ri_le e.2.1.2 (Int.sub (Int.add y.2.1 d) x.2.1)) false)) (ri_set (e.1, (y.1, Int.sub (Int.add y.2.1 d) x.2.1), e.2.2) E t) E) τ lm
    cases c1 : cond (Nat.beq e.2.1.1 0) true (cond (Nat.beq e.2.1.1 y.1) (ri_le e.2.1.2 (Int.sub (Int.add y.2.1 d) x.2.1)) false) with
    | false => exact hE
    | true =>
      rw [cond_true, ri_set_eq]
      obtain ⟨h1, h2, h3, h4⟩ := hE.2 t e b he e2
      refine rt_okE_set hE e2 ⟨h1, h2, Or.inr ⟨c, by rw [f1]; exact f2, ?_⟩, h4⟩
      show c + (y.2.1 + d - x.2.1) ≤ b
      omega
theorem rt_sne_ok (hE : rt_okE E τ lm) {x : ri_I} (hx : rt_tx x = true) {a : Int} {u : Int32} (hu : rt_gI τ x u) (ha : u.toInt ≠ a) : ∃ E', rt_sne E x a = some E' ∧ rt_okE E' τ lm := by
  obtain ⟨t, b, e1, e2, e3⟩ := rt_tx_ok hx hu
  unfold rt_sne
  rw [e1]
  show ∃ E', (match ri_nth E t with
    | none => some E
    | some e => cond (ri_le e.1.1 (Int.sub a x.2.1)) (cond (ri_le (Int.sub a x.2.1) e.1.1) (rt_put E t ((Int.add e.1.1 1, e.1.2), e.2)) (cond (ri_le e.1.2 (Int.sub a x.2.1)) (cond (ri_le (Int.sub a x.2.1) e.1.2) (rt_put E t ((e.1.1, Int.sub e.1.2 1), e.2)) (some E)) (rt_put E t (e.1, e.2.1, some (Int.sub a x.2.1), e.2.2.2)))) (some E)) = some E' ∧ _
  rw [ri_nth_eq]
  cases he : E[t]? with
  | none => exact ⟨E, rfl, hE⟩
  | some e =>
    obtain ⟨h1, h2, h3, h4, h5⟩ := hE.2 t e b he e2
    have es : Int.sub a x.2.1 = a - x.2.1 := rfl
    show ∃ E', cond (ri_le e.1.1 (Int.sub a x.2.1)) (cond (ri_le (Int.sub a x.2.1) e.1.1) (rt_put E t ((Int.add e.1.1 1, e.1.2), e.2)) (cond (ri_le e.1.2 (Int.sub a x.2.1)) (cond (ri_le (Int.sub a x.2.1) e.1.2) (rt_put E t ((e.1.1, Int.sub e.1.2 1), e.2)) (some E)) (rt_put E t (e.1, e.2.1, some (Int.sub a x.2.1), e.2.2.2)))) (some E) = some E' ∧ _
    rw [es]
    cases c1 : ri_le e.1.1 (a - x.2.1) with
    | false => exact ⟨E, rfl, hE⟩
    | true =>
      rw [cond_true]
      cases c2 : ri_le (a - x.2.1) e.1.1 with
      | true =>
        have c1 := ri_le_iff.mp c1
        have c2 := ri_le_iff.mp c2
        exact rt_put_ok hE e2 ⟨by show e.1.1 + 1 ≤ b; omega, h2, h3, h4, h5⟩
      | false =>
        rw [cond_false]
        cases c3 : ri_le e.1.2 (a - x.2.1) with
        | true =>
          rw [cond_true]
          cases c4 : ri_le (a - x.2.1) e.1.2 with
          | true =>
            have c3 := ri_le_iff.mp c3
            have c4 := ri_le_iff.mp c4
            exact rt_put_ok hE e2 ⟨h1, by show b ≤ e.1.2 - 1; omega, h3, h4, h5⟩
          | false => exact ⟨E, rfl, hE⟩
        | false =>
          refine rt_put_ok hE e2 ⟨h1, h2, h3, fun c hc => ?_, h5⟩
          have hc : some (a - x.2.1) = some c := hc
          cases hc
          omega
theorem rt_isne_ok (hE : rt_okE E τ lm) {x : ri_I} (hx : rt_tx x = true) {a : Int} {u : Int32} (hu : rt_gI τ x u) (h : rt_isne E x a = true) : u.toInt ≠ a := by
  obtain ⟨t, b, e1, e2, e3⟩ := rt_tx_ok hx hu
  unfold rt_isne at h
  rw [e1] at h
  have h : (match ri_nth E t with
    | none => false
    | some e => (match e.2.2.1 with
      | none => false
      | some c => cond (ri_le c (Int.sub a x.2.1)) (ri_le (Int.sub a x.2.1) c) false)) = true := h
  rw [ri_nth_eq] at h
  cases he : E[t]? with
  | none => rw [he] at h; cases h
  | some e =>
    rw [he] at h
    obtain ⟨h1, h2, h3, h4, h5⟩ := hE.2 t e b he e2
    cases hc : e.2.2.1 with
    | none =>
      have h : (match e.2.2.1 with
        | none => false
        | some c => cond (ri_le c (Int.sub a x.2.1)) (ri_le (Int.sub a x.2.1) c) false) = true := h
      rw [hc] at h
      cases h
    | some c =>
      have h : (match e.2.2.1 with
        | none => false
        | some c => cond (ri_le c (Int.sub a x.2.1)) (ri_le (Int.sub a x.2.1) c) false) = true := h
      rw [hc] at h
      have h : cond (ri_le c (a - x.2.1)) (ri_le (a - x.2.1) c) false = true := h
      cases c1 : ri_le c (a - x.2.1) with
      | false => rw [c1] at h; cases h
      | true =>
        rw [c1] at h
        have c1 := ri_le_iff.mp c1
        have c2 : a - x.2.1 ≤ c := ri_le_iff.mp h
        have := h4 c hc
        omega
theorem rt_ge0_ok (hE : rt_okE E τ lm) {x y : ri_I} {d : Int} (h : rt_ge0 (rt_low E x y) d = true) {u v : Int32} (hu : rt_gI τ x u) (hv : rt_gI τ y v) : d ≤ u.toInt - v.toInt := by
  unfold rt_ge0 at h
  cases hl : rt_low E x y with
  | none => rw [hl] at h; cases h
  | some l =>
    rw [hl] at h
    have := ri_le_iff.mp h
    have := rt_low_ok hE hl hu hv
    omega
theorem rt_bd_ok {o : Option (List rt_B)} {f : List rt_B → Option (List rt_B)} (ho : ∃ E', o = some E' ∧ rt_okE E' τ lm) (hf : ∀ E', rt_okE E' τ lm → ∃ E2, f E' = some E2 ∧ rt_okE E2 τ lm) : ∃ E2, rt_bd o f = some E2 ∧ rt_okE E2 τ lm := by
  obtain ⟨E', rfl, h⟩ := ho
  exact hf E' h
theorem rt_cx (hE : rt_okE E τ lm) {b : Bool} {o : Option (List rt_B)} (h : b = true → ∃ E', o = some E' ∧ rt_okE E' τ lm) : ∃ E', cond b o (some E) = some E' ∧ rt_okE E' τ lm := by
  cases b with
  | true => exact h rfl
  | false => exact ⟨E, rfl, hE⟩
theorem rt_rlt_ok (hE : rt_okE E τ lm) {x y : ri_I} {u v : Int32} (hu : rt_gI τ x u) (hv : rt_gI τ y v) (h : u.toInt < v.toInt) : ∃ E', rt_rlt E x y = some E' ∧ rt_okE E' τ lm := by
  unfold rt_rlt
  cases c0 : rt_ge0 (rt_low E x y) 0 with
  | true =>
    have := rt_ge0_ok hE c0 hu hv
    omega
  | false =>
    rw [cond_false]
    cases c1 : Nat.beq x.1 y.1 with
    | true => exact ⟨E, rfl, hE⟩
    | false =>
      rw [cond_false]
      cases ha : rt_abs E x with
      | none => exact ⟨E, rfl, hE⟩
      | some a =>
        cases hb : rt_abs E y with
        | none => exact ⟨E, rfl, hE⟩
        | some b =>
          have h1 := rt_abs_ok hE ha hu
          have h2 := rt_abs_ok hE hb hv
          show ∃ E', rt_bd (cond (rt_tx x) (rt_shi E x (Int.sub b.2 1)) (some E)) (fun E1 => cond (rt_tx y) (rt_bd (rt_slo E1 y (Int.add a.1 1)) (fun E2 => some (cond (rt_tx x) (rt_srl E2 y x 1) E2))) (some E1)) = some E' ∧ _
          refine rt_bd_ok (rt_cx hE (fun q => rt_shi_ok hE q hu (by show _ ≤ b.2 - 1; omega))) (fun E1 h1' => rt_cx h1' (fun qy => rt_bd_ok (rt_slo_ok h1' qy hv (by show a.1 + 1 ≤ _; omega)) (fun E2 h2' => ⟨_, rfl, ?_⟩)))
          cases qx : rt_tx x with
          | false => exact h2'
          | true => exact rt_srl_ok h2' qy qx hv hu (by omega)
theorem rt_rge_ok (hE : rt_okE E τ lm) {x y : ri_I} {u v : Int32} (hu : rt_gI τ x u) (hv : rt_gI τ y v) (h : v.toInt ≤ u.toInt) : ∃ E', rt_rge E x y = some E' ∧ rt_okE E' τ lm := by
  unfold rt_rge
  cases c0 : rt_ge0 (rt_low E y x) 1 with
  | true =>
    have := rt_ge0_ok hE c0 hv hu
    omega
  | false =>
    rw [cond_false]
    cases c1 : Nat.beq x.1 y.1 with
    | true => exact ⟨E, rfl, hE⟩
    | false =>
      rw [cond_false]
      cases ha : rt_abs E x with
      | none => exact ⟨E, rfl, hE⟩
      | some a =>
        cases hb : rt_abs E y with
        | none => exact ⟨E, rfl, hE⟩
        | some b =>
          have h1 := rt_abs_ok hE ha hu
          have h2 := rt_abs_ok hE hb hv
          show ∃ E', rt_bd (cond (rt_tx x) (rt_bd (rt_slo E x b.1) (fun E2 => some (cond (rt_tx y) (rt_srl E2 x y 0) E2))) (some E)) (fun E1 => cond (rt_tx y) (rt_shi E1 y a.2) (some E1)) = some E' ∧ _
          refine rt_bd_ok (rt_cx hE (fun qx => rt_bd_ok (rt_slo_ok hE qx hu (by omega)) (fun E2 h2' => ⟨_, rfl, ?_⟩))) (fun E1 h1' => rt_cx h1' (fun qy => rt_shi_ok h1' qy hv (by omega)))
          cases qy : rt_tx y with
          | false => exact h2'
          | true => exact rt_srl_ok h2' qx qy hu hv (by omega)
theorem rt_req_ok (hE : rt_okE E τ lm) {x y : ri_I} {u v : Int32} (hu : rt_gI τ x u) (hv : rt_gI τ y v) (h : u.toInt = v.toInt) : ∃ E', rt_req E x y = some E' ∧ rt_okE E' τ lm := by
  unfold rt_req
  cases c0 : rt_ge0 (rt_low E x y) 1 with
  | true =>
    have := rt_ge0_ok hE c0 hu hv
    omega
  | false =>
    rw [cond_false]
    cases c0' : rt_ge0 (rt_low E y x) 1 with
    | true =>
      have := rt_ge0_ok hE c0' hv hu
      omega
    | false =>
      rw [cond_false]
      cases c1 : Nat.beq x.1 y.1 with
      | true => exact ⟨E, rfl, hE⟩
      | false =>
        rw [cond_false]
        cases ha : rt_abs E x with
        | none => exact ⟨E, rfl, hE⟩
        | some a =>
          cases hb : rt_abs E y with
          | none => exact ⟨E, rfl, hE⟩
          | some b =>
            have h1 := rt_abs_ok hE ha hu
            have h2 := rt_abs_ok hE hb hv
            show ∃ E', cond (cond (ri_le b.2 b.1) (cond (rt_tx x) (rt_isne E x b.1) false) false) none (rt_bd (cond (rt_tx x) (rt_bd (rt_slo E x b.1) (fun E2 => rt_shi E2 x b.2)) (some E)) (fun E1 => cond (rt_tx y) (rt_bd (rt_slo E1 y a.1) (fun E2 => rt_shi E2 y a.2)) (some E1))) = some E' ∧ _
            have c2 : cond (ri_le b.2 b.1) (cond (rt_tx x) (rt_isne E x b.1) false) false = false := by
              cases d1 : ri_le b.2 b.1 with
              | false => rfl
              | true =>
                cases d2 : rt_tx x with
                | false => rfl
                | true =>
                  cases d3 : rt_isne E x b.1 with
                  | false => rfl
                  | true =>
                    have d1 := ri_le_iff.mp d1
                    have := rt_isne_ok hE d2 hu d3
                    omega
            rw [c2, cond_false]
            exact rt_bd_ok (rt_cx hE (fun qx => rt_bd_ok (rt_slo_ok hE qx hu (by omega)) (fun E2 h2' => rt_shi_ok h2' qx hu (by omega)))) (fun E1 h1' => rt_cx h1' (fun qy => rt_bd_ok (rt_slo_ok h1' qy hv (by omega)) (fun E2 h2' => rt_shi_ok h2' qy hv (by omega))))
theorem rt_rne_ok (hE : rt_okE E τ lm) {x y : ri_I} {u v : Int32} (hu : rt_gI τ x u) (hv : rt_gI τ y v) (h : ¬ u.toInt = v.toInt) : ∃ E', rt_rne E x y = some E' ∧ rt_okE E' τ lm := by
  unfold rt_rne
  cases c1 : Nat.beq x.1 y.1 with
  | true =>
    rw [cond_true]
    have c2 : cond (rt_ex x) (cond (rt_ex y) (cond (ri_le x.2.1 y.2.1) (ri_le y.2.1 x.2.1) false) false) false = false := by
      cases d1 : rt_ex x with
      | false => rfl
      | true =>
        cases d2 : rt_ex y with
        | false => rfl
        | true =>
          cases d3 : ri_le x.2.1 y.2.1 with
          | false => rfl
          | true =>
            cases d4 : ri_le y.2.1 x.2.1 with
            | false => rfl
            | true =>
              have d1 := ri_le_iff.mp d1
              have d2 := ri_le_iff.mp d2
              have d3 := ri_le_iff.mp d3
              have d4 := ri_le_iff.mp d4
              have e := Nat.eq_of_beq_eq_true c1
              obtain ⟨b, g1, g2, g3⟩ := hu
              obtain ⟨c, f1, f2, f3⟩ := hv
              rw [e] at g1
              have : b = c := Option.some.inj (g1.symm.trans f1)
              subst this
              exact absurd (by omega) h
    rw [c2]
    exact ⟨E, rfl, hE⟩
  | false =>
    rw [cond_false]
    cases ha : rt_abs E x with
    | none => exact ⟨E, rfl, hE⟩
    | some a =>
      cases hb : rt_abs E y with
      | none => exact ⟨E, rfl, hE⟩
      | some b =>
        have h1 := rt_abs_ok hE ha hu
        have h2 := rt_abs_ok hE hb hv
        show ∃ E', cond (ri_le b.2 b.1) (cond (rt_tx x) (rt_sne E x b.1) (cond (ri_le a.2 a.1) (cond (ri_le a.1 b.1) (cond (ri_le b.1 a.1) none (some E)) (some E)) (some E))) (some E) = some E' ∧ _
        refine rt_cx hE (fun d1 => ?_)
        have d1 := ri_le_iff.mp d1
        cases qx : rt_tx x with
        | true => exact rt_sne_ok hE qx hu (by omega)
        | false =>
          rw [cond_false]
          refine rt_cx hE (fun d2 => ?_)
          have d2 := ri_le_iff.mp d2
          refine rt_cx hE (fun d3 => ?_)
          have d3 := ri_le_iff.mp d3
          cases d4 : ri_le b.1 a.1 with
          | false => exact ⟨E, rfl, hE⟩
          | true =>
            have d4 := ri_le_iff.mp d4
            exact absurd (by omega) h
theorem rt_ref_ok (hE : rt_okE E τ lm) {c : Jvm.ClassFile.Cond} {x y : ri_I} {u v : Int32} (hu : rt_gI τ x u) (hv : rt_gI τ y v) (h : ri_hold c u.toInt v.toInt) : ∃ E', rt_ref c E x y = some E' ∧ rt_okE E' τ lm := by
  cases c with
  | eq => exact rt_req_ok hE hu hv h
  | ne => exact rt_rne_ok hE hu hv h
  | lt => exact rt_rlt_ok hE hu hv h
  | ge => exact rt_rge_ok hE hu hv h
  | gt => exact rt_rlt_ok hE hv hu h
  | le => exact rt_rge_ok hE hv hu h
theorem rt_cn_ok {c : Jvm.ClassFile.Cond} {a b : Int} (h : ¬ ri_hold c a b) : ri_hold (rt_cn c) a b := by
  cases c with
  | eq => exact h
  | ne => exact Classical.not_not.mp h
  | lt =>
    have h : ¬ a < b := h
    show b ≤ a
    omega
  | ge =>
    have h : ¬ b ≤ a := h
    show a < b
    omega
  | gt =>
    have h : ¬ b < a := h
    show a ≤ b
    omega
  | le =>
    have h : ¬ a ≤ b := h
    show b < a
    omega
end RT42b
