/-! What the abstract values mean, and the laws of the interpreter's sums -/
theorem ri_nth_eq {α : Type} (l : List α) : ∀ n : Nat, ri_nth l n = l[n]? := by
  induction l with
  | nil => intro n; rfl
  | cons a t ih =>
    intro n
    cases n with
    | zero => rfl
    | succ m => exact ih m
theorem ri_set_eq {α : Type} (v : α) (l : List α) : ∀ n : Nat, ri_set v l n = l.set n v := by
  induction l with
  | nil => intro n; rfl
  | cons a t ih =>
    intro n
    cases n with
    | zero => rfl
    | succ m => exact congrArg (a :: ·) (ih m)
theorem ri_len_eq {α : Type} (l : List α) : ri_len l = l.length := by
  induction l with
  | nil => rfl
  | cons a t ih => exact congrArg Nat.succ ih
theorem ri_le_iff {a b : Int} : ri_le a b = true ↔ a ≤ b := by
  cases a with
  | ofNat m =>
    cases b with
    | ofNat n =>
      show Nat.ble m n = true ↔ _
      rw [Nat.ble_eq]
      exact Int.ofNat_le.symm
    | negSucc n =>
      show false = true ↔ _
      constructor
      · intro h; cases h
      · intro h
        have h : (m : Int) ≤ Int.negSucc n := h
        omega
  | negSucc m =>
    cases b with
    | ofNat n =>
      show true = true ↔ _
      exact ⟨fun _ => by show Int.negSucc m ≤ (n : Int); omega, fun _ => rfl⟩
    | negSucc n =>
      show Nat.ble n m = true ↔ _
      rw [Nat.ble_eq]
      omega
theorem ri_lt_iff {a b : Int} : ri_lt a b = true ↔ a < b := by
  unfold ri_lt
  cases h : ri_le b a with
  | true =>
    have := ri_le_iff.mp h
    simp only [cond_true]
    constructor
    · intro h; cases h
    · intro h; omega
  | false =>
    have : ¬ b ≤ a := fun q => by rw [ri_le_iff.mpr q] at h; cases h
    show true = true ↔ _
    exact ⟨fun _ => by omega, fun _ => rfl⟩
theorem ri_cond {α : Type} {b : Bool} {x y : Option α} {z : α} (h : cond b x y = some z) (hy : y = none) : b = true ∧ x = some z := by
  cases b with
  | true => exact ⟨rfl, h⟩
  | false => rw [cond_false, hy] at h; cases h
def ri_bs (τ : Nat → Int) (k : Nat) : Int := match k with
  | 0 => 0
  | Nat.succ j => τ j
def ri_gI (τ : Nat → Int) (x : ri_I) (v : Int32) : Prop := ri_bs τ x.1 + x.2.1 ≤ v.toInt ∧ v.toInt ≤ ri_bs τ x.1 + x.2.2
def ri_okE (E : ri_E) (τ : Nat → Int) : Prop := (∀ (k : Nat) (b : Int × Int), E.1[k]? = some b → b.1 ≤ τ k ∧ τ k ≤ b.2) ∧ ∀ q ∈ E.2, ∀ x y : Int32, ri_gI τ q.2.1 x → ri_gI τ q.2.2.1 y → (q.1 = 0 → (x + y).toInt = ri_bs τ q.2.2.2) ∧ (q.1 = 2 → (x * y).toInt = ri_bs τ q.2.2.2) ∧ (q.1 = 3 → ¬ y = 0 ∧ (x / y).toInt = ri_bs τ q.2.2.2)
theorem ri_i32 (v : Int32) : ri_lo ≤ v.toInt ∧ v.toInt ≤ ri_hi := by
  have h1 := v.le_toInt
  have h2 := v.toInt_lt
  unfold ri_lo ri_hi
  omega
theorem ri_gI_top (τ : Nat → Int) (v : Int32) : ri_gI τ ri_top v := by
  have h := ri_i32 v
  show 0 + ri_lo ≤ _ ∧ _ ≤ 0 + ri_hi
  omega
theorem ri_gI_0 {τ : Nat → Int} {a b : Int} {v : Int32} : ri_gI τ (0, a, b) v ↔ a ≤ v.toInt ∧ v.toInt ≤ b := by
  show 0 + a ≤ _ ∧ _ ≤ 0 + b ↔ _
  omega
theorem ri_abs_ok {E : ri_E} {τ : Nat → Int} (hE : ri_okE E τ) {x : ri_I} {a : Int × Int} (h : ri_abs E x = some a) {v : Int32} (hv : ri_gI τ x v) : a.1 ≤ v.toInt ∧ v.toInt ≤ a.2 := by
  obtain ⟨k, lo, hi⟩ := x
  cases k with
  | zero =>
    cases h
    exact ri_gI_0.mp hv
  | succ k =>
    have h : (match ri_nth E.1 k with
      | some b => some (Int.add b.1 lo, Int.add b.2 hi)
      | none => none) = some a := h
    rw [ri_nth_eq] at h
    cases hb : E.1[k]? with
    | none => rw [hb] at h; cases h
    | some b =>
      rw [hb] at h
      cases h
      have h1 := hE.1 k b hb
      have hv : τ k + lo ≤ v.toInt ∧ v.toInt ≤ τ k + hi := hv
      show b.1 + lo ≤ _ ∧ _ ≤ b.2 + hi
      omega
theorem ri_mk_ok {τ : Nat → Int} {a b : Int} {v : Int32} (h : ri_lo ≤ a → b ≤ ri_hi → a ≤ v.toInt ∧ v.toInt ≤ b) : ri_gI τ (ri_mk a b) v := by
  unfold ri_mk
  cases h1 : ri_le ri_lo a with
  | false => exact ri_gI_top τ v
  | true =>
    cases h2 : ri_le b ri_hi with
    | false => exact ri_gI_top τ v
    | true => exact ri_gI_0.mpr (h (ri_le_iff.mp h1) (ri_le_iff.mp h2))
/-- what a sum or difference gives: in range it's the ints' own -/
theorem ri_mkT_ok {E : ri_E} {τ : Nat → Int} (hE : ri_okE E τ) {k : Nat} {a b : Int} {z : ri_I} (h : ri_mkT E k a b = some z) {v : Int32} (hv : ∀ x : Int, ri_bs τ k + a ≤ x → x ≤ ri_bs τ k + b → True) (hx : (ri_lo ≤ ri_bs τ k + a → ri_bs τ k + b ≤ ri_hi → ri_bs τ k + a ≤ v.toInt ∧ v.toInt ≤ ri_bs τ k + b)) : ri_gI τ z v := by
  cases k with
  | zero =>
    cases h
    refine ri_mk_ok (fun h1 h2 => ?_)
    have hx : ri_lo ≤ 0 + a → 0 + b ≤ ri_hi → 0 + a ≤ v.toInt ∧ v.toInt ≤ 0 + b := hx
    have := hx (by omega) (by omega)
    omega
  | succ j =>
    have h : (match ri_nth E.1 j with
      | some q => cond (ri_le ri_lo (Int.add q.1 a)) (cond (ri_le (Int.add q.2 b) ri_hi) (some (Nat.succ j, a, b)) none) none
      | none => none) = some z := h
    rw [ri_nth_eq] at h
    cases hb : E.1[j]? with
    | none => rw [hb] at h; cases h
    | some q =>
      rw [hb] at h
      obtain ⟨h1, h⟩ := ri_cond h rfl
      obtain ⟨h2, h⟩ := ri_cond h rfl
      cases h
      have h3 := hE.1 j q hb
      have h1 : ri_lo ≤ q.1 + a := ri_le_iff.mp h1
      have h2 : q.2 + b ≤ ri_hi := ri_le_iff.mp h2
      exact hx (by show _ ≤ τ j + a; omega) (by show τ j + b ≤ _; omega)
theorem ri_bm {x : Int} (h1 : ri_lo ≤ x) (h2 : x ≤ ri_hi) : x.bmod (2 ^ 32) = x := by
  unfold ri_lo at h1
  unfold ri_hi at h2
  rw [Int.bmod_def]
  omega
theorem ri_rule_ok {E : ri_E} {τ : Nat → Int} {o k : Nat} {x y : ri_I} (h : ri_rule E o x y = some k) : ∃ q ∈ E.2, q.1 = o ∧ (∀ v, ri_gI τ x v → ri_gI τ q.2.1 v) ∧ (∀ v, ri_gI τ y v → ri_gI τ q.2.2.1 v) ∧ q.2.2.2 = k := by
  have eqI : ∀ {u w : ri_I}, ri_ieq u w = true → ∀ v, ri_gI τ w v → ri_gI τ u v := by
    intro u w hu v hv
    obtain ⟨a, b, c⟩ := u
    obtain ⟨a', b', c'⟩ := w
    unfold ri_ieq at hu
    cases h1 : Nat.beq a a' with
    | false => simp [h1] at hu
    | true =>
      cases h2 : ri_le b b' with
      | false => simp [h1, h2] at hu
      | true =>
        cases h3 : ri_le b' b with
        | false => simp [h1, h2, h3] at hu
        | true =>
          cases h4 : ri_le c c' with
          | false => simp [h1, h2, h3, h4] at hu
          | true =>
            simp [h1, h2, h3, h4] at hu
            have e1 : a = a' := Nat.eq_of_beq_eq_true h1
            subst e1
            have := ri_le_iff.mp h2
            have := ri_le_iff.mp h3
            have := ri_le_iff.mp h4
            have := ri_le_iff.mp hu
            have hv : ri_bs τ a + b' ≤ v.toInt ∧ v.toInt ≤ ri_bs τ a + c' := hv
            show ri_bs τ a + b ≤ v.toInt ∧ v.toInt ≤ ri_bs τ a + c
            omega
  unfold ri_rule at h
  generalize E.2 = l at h ⊢
  induction l with
  | nil => cases h
  | cons q t ih =>
    have h : cond (Nat.beq q.1 o) (cond (ri_ieq q.2.1 x) (cond (ri_ieq q.2.2.1 y) (some q.2.2.2) (List.rec (motive := fun _ => Option Nat) none (fun q _ ih => cond (Nat.beq q.1 o) (cond (ri_ieq q.2.1 x) (cond (ri_ieq q.2.2.1 y) (some q.2.2.2) ih) ih) ih) t)) (List.rec (motive := fun _ => Option Nat) none (fun q _ ih => cond (Nat.beq q.1 o) (cond (ri_ieq q.2.1 x) (cond (ri_ieq q.2.2.1 y) (some q.2.2.2) ih) ih) ih) t)) (List.rec (motive := fun _ => Option Nat) none (fun q _ ih => cond (Nat.beq q.1 o) (cond (ri_ieq q.2.1 x) (cond (ri_ieq q.2.2.1 y) (some q.2.2.2) ih) ih) ih) t) = some k := h
    have tail : (List.rec (motive := fun _ => Option Nat) none (fun q _ ih => cond (Nat.beq q.1 o) (cond (ri_ieq q.2.1 x) (cond (ri_ieq q.2.2.1 y) (some q.2.2.2) ih) ih) ih) t : Option Nat) = some k → ∃ q' ∈ q :: t, q'.1 = o ∧ (∀ v, ri_gI τ x v → ri_gI τ q'.2.1 v) ∧ (∀ v, ri_gI τ y v → ri_gI τ q'.2.2.1 v) ∧ q'.2.2.2 = k := fun h2 => by
      obtain ⟨q', hq', r⟩ := ih h2
      exact ⟨q', List.mem_cons_of_mem _ hq', r⟩
    cases h1 : Nat.beq q.1 o with
    | false => rw [h1] at h; exact tail h
    | true =>
      cases h2 : ri_ieq q.2.1 x with
      | false => rw [h1, h2] at h; exact tail h
      | true =>
        cases h3 : ri_ieq q.2.2.1 y with
        | false => rw [h1, h2, h3] at h; exact tail h
        | true =>
          rw [h1, h2, h3] at h
          exact ⟨q, List.mem_cons_self, Nat.eq_of_beq_eq_true h1, eqI h2, eqI h3, Option.some.inj h⟩
theorem ri_rule_use {E : ri_E} {τ : Nat → Int} (hE : ri_okE E τ) {k : Nat} {z : ri_I} {v : Int32} (hz : ri_mkT E k 0 0 = some z) (hv : v.toInt = ri_bs τ k) : ri_gI τ z v :=
  ri_mkT_ok hE hz (fun _ _ _ => trivial) (fun _ _ => by omega)
theorem ri_add_ok {E : ri_E} {τ : Nat → Int} (hE : ri_okE E τ) {x y z : ri_I} (h : ri_add E x y = some z) {u v : Int32} (hu : ri_gI τ x u) (hv : ri_gI τ y v) : ri_gI τ z (u + v) := by
  unfold ri_add at h
  cases hr : ri_rule E 0 x y with
  | some k =>
    rw [hr] at h
    obtain ⟨q, hq, e0, e1, e2, e3⟩ := ri_rule_ok (τ := τ) hr
    exact ri_rule_use hE h (by rw [← e3]; exact (hE.2 q hq u v (e1 u hu) (e2 v hv)).1 e0)
  | none =>
    rw [hr] at h
    have key : ∀ lo hi : Int, lo ≤ u.toInt + v.toInt → u.toInt + v.toInt ≤ hi → ri_lo ≤ lo → hi ≤ ri_hi → lo ≤ (u + v).toInt ∧ (u + v).toInt ≤ hi := by
      intro lo hi h1 h2 h3 h4
      rw [Int32.toInt_add, ri_bm (by omega) (by omega)]
      exact ⟨h1, h2⟩
    obtain ⟨kx, xl, xh⟩ := x
    obtain ⟨ky, yl, yh⟩ := y
    cases ky with
    | zero =>
      have h : ri_mkT E kx (Int.add xl yl) (Int.add xh yh) = some z := h
      have hv := ri_gI_0.mp hv
      have hu : ri_bs τ kx + xl ≤ u.toInt ∧ u.toInt ≤ ri_bs τ kx + xh := hu
      exact ri_mkT_ok hE h (fun _ _ _ => trivial) (fun h3 h4 => key _ _ (by show ri_bs τ kx + (xl + yl) ≤ _; omega) (by show _ ≤ ri_bs τ kx + (xh + yh); omega) h3 h4)
    | succ ky =>
      cases kx with
      | zero =>
        have h : ri_mkT E (Nat.succ ky) (Int.add xl yl) (Int.add xh yh) = some z := h
        have hu := ri_gI_0.mp hu
        have hv : ri_bs τ (ky + 1) + yl ≤ v.toInt ∧ v.toInt ≤ ri_bs τ (ky + 1) + yh := hv
        exact ri_mkT_ok hE h (fun _ _ _ => trivial) (fun h3 h4 => key _ _ (by show ri_bs τ (ky + 1) + (xl + yl) ≤ _; omega) (by show _ ≤ ri_bs τ (ky + 1) + (xh + yh); omega) h3 h4)
      | succ kx =>
        have h : (match ri_abs E (Nat.succ kx, xl, xh) with
          | none => none
          | some a => (match ri_abs E (Nat.succ ky, yl, yh) with
            | none => none
            | some b => some (ri_mk (Int.add a.1 b.1) (Int.add a.2 b.2)))) = some z := h
        cases ha : ri_abs E (Nat.succ kx, xl, xh) with
        | none => rw [ha] at h; cases h
        | some a =>
          cases hb : ri_abs E (Nat.succ ky, yl, yh) with
          | none => rw [ha, hb] at h; cases h
          | some b =>
            rw [ha, hb] at h
            cases h
            have h1 := ri_abs_ok hE ha hu
            have h2 := ri_abs_ok hE hb hv
            exact ri_mk_ok (fun h3 h4 => key _ _ (by show a.1 + b.1 ≤ _; omega) (by show _ ≤ a.2 + b.2; omega) h3 h4)
theorem ri_sub_ok {E : ri_E} {τ : Nat → Int} (hE : ri_okE E τ) {x y z : ri_I} (h : ri_sub E x y = some z) {u v : Int32} (hu : ri_gI τ x u) (hv : ri_gI τ y v) : ri_gI τ z (u - v) := by
  have key : ∀ lo hi : Int, lo ≤ u.toInt - v.toInt → u.toInt - v.toInt ≤ hi → ri_lo ≤ lo → hi ≤ ri_hi → lo ≤ (u - v).toInt ∧ (u - v).toInt ≤ hi := by
    intro lo hi h1 h2 h3 h4
    rw [Int32.toInt_sub, ri_bm (by omega) (by omega)]
    exact ⟨h1, h2⟩
  obtain ⟨kx, xl, xh⟩ := x
  obtain ⟨ky, yl, yh⟩ := y
  cases ky with
  | zero =>
    have h : ri_mkT E kx (Int.sub xl yh) (Int.sub xh yl) = some z := h
    have hv := ri_gI_0.mp hv
    have hu : ri_bs τ kx + xl ≤ u.toInt ∧ u.toInt ≤ ri_bs τ kx + xh := hu
    exact ri_mkT_ok hE h (fun _ _ _ => trivial) (fun h3 h4 => key _ _ (by show ri_bs τ kx + (xl - yh) ≤ _; omega) (by show _ ≤ ri_bs τ kx + (xh - yl); omega) h3 h4)
  | succ ky =>
    have h : cond (Nat.beq kx (Nat.succ ky)) (some (ri_mk (Int.sub xl yh) (Int.sub xh yl))) (match ri_abs E (kx, xl, xh) with
        | none => none
        | some a => (match ri_abs E (Nat.succ ky, yl, yh) with
          | none => none
          | some b => some (ri_mk (Int.sub a.1 b.2) (Int.sub a.2 b.1)))) = some z := h
    cases he : Nat.beq kx (Nat.succ ky) with
    | true =>
      rw [he] at h
      cases h
      have e := Nat.eq_of_beq_eq_true he
      subst e
      have hu : ri_bs τ (ky + 1) + xl ≤ u.toInt ∧ u.toInt ≤ ri_bs τ (ky + 1) + xh := hu
      have hv : ri_bs τ (ky + 1) + yl ≤ v.toInt ∧ v.toInt ≤ ri_bs τ (ky + 1) + yh := hv
      exact ri_mk_ok (fun h3 h4 => key _ _ (by show xl - yh ≤ _; omega) (by show _ ≤ xh - yl; omega) h3 h4)
    | false =>
      rw [he, cond_false] at h
      cases ha : ri_abs E (kx, xl, xh) with
      | none => rw [ha] at h; cases h
      | some a =>
        cases hb : ri_abs E (Nat.succ ky, yl, yh) with
        | none => rw [ha, hb] at h; cases h
        | some b =>
          rw [ha, hb] at h
          cases h
          have h1 := ri_abs_ok hE ha hu
          have h2 := ri_abs_ok hE hb hv
          exact ri_mk_ok (fun h3 h4 => key _ _ (by show a.1 - b.2 ≤ _; omega) (by show _ ≤ a.2 - b.1; omega) h3 h4)
theorem ri_mul_ok {E : ri_E} {τ : Nat → Int} (hE : ri_okE E τ) {x y z : ri_I} (h : ri_mul E x y = some z) {u v : Int32} (hu : ri_gI τ x u) (hv : ri_gI τ y v) : ri_gI τ z (u * v) := by
  unfold ri_mul at h
  cases hr : ri_rule E 2 x y with
  | some k =>
    rw [hr] at h
    obtain ⟨q, hq, e0, e1, e2, e3⟩ := ri_rule_ok (τ := τ) hr
    exact ri_rule_use hE h (by rw [← e3]; exact (hE.2 q hq u v (e1 u hu) (e2 v hv)).2.1 e0)
  | none =>
    rw [hr] at h
    cases ha : ri_abs E x with
    | none => rw [ha] at h; cases h
    | some a =>
      cases hb : ri_abs E y with
      | none => rw [ha, hb] at h; cases h
      | some b =>
        rw [ha, hb] at h
        have h : cond (ri_le 0 a.1) (cond (ri_le a.2 a.1) (some (ri_mk (Int.mul a.1 b.1) (Int.mul a.1 b.2))) (some ri_top)) (some ri_top) = some z := h
        have h1 := ri_abs_ok hE ha hu
        have h2 := ri_abs_ok hE hb hv
        cases c1 : ri_le 0 a.1 with
        | false => rw [c1] at h; cases h; exact ri_gI_top τ _
        | true =>
          cases c2 : ri_le a.2 a.1 with
          | false => rw [c1, c2] at h; cases h; exact ri_gI_top τ _
          | true =>
            rw [c1, c2] at h
            cases h
            have c1 := ri_le_iff.mp c1
            have c2 := ri_le_iff.mp c2
            have e : u.toInt = a.1 := by omega
            refine ri_mk_ok (fun h3 h4 => ?_)
            have g1 : a.1 * b.1 ≤ a.1 * v.toInt := Int.mul_le_mul_of_nonneg_left h2.1 c1
            have g2 : a.1 * v.toInt ≤ a.1 * b.2 := Int.mul_le_mul_of_nonneg_left h2.2 c1
            have h3 : ri_lo ≤ a.1 * b.1 := h3
            have h4 : a.1 * b.2 ≤ ri_hi := h4
            rw [Int32.toInt_mul, e, ri_bm (by omega) (by omega)]
            exact ⟨g1, g2⟩
theorem ri_div_ok {E : ri_E} {τ : Nat → Int} (hE : ri_okE E τ) {x y z : ri_I} (h : ri_div E x y = some z) {u v : Int32} (hu : ri_gI τ x u) (hv : ri_gI τ y v) : ¬ v = 0 ∧ ri_gI τ z (u / v) := by
  unfold ri_div at h
  cases hr : ri_rule E 3 x y with
  | some k =>
    rw [hr] at h
    obtain ⟨q, hq, e0, e1, e2, e3⟩ := ri_rule_ok (τ := τ) hr
    have g := (hE.2 q hq u v (e1 u hu) (e2 v hv)).2.2 e0
    exact ⟨g.1, ri_rule_use hE h (by rw [← e3]; exact g.2)⟩
  | none =>
    rw [hr] at h
    cases ha : ri_abs E x with
    | none => rw [ha] at h; cases h
    | some a =>
      cases hb : ri_abs E y with
      | none => rw [ha, hb] at h; cases h
      | some b =>
        rw [ha, hb] at h
        have h1 := ri_abs_ok hE ha hu
        have h2 := ri_abs_ok hE hb hv
        obtain ⟨a1, a2⟩ := a
        obtain ⟨b1, b2⟩ := b
        cases a1 with
        | negSucc _ => cases h
        | ofNat a1 =>
          cases a2 with
          | negSucc _ => cases h
          | ofNat a2 =>
            cases b1 with
            | negSucc _ => cases h
            | ofNat b1 =>
              cases b2 with
              | negSucc _ => cases h
              | ofNat b2 =>
                obtain ⟨c1, h⟩ := ri_cond h rfl
                obtain ⟨c2, h⟩ := ri_cond h rfl
                cases h
                have e := Nat.eq_of_beq_eq_true c1
                subst e
                have c2 : 1 ≤ b1 := Nat.le_of_ble_eq_true c2
                have h1 : (a1 : Int) ≤ u.toInt ∧ u.toInt ≤ (a2 : Int) := h1
                have h2 : (b1 : Int) ≤ v.toInt ∧ v.toInt ≤ (b1 : Int) := h2
                have ev : v.toInt = (b1 : Int) := by omega
                refine ⟨fun q => ?_, ri_mk_ok (fun h3 h4 => ?_)⟩
                · rw [q] at ev
                  have : (0 : Int32).toInt = 0 := rfl
                  omega
                · have hq1 : ((a1 / b1 : Nat) : Int) ≤ u.toInt / (b1 : Int) := by
                    rw [Int.natCast_ediv]
                    exact Int.ediv_le_ediv (by omega) h1.1
                  have hq2 : u.toInt / (b1 : Int) ≤ ((a2 / b1 : Nat) : Int) := by
                    rw [Int.natCast_ediv]
                    exact Int.ediv_le_ediv (by omega) h1.2
                  have hr2 := ri_i32 u
                  have hle : u.toInt / (b1 : Int) ≤ u.toInt := Int.ediv_le_self _ (by omega)
                  have hge : 0 ≤ u.toInt / (b1 : Int) := Int.ediv_nonneg (by omega) (by omega)
                  have ed : u.toInt.tdiv (b1 : Int) = u.toInt / (b1 : Int) := Int.tdiv_eq_ediv_of_nonneg (by omega)
                  have hlo : ri_lo ≤ 0 := by decide
                  rw [Int32.toInt_div, ev, ed, ri_bm (by omega) (by omega)]
                  exact ⟨hq1, hq2⟩
theorem ri_neg_ok {E : ri_E} {τ : Nat → Int} (hE : ri_okE E τ) {x z : ri_I} (h : ri_neg E x = some z) {u : Int32} (hu : ri_gI τ x u) : ri_gI τ z (-u) := by
  unfold ri_neg at h
  cases ha : ri_abs E x with
  | none => rw [ha] at h; cases h
  | some a =>
    rw [ha] at h
    cases h
    have h1 := ri_abs_ok hE ha hu
    refine ri_mk_ok (fun h3 h4 => ?_)
    have h3 : ri_lo ≤ -a.2 := h3
    have h4 : -a.1 ≤ ri_hi := h4
    show -a.2 ≤ _ ∧ _ ≤ -a.1
    rw [Int32.toInt_neg, ri_bm (by omega) (by omega)]
    omega
theorem ri_i2b_ok {E : ri_E} {τ : Nat → Int} (hE : ri_okE E τ) {x z : ri_I} (h : ri_i2b E x = some z) {u : Int32} (hu : ri_gI τ x u) : ri_gI τ z u.toInt8.toInt32 := by
  unfold ri_i2b at h
  have any : -128 ≤ (u.toInt8.toInt32).toInt ∧ (u.toInt8.toInt32).toInt ≤ 127 := by
    rw [Int8.toInt_toInt32]
    have h1 := u.toInt8.le_toInt
    have h2 := u.toInt8.toInt_lt
    omega
  cases ha : ri_abs E x with
  | none => rw [ha] at h; cases h
  | some a =>
    rw [ha] at h
    have h : cond (ri_le (-128) a.1) (cond (ri_le a.2 127) (some x) (some (0, -128, 127))) (some (0, -128, 127)) = some z := h
    cases c1 : ri_le (-128) a.1 with
    | false => rw [c1] at h; cases h; exact ri_gI_0.mpr any
    | true =>
      cases c2 : ri_le a.2 127 with
      | false => rw [c1, c2] at h; cases h; exact ri_gI_0.mpr any
      | true =>
        rw [c1, c2] at h
        cases h
        have c1 := ri_le_iff.mp c1
        have c2 := ri_le_iff.mp c2
        have h1 := ri_abs_ok hE ha hu
        have e : (u.toInt8.toInt32).toInt = u.toInt := by
          rw [Int8.toInt_toInt32, Int32.toInt_toInt8, Int.bmod_def]
          omega
        show ri_bs τ x.1 + x.2.1 ≤ _ ∧ _ ≤ ri_bs τ x.1 + x.2.2
        rw [e]
        exact hu
theorem ri_is {v : Int32} {k : Int} {w : Int32} (h : v.toInt = k) (hw : w.toInt = k) : v = w := Int32.toInt_inj.mp (h.trans hw.symm)
theorem ri_or_ok {E : ri_E} {τ : Nat → Int} (hE : ri_okE E τ) {x y z : ri_I} (h : ri_or E x y = some z) {u v : Int32} (hu : ri_gI τ x u) (hv : ri_gI τ y v) : ri_gI τ z (u ||| v) := by
  unfold ri_or at h
  have zz : ∀ {a : Int × Int}, ri_z a = true → a.1 ≥ 0 ∧ a.2 ≤ 0 := by
    intro a ha
    unfold ri_z at ha
    cases c1 : ri_le 0 a.1 with
    | false => rw [c1] at ha; cases ha
    | true =>
      rw [c1] at ha
      exact ⟨ri_le_iff.mp c1, ri_le_iff.mp ha⟩
  cases ha : ri_abs E x with
  | none => rw [ha] at h; cases h
  | some a =>
    cases hb : ri_abs E y with
    | none => rw [ha, hb] at h; cases h
    | some b =>
      rw [ha, hb] at h
      have h : cond (ri_z a) (some (0, b)) (cond (ri_z b) (some (0, a)) (some ri_top)) = some z := h
      have h1 := ri_abs_ok hE ha hu
      have h2 := ri_abs_ok hE hb hv
      cases c1 : ri_z a with
      | true =>
        rw [c1] at h
        cases h
        have := zz c1
        have e : u = 0 := ri_is (k := 0) (by omega) rfl
        rw [e, Int32.zero_or]
        exact ri_gI_0.mpr h2
      | false =>
        cases c2 : ri_z b with
        | true =>
          rw [c1, c2] at h
          cases h
          have := zz c2
          have e : v = 0 := ri_is (k := 0) (by omega) rfl
          rw [e, Int32.or_zero]
          exact ri_gI_0.mpr h1
        | false => rw [c1, c2] at h; cases h; exact ri_gI_top τ _
theorem ri_shr_ok {E : ri_E} {τ : Nat → Int} (hE : ri_okE E τ) {g : Int} {x y z : ri_I} (h : ri_shr E g x y = some z) {u v w : Int32} (hu : ri_gI τ x u) (hv : ri_gI τ y v) (h0 : v = 31 → 0 ≤ u.toInt → w.toInt = 0) (h9 : v = 31 → u.toInt < 0 → w.toInt = g) : ri_gI τ z w := by
  unfold ri_shr at h
  cases ha : ri_abs E x with
  | none => rw [ha] at h; cases h
  | some a =>
    cases hb : ri_abs E y with
    | none => rw [ha, hb] at h; cases h
    | some b =>
      rw [ha, hb] at h
      have h : cond (ri_le 31 b.1) (cond (ri_le b.2 31) (cond (ri_le 0 a.1) (some (0, 0, 0)) (cond (ri_lt a.2 0) (some (0, g, g)) (some ri_top))) (some ri_top)) (some ri_top) = some z := h
      have h1 := ri_abs_ok hE ha hu
      have h2 := ri_abs_ok hE hb hv
      cases c1 : ri_le 31 b.1 with
      | false => rw [c1] at h; cases h; exact ri_gI_top τ _
      | true =>
        cases c2 : ri_le b.2 31 with
        | false => rw [c1, c2] at h; cases h; exact ri_gI_top τ _
        | true =>
          have c1' := ri_le_iff.mp c1
          have c2' := ri_le_iff.mp c2
          have ev : v = 31 := ri_is (k := 31) (by omega) rfl
          cases c3 : ri_le 0 a.1 with
          | true =>
            rw [c1, c2, c3] at h
            cases h
            have := ri_le_iff.mp c3
            have := h0 ev (by omega)
            exact ri_gI_0.mpr (by omega)
          | false =>
            cases c4 : ri_lt a.2 0 with
            | true =>
              rw [c1, c2, c3, c4] at h
              cases h
              have := ri_lt_iff.mp c4
              have := h9 ev (by omega)
              exact ri_gI_0.mpr (by omega)
            | false => rw [c1, c2, c3, c4] at h; cases h; exact ri_gI_top τ _
theorem ri_ishr31 (u : Int32) : (u >>> ((31 : Int32) &&& 31)).toInt = u.toInt / 2147483648 := by
  have e : ((31 : Int32) &&& 31) = 31 := by decide +kernel
  rw [e]
  show (u.toBitVec.sshiftRight _).toInt = _
  rw [BitVec.toInt_sshiftRight, Int.shiftRight_eq_div_pow]
  rfl
theorem ri_iushr31 (u : Int32) : ((u.toUInt32 >>> (Int32.toUInt32 31 &&& Int32.toUInt32 31)).toInt32).toInt = if u.toInt < 0 then 1 else 0 := by
  have e : (Int32.toUInt32 31 &&& Int32.toUInt32 31) = 31 := by decide +kernel
  rw [e]
  have hn : (u.toUInt32 >>> 31).toNat = u.toUInt32.toNat / 2147483648 := by
    rw [UInt32.toNat_shiftRight, Nat.shiftRight_eq_div_pow]
    rfl
  have hlt : u.toUInt32.toNat < 4294967296 := u.toUInt32.toNat_lt
  have hi : u.toInt = Int.bmod (u.toUInt32.toNat : Int) 4294967296 := by
    show u.toBitVec.toInt = _
    rw [BitVec.toInt_eq_toNat_bmod]
    rfl
  have hw : ((u.toUInt32 >>> 31).toInt32).toInt = Int.bmod ((u.toUInt32 >>> 31).toNat : Int) 4294967296 := by
    show (u.toUInt32 >>> 31).toBitVec.toInt = _
    rw [BitVec.toInt_eq_toNat_bmod]
    rfl
  rw [hw, hn, hi]
  simp only [Int.bmod_def]
  split <;> split <;> omega
/-- a comparison that is decided -/
theorem ri_pair_ok {E : ri_E} {τ : Nat → Int} (hE : ri_okE E τ) {x y : ri_I} {q : (Int × Int) × (Int × Int)} (h : ri_pair E x y = some q) {u v : Int32} (hu : ri_gI τ x u) (hv : ri_gI τ y v) : ∃ d : Int, q.1.1 + d ≤ u.toInt ∧ u.toInt ≤ q.1.2 + d ∧ q.2.1 + d ≤ v.toInt ∧ v.toInt ≤ q.2.2 + d := by
  unfold ri_pair at h
  cases he : Nat.beq x.1 y.1 with
  | true =>
    rw [he] at h
    cases h
    have e := Nat.eq_of_beq_eq_true he
    have hu : ri_bs τ x.1 + x.2.1 ≤ u.toInt ∧ u.toInt ≤ ri_bs τ x.1 + x.2.2 := hu
    have hv : ri_bs τ y.1 + y.2.1 ≤ v.toInt ∧ v.toInt ≤ ri_bs τ y.1 + y.2.2 := hv
    rw [← e] at hv
    exact ⟨ri_bs τ x.1, by show x.2.1 + _ ≤ _; omega, by show _ ≤ x.2.2 + _; omega, by show y.2.1 + _ ≤ _; omega, by show _ ≤ y.2.2 + _; omega⟩
  | false =>
    rw [he, cond_false] at h
    cases ha : ri_abs E x with
    | none => rw [ha] at h; cases h
    | some a =>
      cases hb : ri_abs E y with
      | none => rw [ha, hb] at h; cases h
      | some b =>
        rw [ha, hb] at h
        cases h
        have h1 := ri_abs_ok hE ha hu
        have h2 := ri_abs_ok hE hb hv
        exact ⟨0, by show a.1 + _ ≤ _; omega, by show _ ≤ a.2 + _; omega, by show b.1 + _ ≤ _; omega, by show _ ≤ b.2 + _; omega⟩
theorem ri_clt_ok {q : (Int × Int) × (Int × Int)} {b : Bool} (h : ri_clt q = some b) {d a c : Int} (h1 : q.1.1 + d ≤ a) (h2 : a ≤ q.1.2 + d) (h3 : q.2.1 + d ≤ c) (h4 : c ≤ q.2.2 + d) : if b then a < c else ¬ a < c := by
  unfold ri_clt at h
  cases c1 : ri_lt q.1.2 q.2.1 with
  | true =>
    rw [c1] at h
    cases h
    have := ri_lt_iff.mp c1
    show a < c
    omega
  | false =>
    cases c2 : ri_le q.2.2 q.1.1 with
    | true =>
      rw [c1, c2] at h
      cases h
      have := ri_le_iff.mp c2
      show ¬ a < c
      omega
    | false => rw [c1, c2] at h; cases h
theorem ri_ceq_ok {q : (Int × Int) × (Int × Int)} {b : Bool} (h : ri_ceq q = some b) {d a c : Int} (h1 : q.1.1 + d ≤ a) (h2 : a ≤ q.1.2 + d) (h3 : q.2.1 + d ≤ c) (h4 : c ≤ q.2.2 + d) : if b then a = c else ¬ a = c := by
  unfold ri_ceq at h
  cases c1 : ri_lt q.1.2 q.2.1 with
  | true =>
    rw [c1] at h
    cases h
    have := ri_lt_iff.mp c1
    show ¬ a = c
    omega
  | false =>
    cases c2 : ri_lt q.2.2 q.1.1 with
    | true =>
      rw [c1, c2] at h
      cases h
      have := ri_lt_iff.mp c2
      show ¬ a = c
      omega
    | false =>
      rw [c1, c2] at h
      have h : cond (ri_le q.1.2 q.1.1) (cond (ri_le q.2.2 q.2.1) (cond (ri_le q.1.1 q.2.1) (cond (ri_le q.2.1 q.1.1) (some true) none) none) none) none = some b := h
      obtain ⟨c3, h⟩ := ri_cond h rfl
      obtain ⟨c4, h⟩ := ri_cond h rfl
      obtain ⟨c5, h⟩ := ri_cond h rfl
      obtain ⟨c6, h⟩ := ri_cond h rfl
      cases h
      have := ri_le_iff.mp c3
      have := ri_le_iff.mp c4
      have := ri_le_iff.mp c5
      have := ri_le_iff.mp c6
      show a = c
      omega
def ri_hold (c : Jvm.ClassFile.Cond) (a b : Int) : Prop := match c with
  | .eq => a = b
  | .ne => ¬ a = b
  | .lt => a < b
  | .ge => b ≤ a
  | .gt => b < a
  | .le => a ≤ b
theorem ri_not_ok {o : Option Bool} {b : Bool} (h : ri_not o = some b) : o = some (!b) := by
  cases o with
  | none => cases h
  | some x => cases x <;> cases h <;> rfl
theorem ri_cmp_ok {c : Jvm.ClassFile.Cond} {q : (Int × Int) × (Int × Int)} {b : Bool} (h : ri_cmp c q = some b) {d u v : Int} (h1 : q.1.1 + d ≤ u) (h2 : u ≤ q.1.2 + d) (h3 : q.2.1 + d ≤ v) (h4 : v ≤ q.2.2 + d) : if b then ri_hold c u v else ¬ ri_hold c u v := by
  cases c with
  | eq => exact ri_ceq_ok h h1 h2 h3 h4
  | ne =>
    have g := ri_ceq_ok (ri_not_ok h) h1 h2 h3 h4
    cases b
    · show ¬ ¬ u = v
      exact fun k => k g
    · exact g
  | lt => exact ri_clt_ok h h1 h2 h3 h4
  | ge =>
    have g := ri_clt_ok (ri_not_ok h) h1 h2 h3 h4
    cases b
    · have g : u < v := g
      show ¬ v ≤ u
      omega
    · have g : ¬ u < v := g
      show v ≤ u
      omega
  | gt => exact ri_clt_ok (q := ri_sw q) h h3 h4 h1 h2
  | le =>
    have g := ri_clt_ok (q := ri_sw q) (ri_not_ok h) h3 h4 h1 h2
    cases b
    · have g : v < u := g
      show ¬ u ≤ v
      omega
    · have g : ¬ v < u := g
      show u ≤ v
      omega
