/-! Coasting where there is no rope: the two of them by one loop -/
def co_T (σ i x t : Int) : Nat → Int := fun k => match k with
  | 0 => x
  | 1 => σ * (i + 1)
  | 2 => t
  | 3 => x + σ * i
  | _ => (x + σ * i) / 10
def co_F (σ : Int) : Nat → Int → Int → Int × Int
  | 0, x, t => (x / 10, t)
  | n + 1, x, t => if x + σ * ((n : Int) + 1) < 0 ∨ 600 ≤ x + σ * ((n : Int) + 1) then (-1, t) else co_F σ n (x + σ * ((n : Int) + 1)) (t + 1)
def co_R (q : Int × Int) : Nat → Int := fun k => match k with
  | 0 => q.1
  | _ => q.2
def co_S (a b : Int) : Nat → Int := fun k => match k with
  | 0 => a
  | 1 => b
  | _ => 10 * a
def co_G (a b : Int) : Int × Int := if b = 0 then (a, 1) else if 0 < b then co_F 1 (b - 1).toNat (10 * a) 1 else co_F (-1) (-b - 1).toNat (10 * a) 1
def ri_bl (τ : Nat → Int) : List (Int × Int) → Nat → Prop
  | [], _ => True
  | b :: l, k => (b.1 ≤ τ k ∧ τ k ≤ b.2) ∧ ri_bl τ l (k + 1)
theorem ri_bl_ok {τ : Nat → Int} : ∀ {l : List (Int × Int)} {k : Nat}, ri_bl τ l k → ∀ (i : Nat) (b : Int × Int), l[i]? = some b → b.1 ≤ τ (k + i) ∧ τ (k + i) ≤ b.2
  | [], _, _, i, b, h => by simp at h
  | a :: l, k, hl, i, b, h => by
    obtain ⟨h1, h2⟩ := hl
    cases i with
    | zero =>
      cases h
      exact h1
    | succ i =>
      have g := ri_bl_ok h2 i b (by simpa using h)
      rw [show k + 1 + i = k + (i + 1) by omega] at g
      exact g
theorem ri_okE_of {E : ri_E} {τ : Nat → Int} (h1 : ri_bl τ E.1 0) (h2 : ∀ q ∈ E.2, ∀ x y : Int32, ri_gI τ q.2.1 x → ri_gI τ q.2.2.1 y → (q.1 = 0 → (x + y).toInt = ri_bs τ q.2.2.2) ∧ (q.1 = 2 → (x * y).toInt = ri_bs τ q.2.2.2) ∧ (q.1 = 3 → ¬ y = 0 ∧ (x / y).toInt = ri_bs τ q.2.2.2)) : ri_okE E τ := ⟨fun k b h => by
  have := ri_bl_ok h1 k b h
  rwa [Nat.zero_add] at this, h2⟩
theorem ru_add {τ : Nat → Int} {a b : ri_I} {k : Nat} (h : ∀ u v : Int, ri_bs τ a.1 + a.2.1 ≤ u ∧ u ≤ ri_bs τ a.1 + a.2.2 → ri_bs τ b.1 + b.2.1 ≤ v ∧ v ≤ ri_bs τ b.1 + b.2.2 → u + v = ri_bs τ k ∧ ri_lo ≤ u + v ∧ u + v ≤ ri_hi) (x y : Int32) (hx : ri_gI τ a x) (hy : ri_gI τ b y) : ((0 : Nat) = 0 → (x + y).toInt = ri_bs τ k) ∧ ((0 : Nat) = 2 → (x * y).toInt = ri_bs τ k) ∧ ((0 : Nat) = 3 → ¬ y = 0 ∧ (x / y).toInt = ri_bs τ k) := by
  obtain ⟨e, h1, h2⟩ := h _ _ hx hy
  exact ⟨fun _ => by rw [Int32.toInt_add, ri_bm h1 h2, e], fun g => (by cases g), fun g => (by cases g)⟩
theorem ru_mul {τ : Nat → Int} {a b : ri_I} {k : Nat} (h : ∀ u v : Int, ri_bs τ a.1 + a.2.1 ≤ u ∧ u ≤ ri_bs τ a.1 + a.2.2 → ri_bs τ b.1 + b.2.1 ≤ v ∧ v ≤ ri_bs τ b.1 + b.2.2 → u * v = ri_bs τ k ∧ ri_lo ≤ u * v ∧ u * v ≤ ri_hi) (x y : Int32) (hx : ri_gI τ a x) (hy : ri_gI τ b y) : ((2 : Nat) = 0 → (x + y).toInt = ri_bs τ k) ∧ ((2 : Nat) = 2 → (x * y).toInt = ri_bs τ k) ∧ ((2 : Nat) = 3 → ¬ y = 0 ∧ (x / y).toInt = ri_bs τ k) := by
  obtain ⟨e, h1, h2⟩ := h _ _ hx hy
  exact ⟨fun g => (by cases g), fun _ => by rw [Int32.toInt_mul, ri_bm h1 h2, e], fun g => (by cases g)⟩
theorem ru_div {τ : Nat → Int} {a b : ri_I} {k : Nat} (h : ∀ u v : Int, ri_bs τ a.1 + a.2.1 ≤ u ∧ u ≤ ri_bs τ a.1 + a.2.2 → ri_bs τ b.1 + b.2.1 ≤ v ∧ v ≤ ri_bs τ b.1 + b.2.2 → v = 10 ∧ 0 ≤ u ∧ u / 10 = ri_bs τ k) (x y : Int32) (hx : ri_gI τ a x) (hy : ri_gI τ b y) : ((3 : Nat) = 0 → (x + y).toInt = ri_bs τ k) ∧ ((3 : Nat) = 2 → (x * y).toInt = ri_bs τ k) ∧ ((3 : Nat) = 3 → ¬ y = 0 ∧ (x / y).toInt = ri_bs τ k) := by
  obtain ⟨e, h1, h2⟩ := h _ _ hx hy
  refine ⟨fun g => (by cases g), fun g => (by cases g), fun _ => ⟨fun q => ?_, ?_⟩⟩
  · rw [q] at e
    have : (0 : Int32).toInt = 0 := rfl
    omega
  · have hr2 := ri_i32 x
    have ed : x.toInt.tdiv 10 = x.toInt / 10 := Int.tdiv_eq_ediv_of_nonneg h1
    have hlo : ri_lo ≤ 0 := by decide
    rw [Int32.toInt_div, e, ed, ri_bm (by omega) (by omega), h2]
/-- values on the stack as the locals of a method -/
theorem ri_rel_ent {τ τ' : Nat → Int} {ad : List Nat} {A A0 : List (Option ri_V)} {vs : List Value} {f : ri_I → ri_I → Bool} {k : Nat} (hr : ri_rel τ ad A vs) (hf : ∀ x y, f x y = true → ∀ v, ri_gI τ x v → ri_gI τ' y v) (h : ri_lall (ri_fO f) (ri_pad k A) A0 = true) : ∀ (i : Nat) (x : ri_V), A0[i]? = some (some x) → ∃ v, vs[i]? = some v ∧ ri_gV τ' ad x v := by
  intro i x hx
  obtain ⟨-, g2⟩ := ri_lall_ok h
  obtain ⟨a, k1, k2⟩ := g2 i _ hx
  rcases a with _ | a
  · cases k2
  · obtain ⟨v, e1, e2⟩ := hr.2.1 i a (ri_pad_at k1)
    exact ⟨v, e1, ri_fV_ok hf k2 e2⟩
/-- what the loop stands on -/
def co_ok (σ : Int) (EA EB EC : ri_E) (LA LB LC : List (ri_I × ri_I)) : Prop := (∀ (j : Nat) (x t : Int), 0 ≤ x → x ≤ 599 → j ≤ 58 → 0 ≤ t → t ≤ 100 → 0 ≤ x + σ * ((j : Int) + 1) → x + σ * ((j : Int) + 1) ≤ 599 → ri_okE EA (co_T σ ((j : Int) + 1) x t) ∧ ∀ q ∈ LA, ∀ v, ri_gI (co_T σ ((j : Int) + 1) x t) q.1 v → ri_gI (co_T σ (j : Int) (x + σ * ((j : Int) + 1)) (t + 1)) q.2 v) ∧ (∀ (j : Nat) (x t : Int), 0 ≤ x → x ≤ 599 → j ≤ 58 → 0 ≤ t → t ≤ 100 → (x + σ * ((j : Int) + 1) < 0 ∨ 600 ≤ x + σ * ((j : Int) + 1)) → ri_okE EB (co_T σ ((j : Int) + 1) x t) ∧ ∀ q ∈ LB, ∀ v, ri_gI (co_T σ ((j : Int) + 1) x t) q.1 v → ri_gI (co_R (-1, t)) q.2 v) ∧ ∀ x t : Int, 0 ≤ x → x ≤ 599 → 0 ≤ t → t ≤ 100 → ri_okE EC (co_T σ 0 x t) ∧ ∀ q ∈ LC, ∀ v, ri_gI (co_T σ 0 x t) q.1 v → ri_gI (co_R (x / 10, t)) q.2 v
theorem co_loop {σ : Int} {EA EB EC : ri_E} {LA LB LC : List (ri_I × ri_I)} (ok : co_ok σ EA EB EC LA LB LC) {mi : Nat} {y : MethodName} {cc : ByteArray} {nL : Nat} (hm : mT[mi]? = some (y, cc, nL, none)) {sl : ri_S} {hR : List ri_C} {stA hd n d : Nat} (hz : sl.2.2.2.2.1 = 0 ∧ sl.2.2.2.2.2 = 0) (kA : ri_k2 (ri_fl LA) sl (ri_run EA rD mt (mi, hd) 9 d mi) (ri_run EA rD mt (mi, stA) n d mi sl) = true) (kB : ri_ko (ri_fl LB) none hR (ri_run EB rD mt (999, 0) n d mi sl) = true) (kC : ri_ko (ri_fl LC) none hR (ri_run EC rD mt (999, 0) n d mi sl) = true) {p : Program} {l : Launch} {e : Env} {s : State} {m : MethodId} {args : Array Value} {below : List Frame} {meth : Method} {c : Code} {κ : Nat → ClassId} {D : va_G} {ws : va_W} (B : ri_Bd p s m args meth c y cc nL none κ D) : ∀ (j : Nat) (x t : Int), 0 ≤ x → x ≤ 599 → j ≤ 59 → 0 ≤ t → t + (j : Int) ≤ 100 → ri_AB p l e s m args below meth c nL κ D ws (MQ below (ri_Qo (co_R (co_F σ j x t)) κ D ws s.heap.size none hR) args s 0 0 (va_A ws s.heap.size)) d (co_T σ (j : Int) x t) sl := by
  intro j
  induction j with
  | zero =>
    intro x t h1 h2 h3 h4 h5
    obtain ⟨e1, e2⟩ := ok.2.2 x t h1 h2 h4 (by omega)
    exact AB_kv hm B e1 (ri_fl_ok e2) kC
  | succ j ih =>
    intro x t h1 h2 h3 h4 h5
    have ec : ((j + 1 : Nat) : Int) = (j : Int) + 1 := by omega
    rw [ec]
    by_cases hy : x + σ * ((j : Int) + 1) < 0 ∨ 600 ≤ x + σ * ((j : Int) + 1)
    · have e0 : co_F σ (j + 1) x t = (-1, t) := if_pos hy
      rw [e0]
      obtain ⟨e1, e2⟩ := ok.2.1 j x t h1 h2 (by omega) h4 (by omega) hy
      exact AB_kv hm B e1 (ri_fl_ok e2) kB
    · have e0 : co_F σ (j + 1) x t = co_F σ j (x + σ * ((j : Int) + 1)) (t + 1) := if_neg hy
      rw [e0]
      have hy1 : 0 ≤ x + σ * ((j : Int) + 1) := by omega
      have hy2 : x + σ * ((j : Int) + 1) ≤ 599 := by omega
      obtain ⟨e1, e2⟩ := ok.1 j x t h1 h2 (by omega) h4 (by omega) hy1 hy2
      exact AB_k2 hm B e1 (ri_fl_ok e2) hz kA (ih _ _ hy1 hy2 (by omega) (by omega) (by omega))
def cEAp : ri_E := ([(0, 599), (2, 60), (0, 100), (0, 599), (0, 59)], [(0, (1, 0, 0), (2, (-1), (-1)), 4), (3, (4, 0, 0), (0, 10, 10), 5)])
def cEBp : ri_E := ([(0, 599), (2, 60), (0, 100), (600, 660)], [(0, (1, 0, 0), (2, (-1), (-1)), 4)])
def cECp : ri_E := ([(0, 599), (1, 1), (0, 100), (0, 599), (0, 59)], [(0, (1, 0, 0), (2, (-1), (-1)), 4), (3, (4, 0, 0), (0, 10, 10), 5), (3, (1, 0, 0), (0, 10, 10), 5)])
def cLAp : List (ri_I × ri_I) := [((4, 0, 0), (1, 0, 0)), ((2, (-1), (-1)), (2, 0, 0)), ((3, 1, 1), (3, 0, 0)), ((3, 0, 0), (3, (-1), (-1))), ((5, 0, 0), (0, (-1), 59)), ((3, 0, 0), (0, 0, 500))]
def cLBp : List (ri_I × ri_I) := [((0, (-1), (-1)), (1, 0, 0)), ((3, 0, 0), (2, 0, 0))]
def cLCp : List (ri_I × ri_I) := [((5, 0, 0), (1, 0, 0)), ((3, 0, 0), (2, 0, 0))]
theorem co_ok_p : co_ok 1 cEAp cEBp cECp cLAp cLBp cLCp := by
  refine ⟨fun j x t h1 h2 h3 h4 h5 h6 h7 => ⟨?_, ?_⟩, fun j x t h1 h2 h3 h4 h5 h6 => ⟨?_, ?_⟩, fun x t h1 h2 h4 h5 => ⟨?_, ?_⟩⟩
  · refine ri_okE_of ?_ ?_
    · show (0 ≤ x ∧ x ≤ 599) ∧ (2 ≤ (1 * (((j : Int) + 1) + 1)) ∧ (1 * (((j : Int) + 1) + 1)) ≤ 60) ∧ (0 ≤ t ∧ t ≤ 100) ∧ (0 ≤ (x + 1 * ((j : Int) + 1)) ∧ (x + 1 * ((j : Int) + 1)) ≤ 599) ∧ (0 ≤ ((x + 1 * ((j : Int) + 1)) / 10) ∧ ((x + 1 * ((j : Int) + 1)) / 10) ≤ 59) ∧ True
      refine ⟨?_, ?_, ?_, ?_, ?_, trivial⟩
      all_goals omega
    · refine List.forall_mem_cons.mpr ⟨ru_add (fun u v hu hv => ?_), ?_⟩
      · have hu : x + 0 ≤ u ∧ u ≤ x + 0 := hu
        have hv : (1 * (((j : Int) + 1) + 1)) + (-1) ≤ v ∧ v ≤ (1 * (((j : Int) + 1) + 1)) + (-1) := hv
        show u + v = (x + 1 * ((j : Int) + 1)) ∧ -2147483648 ≤ u + v ∧ u + v ≤ 2147483647
        omega
      refine List.forall_mem_cons.mpr ⟨ru_div (fun u v hu hv => ?_), ?_⟩
      · have hu : (x + 1 * ((j : Int) + 1)) + 0 ≤ u ∧ u ≤ (x + 1 * ((j : Int) + 1)) + 0 := hu
        have hv : 0 + 10 ≤ v ∧ v ≤ 0 + 10 := hv
        show v = 10 ∧ 0 ≤ u ∧ u / 10 = ((x + 1 * ((j : Int) + 1)) / 10)
        omega
      exact fun q hq => by cases hq
  · refine List.forall_mem_cons.mpr ⟨fun v hv => ?_, ?_⟩
    · have hv : (x + 1 * ((j : Int) + 1)) + 0 ≤ v.toInt ∧ v.toInt ≤ (x + 1 * ((j : Int) + 1)) + 0 := hv
      show (x + 1 * ((j : Int) + 1)) + 0 ≤ v.toInt ∧ v.toInt ≤ (x + 1 * ((j : Int) + 1)) + 0
      omega
    refine List.forall_mem_cons.mpr ⟨fun v hv => ?_, ?_⟩
    · have hv : (1 * (((j : Int) + 1) + 1)) + (-1) ≤ v.toInt ∧ v.toInt ≤ (1 * (((j : Int) + 1) + 1)) + (-1) := hv
      show (1 * ((j : Int) + 1)) + 0 ≤ v.toInt ∧ v.toInt ≤ (1 * ((j : Int) + 1)) + 0
      omega
    refine List.forall_mem_cons.mpr ⟨fun v hv => ?_, ?_⟩
    · have hv : t + 1 ≤ v.toInt ∧ v.toInt ≤ t + 1 := hv
      show (t + 1) + 0 ≤ v.toInt ∧ v.toInt ≤ (t + 1) + 0
      omega
    refine List.forall_mem_cons.mpr ⟨fun v hv => ?_, ?_⟩
    · have hv : t + 0 ≤ v.toInt ∧ v.toInt ≤ t + 0 := hv
      show (t + 1) + (-1) ≤ v.toInt ∧ v.toInt ≤ (t + 1) + (-1)
      omega
    refine List.forall_mem_cons.mpr ⟨fun v hv => ?_, ?_⟩
    · have hv : ((x + 1 * ((j : Int) + 1)) / 10) + 0 ≤ v.toInt ∧ v.toInt ≤ ((x + 1 * ((j : Int) + 1)) / 10) + 0 := hv
      show 0 + (-1) ≤ v.toInt ∧ v.toInt ≤ 0 + 59
      omega
    refine List.forall_mem_cons.mpr ⟨fun v hv => ?_, ?_⟩
    · have hv : t + 0 ≤ v.toInt ∧ v.toInt ≤ t + 0 := hv
      show 0 + 0 ≤ v.toInt ∧ v.toInt ≤ 0 + 500
      omega
    exact fun q hq => by cases hq
  · refine ri_okE_of ?_ ?_
    · show (0 ≤ x ∧ x ≤ 599) ∧ (2 ≤ (1 * (((j : Int) + 1) + 1)) ∧ (1 * (((j : Int) + 1) + 1)) ≤ 60) ∧ (0 ≤ t ∧ t ≤ 100) ∧ (600 ≤ (x + 1 * ((j : Int) + 1)) ∧ (x + 1 * ((j : Int) + 1)) ≤ 660) ∧ True
      refine ⟨?_, ?_, ?_, ?_, trivial⟩
      all_goals omega
    · refine List.forall_mem_cons.mpr ⟨ru_add (fun u v hu hv => ?_), ?_⟩
      · have hu : x + 0 ≤ u ∧ u ≤ x + 0 := hu
        have hv : (1 * (((j : Int) + 1) + 1)) + (-1) ≤ v ∧ v ≤ (1 * (((j : Int) + 1) + 1)) + (-1) := hv
        show u + v = (x + 1 * ((j : Int) + 1)) ∧ -2147483648 ≤ u + v ∧ u + v ≤ 2147483647
        omega
      exact fun q hq => by cases hq
  · refine List.forall_mem_cons.mpr ⟨fun v hv => ?_, ?_⟩
    · have hv : 0 + (-1) ≤ v.toInt ∧ v.toInt ≤ 0 + (-1) := hv
      show (-1) + 0 ≤ v.toInt ∧ v.toInt ≤ (-1) + 0
      omega
    refine List.forall_mem_cons.mpr ⟨fun v hv => ?_, ?_⟩
    · have hv : t + 0 ≤ v.toInt ∧ v.toInt ≤ t + 0 := hv
      show t + 0 ≤ v.toInt ∧ v.toInt ≤ t + 0
      omega
    exact fun q hq => by cases hq
  · refine ri_okE_of ?_ ?_
    · show (0 ≤ x ∧ x ≤ 599) ∧ (1 ≤ (1 * (0 + 1)) ∧ (1 * (0 + 1)) ≤ 1) ∧ (0 ≤ t ∧ t ≤ 100) ∧ (0 ≤ (x + 1 * 0) ∧ (x + 1 * 0) ≤ 599) ∧ (0 ≤ ((x + 1 * 0) / 10) ∧ ((x + 1 * 0) / 10) ≤ 59) ∧ True
      refine ⟨?_, ?_, ?_, ?_, ?_, trivial⟩
      all_goals omega
    · refine List.forall_mem_cons.mpr ⟨ru_add (fun u v hu hv => ?_), ?_⟩
      · have hu : x + 0 ≤ u ∧ u ≤ x + 0 := hu
        have hv : (1 * (0 + 1)) + (-1) ≤ v ∧ v ≤ (1 * (0 + 1)) + (-1) := hv
        show u + v = (x + 1 * 0) ∧ -2147483648 ≤ u + v ∧ u + v ≤ 2147483647
        omega
      refine List.forall_mem_cons.mpr ⟨ru_div (fun u v hu hv => ?_), ?_⟩
      · have hu : (x + 1 * 0) + 0 ≤ u ∧ u ≤ (x + 1 * 0) + 0 := hu
        have hv : 0 + 10 ≤ v ∧ v ≤ 0 + 10 := hv
        show v = 10 ∧ 0 ≤ u ∧ u / 10 = ((x + 1 * 0) / 10)
        omega
      refine List.forall_mem_cons.mpr ⟨ru_div (fun u v hu hv => ?_), ?_⟩
      · have hu : x + 0 ≤ u ∧ u ≤ x + 0 := hu
        have hv : 0 + 10 ≤ v ∧ v ≤ 0 + 10 := hv
        show v = 10 ∧ 0 ≤ u ∧ u / 10 = ((x + 1 * 0) / 10)
        omega
      exact fun q hq => by cases hq
  · refine List.forall_mem_cons.mpr ⟨fun v hv => ?_, ?_⟩
    · have hv : ((x + 1 * 0) / 10) + 0 ≤ v.toInt ∧ v.toInt ≤ ((x + 1 * 0) / 10) + 0 := hv
      show (x / 10) + 0 ≤ v.toInt ∧ v.toInt ≤ (x / 10) + 0
      omega
    refine List.forall_mem_cons.mpr ⟨fun v hv => ?_, ?_⟩
    · have hv : t + 0 ≤ v.toInt ∧ v.toInt ≤ t + 0 := hv
      show t + 0 ≤ v.toInt ∧ v.toInt ≤ t + 0
      omega
    exact fun q hq => by cases hq
def cEAn : ri_E := ([(0, 599), ((-60), (-2)), (0, 100), (0, 599), (0, 59)], [(0, (1, 0, 0), (2, 1, 1), 4), (3, (4, 0, 0), (0, 10, 10), 5)])
def cEBn : ri_E := ([(0, 599), ((-60), (-2)), (0, 100), ((-60), (-1))], [(0, (1, 0, 0), (2, 1, 1), 4)])
def cECn : ri_E := ([(0, 599), ((-1), (-1)), (0, 100), (0, 599), (0, 59)], [(0, (1, 0, 0), (2, 1, 1), 4), (3, (4, 0, 0), (0, 10, 10), 5), (3, (1, 0, 0), (0, 10, 10), 5)])
def cLAn : List (ri_I × ri_I) := [((4, 0, 0), (1, 0, 0)), ((2, 1, 1), (2, 0, 0)), ((3, 1, 1), (3, 0, 0)), ((3, 0, 0), (3, (-1), (-1))), ((5, 0, 0), (0, (-1), 59)), ((3, 0, 0), (0, 0, 500))]
def cLBn : List (ri_I × ri_I) := [((0, (-1), (-1)), (1, 0, 0)), ((3, 0, 0), (2, 0, 0))]
def cLCn : List (ri_I × ri_I) := [((5, 0, 0), (1, 0, 0)), ((3, 0, 0), (2, 0, 0))]
theorem co_ok_n : co_ok (-1) cEAn cEBn cECn cLAn cLBn cLCn := by
  refine ⟨fun j x t h1 h2 h3 h4 h5 h6 h7 => ⟨?_, ?_⟩, fun j x t h1 h2 h3 h4 h5 h6 => ⟨?_, ?_⟩, fun x t h1 h2 h4 h5 => ⟨?_, ?_⟩⟩
  · refine ri_okE_of ?_ ?_
    · show (0 ≤ x ∧ x ≤ 599) ∧ ((-60) ≤ ((-1) * (((j : Int) + 1) + 1)) ∧ ((-1) * (((j : Int) + 1) + 1)) ≤ (-2)) ∧ (0 ≤ t ∧ t ≤ 100) ∧ (0 ≤ (x + (-1) * ((j : Int) + 1)) ∧ (x + (-1) * ((j : Int) + 1)) ≤ 599) ∧ (0 ≤ ((x + (-1) * ((j : Int) + 1)) / 10) ∧ ((x + (-1) * ((j : Int) + 1)) / 10) ≤ 59) ∧ True
      refine ⟨?_, ?_, ?_, ?_, ?_, trivial⟩
      all_goals omega
    · refine List.forall_mem_cons.mpr ⟨ru_add (fun u v hu hv => ?_), ?_⟩
      · have hu : x + 0 ≤ u ∧ u ≤ x + 0 := hu
        have hv : ((-1) * (((j : Int) + 1) + 1)) + 1 ≤ v ∧ v ≤ ((-1) * (((j : Int) + 1) + 1)) + 1 := hv
        show u + v = (x + (-1) * ((j : Int) + 1)) ∧ -2147483648 ≤ u + v ∧ u + v ≤ 2147483647
        omega
      refine List.forall_mem_cons.mpr ⟨ru_div (fun u v hu hv => ?_), ?_⟩
      · have hu : (x + (-1) * ((j : Int) + 1)) + 0 ≤ u ∧ u ≤ (x + (-1) * ((j : Int) + 1)) + 0 := hu
        have hv : 0 + 10 ≤ v ∧ v ≤ 0 + 10 := hv
        show v = 10 ∧ 0 ≤ u ∧ u / 10 = ((x + (-1) * ((j : Int) + 1)) / 10)
        omega
      exact fun q hq => by cases hq
  · refine List.forall_mem_cons.mpr ⟨fun v hv => ?_, ?_⟩
    · have hv : (x + (-1) * ((j : Int) + 1)) + 0 ≤ v.toInt ∧ v.toInt ≤ (x + (-1) * ((j : Int) + 1)) + 0 := hv
      show (x + (-1) * ((j : Int) + 1)) + 0 ≤ v.toInt ∧ v.toInt ≤ (x + (-1) * ((j : Int) + 1)) + 0
      omega
    refine List.forall_mem_cons.mpr ⟨fun v hv => ?_, ?_⟩
    · have hv : ((-1) * (((j : Int) + 1) + 1)) + 1 ≤ v.toInt ∧ v.toInt ≤ ((-1) * (((j : Int) + 1) + 1)) + 1 := hv
      show ((-1) * ((j : Int) + 1)) + 0 ≤ v.toInt ∧ v.toInt ≤ ((-1) * ((j : Int) + 1)) + 0
      omega
    refine List.forall_mem_cons.mpr ⟨fun v hv => ?_, ?_⟩
    · have hv : t + 1 ≤ v.toInt ∧ v.toInt ≤ t + 1 := hv
      show (t + 1) + 0 ≤ v.toInt ∧ v.toInt ≤ (t + 1) + 0
      omega
    refine List.forall_mem_cons.mpr ⟨fun v hv => ?_, ?_⟩
    · have hv : t + 0 ≤ v.toInt ∧ v.toInt ≤ t + 0 := hv
      show (t + 1) + (-1) ≤ v.toInt ∧ v.toInt ≤ (t + 1) + (-1)
      omega
    refine List.forall_mem_cons.mpr ⟨fun v hv => ?_, ?_⟩
    · have hv : ((x + (-1) * ((j : Int) + 1)) / 10) + 0 ≤ v.toInt ∧ v.toInt ≤ ((x + (-1) * ((j : Int) + 1)) / 10) + 0 := hv
      show 0 + (-1) ≤ v.toInt ∧ v.toInt ≤ 0 + 59
      omega
    refine List.forall_mem_cons.mpr ⟨fun v hv => ?_, ?_⟩
    · have hv : t + 0 ≤ v.toInt ∧ v.toInt ≤ t + 0 := hv
      show 0 + 0 ≤ v.toInt ∧ v.toInt ≤ 0 + 500
      omega
    exact fun q hq => by cases hq
  · refine ri_okE_of ?_ ?_
    · show (0 ≤ x ∧ x ≤ 599) ∧ ((-60) ≤ ((-1) * (((j : Int) + 1) + 1)) ∧ ((-1) * (((j : Int) + 1) + 1)) ≤ (-2)) ∧ (0 ≤ t ∧ t ≤ 100) ∧ ((-60) ≤ (x + (-1) * ((j : Int) + 1)) ∧ (x + (-1) * ((j : Int) + 1)) ≤ (-1)) ∧ True
      refine ⟨?_, ?_, ?_, ?_, trivial⟩
      all_goals omega
    · refine List.forall_mem_cons.mpr ⟨ru_add (fun u v hu hv => ?_), ?_⟩
      · have hu : x + 0 ≤ u ∧ u ≤ x + 0 := hu
        have hv : ((-1) * (((j : Int) + 1) + 1)) + 1 ≤ v ∧ v ≤ ((-1) * (((j : Int) + 1) + 1)) + 1 := hv
        show u + v = (x + (-1) * ((j : Int) + 1)) ∧ -2147483648 ≤ u + v ∧ u + v ≤ 2147483647
        omega
      exact fun q hq => by cases hq
  · refine List.forall_mem_cons.mpr ⟨fun v hv => ?_, ?_⟩
    · have hv : 0 + (-1) ≤ v.toInt ∧ v.toInt ≤ 0 + (-1) := hv
      show (-1) + 0 ≤ v.toInt ∧ v.toInt ≤ (-1) + 0
      omega
    refine List.forall_mem_cons.mpr ⟨fun v hv => ?_, ?_⟩
    · have hv : t + 0 ≤ v.toInt ∧ v.toInt ≤ t + 0 := hv
      show t + 0 ≤ v.toInt ∧ v.toInt ≤ t + 0
      omega
    exact fun q hq => by cases hq
  · refine ri_okE_of ?_ ?_
    · show (0 ≤ x ∧ x ≤ 599) ∧ ((-1) ≤ ((-1) * (0 + 1)) ∧ ((-1) * (0 + 1)) ≤ (-1)) ∧ (0 ≤ t ∧ t ≤ 100) ∧ (0 ≤ (x + (-1) * 0) ∧ (x + (-1) * 0) ≤ 599) ∧ (0 ≤ ((x + (-1) * 0) / 10) ∧ ((x + (-1) * 0) / 10) ≤ 59) ∧ True
      refine ⟨?_, ?_, ?_, ?_, ?_, trivial⟩
      all_goals omega
    · refine List.forall_mem_cons.mpr ⟨ru_add (fun u v hu hv => ?_), ?_⟩
      · have hu : x + 0 ≤ u ∧ u ≤ x + 0 := hu
        have hv : ((-1) * (0 + 1)) + 1 ≤ v ∧ v ≤ ((-1) * (0 + 1)) + 1 := hv
        show u + v = (x + (-1) * 0) ∧ -2147483648 ≤ u + v ∧ u + v ≤ 2147483647
        omega
      refine List.forall_mem_cons.mpr ⟨ru_div (fun u v hu hv => ?_), ?_⟩
      · have hu : (x + (-1) * 0) + 0 ≤ u ∧ u ≤ (x + (-1) * 0) + 0 := hu
        have hv : 0 + 10 ≤ v ∧ v ≤ 0 + 10 := hv
        show v = 10 ∧ 0 ≤ u ∧ u / 10 = ((x + (-1) * 0) / 10)
        omega
      refine List.forall_mem_cons.mpr ⟨ru_div (fun u v hu hv => ?_), ?_⟩
      · have hu : x + 0 ≤ u ∧ u ≤ x + 0 := hu
        have hv : 0 + 10 ≤ v ∧ v ≤ 0 + 10 := hv
        show v = 10 ∧ 0 ≤ u ∧ u / 10 = ((x + (-1) * 0) / 10)
        omega
      exact fun q hq => by cases hq
  · refine List.forall_mem_cons.mpr ⟨fun v hv => ?_, ?_⟩
    · have hv : ((x + (-1) * 0) / 10) + 0 ≤ v.toInt ∧ v.toInt ≤ ((x + (-1) * 0) / 10) + 0 := hv
      show (x / 10) + 0 ≤ v.toInt ∧ v.toInt ≤ (x / 10) + 0
      omega
    refine List.forall_mem_cons.mpr ⟨fun v hv => ?_, ?_⟩
    · have hv : t + 0 ≤ v.toInt ∧ v.toInt ≤ t + 0 := hv
      show t + 0 ≤ v.toInt ∧ v.toInt ≤ t + 0
      omega
    exact fun q hq => by cases hq
