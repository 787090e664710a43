/-! Modes: when cells of one mode are cells of another -/
/-- every value of the type T is of the type U -/
def rt_sbT (T U : rt_T) : Bool := match U with
  | .inl b => (match T with
    | .inl a => cond (ri_le b.1 a.1) (ri_le a.2 b.2) false
    | .inr _ => false)
  | .inr (.inl j) => (match T with
    | .inr (.inl k) => Nat.beq k j
    | _ => false)
  | .inr (.inr true) => (match T with
    | .inr (.inr true) => true
    | _ => false)
  | .inr (.inr false) => true
/-- frozen there, frozen here -/
def rt_flk (a b : Nat) : Bool := cond (Nat.beq b 1) (Nat.beq a 1) true
noncomputable def rt_swS (l : List (Nat × rt_F)) : List (Nat × rt_F) → Nat → Option (List (Nat × rt_T)) := List.rec (motive := fun _ => List (Nat × rt_F) → Nat → Option (List (Nat × rt_T))) (fun m _ => match m with
  | [] => some []
  | _ :: _ => none) (fun q _ ih m p => match m with
  | [] => none
  | u :: m' => cond (Nat.beq q.1 u.1) (cond (rt_flk q.2.1 u.2.1) (match ih m' (Nat.add p q.1) with
    | none => none
    | some r => cond (rt_sbT q.2.2 u.2.2) (some r) (cond (Nat.beq q.1 1) (some ((p, u.2.2) :: r)) none)) none) none) l
noncomputable def rt_seg (l : List rt_F) : List (Nat × rt_F) := List.rec (motive := fun _ => List (Nat × rt_F)) [] (fun f _ ih => (1, f) :: ih) l
noncomputable def rt_sw1 (a b : rt_K) : Option (List (Nat × rt_T)) := match a with
  | .inl o => (match b with
    | .inl u => cond (Nat.beq o.1 u.1) (rt_swS (rt_seg o.2) (rt_seg u.2) 0) none
    | .inr _ => none)
  | .inr o => (match b with
    | .inl _ => none
    | .inr u => cond (Nat.beq o.1 u.1) (rt_swS o.2 u.2 0) none)
/-- the slots whose types get narrower: kind, slot, type -/
noncomputable def rt_swK (l : List rt_K) : List rt_K → Nat → Option (List (Nat × Nat × rt_T)) := List.rec (motive := fun _ => List rt_K → Nat → Option (List (Nat × Nat × rt_T))) (fun m _ => match m with
  | [] => some []
  | _ :: _ => none) (fun a _ ih m k => match m with
  | [] => none
  | b :: m' => (match rt_sw1 a b with
    | none => none
    | some r => (match ih m' (Nat.succ k) with
      | none => none
      | some s => some (List.append (List.map (fun q => (k, q)) r) s)))) l
section RT52
variable {K ad : List Nat} {ws ws0 : va_W} {KK : List (List rt_K)} {κ : Nat → ClassId} {Φ : Nat → Int → va_W → Prop} {t0 : Int} {g g' s s' : Nat}
theorem rt_sbT_ok {T U : rt_T} (h : rt_sbT T U = true) {v : Value} (hv : rt_gT K ad T v) : rt_gT K ad U v := by
  rcases U with b | j | _ | _
  · rcases T with a | T
    · obtain ⟨z, e, h1, h2⟩ := hv
      have h : cond (ri_le b.1 a.1) (ri_le a.2 b.2) false = true := h
      cases c : ri_le b.1 a.1 with
      | false => rw [c] at h; cases h
      | true =>
        rw [c] at h
        have c := ri_le_iff.mp c
        have h : a.2 ≤ b.2 := ri_le_iff.mp h
        exact ⟨z, e, by omega, by omega⟩
    · cases h
  · rcases T with a | k | T
    · cases h
    · have h : k = j := Nat.eq_of_beq_eq_true h
      subst h
      exact hv
    · cases h
  · trivial
  · rcases T with a | k | _ | _
    · cases h
    · cases h
    · cases h
    · exact hv
theorem rt_flk_ok {a b : Nat} (h : rt_flk a b = true) (hb : b = 1) : a = 1 := by
  subst hb
  exact Nat.eq_of_beq_eq_true h
theorem rt_swS_ok : ∀ (l m : List (Nat × rt_F)) (p : Nat) (r : List (Nat × rt_T)), rt_swS l m p = some r → rt_tot l = rt_tot m ∧ ∀ (i : Nat) (f' : rt_F), rt_sg m i = some f' → ∃ f, rt_sg l i = some f ∧ (f'.1 = 1 → f.1 = 1) ∧ (rt_sbT f.2 f'.2 = true ∨ (p + i, f'.2) ∈ r) := by
  intro l
  induction l with
  | nil =>
    intro m p r h
    cases m with
    | nil => exact ⟨rfl, (fun i f' hf => by cases hf)⟩
    | cons u m => cases h
  | cons q l ih =>
    intro m p r h
    cases m with
    | nil => cases h
    | cons u m =>
      have h : cond (Nat.beq q.1 u.1) (cond (rt_flk q.2.1 u.2.1) (match rt_swS l m (p + q.1) with
        | none => none
        | some r => cond (rt_sbT q.2.2 u.2.2) (some r) (cond (Nat.beq q.1 1) (some ((p, u.2.2) :: r)) none)) none) none = some r := h
      obtain ⟨c1, h⟩ := ri_cond h rfl
      obtain ⟨c2, h⟩ := ri_cond h rfl
      have c1 : q.1 = u.1 := Nat.eq_of_beq_eq_true c1
      cases h1 : rt_swS l m (p + q.1) with
      | none => rw [h1] at h; cases h
      | some r1 =>
        rw [h1] at h
        have h : cond (rt_sbT q.2.2 u.2.2) (some r1) (cond (Nat.beq q.1 1) (some ((p, u.2.2) :: r1)) none) = some r := h
        obtain ⟨i1, i2⟩ := ih m (p + q.1) r1 h1
        have hr : (rt_sbT q.2.2 u.2.2 = true ∨ (q.1 = 1 ∧ (p, u.2.2) ∈ r)) ∧ ∀ x ∈ r1, x ∈ r := by
          cases c3 : rt_sbT q.2.2 u.2.2 with
          | true =>
            rw [c3] at h
            cases h
            exact ⟨Or.inl rfl, fun x hx => hx⟩
          | false =>
            rw [c3, cond_false] at h
            obtain ⟨c4, h⟩ := ri_cond h rfl
            cases h
            exact ⟨Or.inr ⟨Nat.eq_of_beq_eq_true c4, List.mem_cons_self⟩, fun x hx => List.mem_cons_of_mem _ hx⟩
        refine ⟨?_, fun i f' hf => ?_⟩
        · show q.1 + rt_tot l = u.1 + rt_tot m
          rw [c1, i1]
        · have hf : cond (Nat.blt i u.1) (some u.2) (rt_sg m (i - u.1)) = some f' := hf
          show ∃ f, cond (Nat.blt i q.1) (some q.2) (rt_sg l (i - q.1)) = some f ∧ _
          rw [← c1] at hf
          cases c5 : Nat.blt i q.1 with
          | true =>
            rw [c5] at hf
            cases hf
            have c5 := rt_blt.mp c5
            refine ⟨q.2, rfl, rt_flk_ok c2, ?_⟩
            rcases hr.1 with e | ⟨e1, e2⟩
            · exact Or.inl e
            · have : i = 0 := by omega
              subst this
              exact Or.inr e2
          | false =>
            rw [c5] at hf
            have c5 := rt_bltf c5
            obtain ⟨f, k1, k2, k3⟩ := i2 _ f' hf
            refine ⟨f, k1, k2, ?_⟩
            rcases k3 with k3 | k3
            · exact Or.inl k3
            · refine Or.inr (hr.2 _ ?_)
              have : p + q.1 + (i - q.1) = p + i := by omega
              rw [this] at k3
              exact k3
theorem rt_seg_sg : ∀ (l : List rt_F) (i : Nat), rt_sg (rt_seg l) i = l[i]? := by
  intro l
  induction l with
  | nil => intro i; rfl
  | cons f l ih =>
    intro i
    cases i with
    | zero => rfl
    | succ i => exact ih i
theorem rt_seg_tot : ∀ (l : List rt_F), rt_tot (rt_seg l) = l.length := by
  intro l
  induction l with
  | nil => rfl
  | cons f l ih =>
    show 1 + rt_tot (rt_seg l) = l.length + 1
    rw [ih]
    omega
theorem rt_sw1_ok {a b : rt_K} {r : List (Nat × rt_T)} (h : rt_sw1 a b = some r) : (∀ e, rt_shp κ a e → rt_shp κ b e) ∧ ∀ (i : Nat) (f' : rt_F), rt_sT b i = some f' → ∃ f, rt_sT a i = some f ∧ (f'.1 = 1 → f.1 = 1) ∧ (rt_sbT f.2 f'.2 = true ∨ (i, f'.2) ∈ r) := by
  rcases a with o | o
  · rcases b with u | u
    · have h : cond (Nat.beq o.1 u.1) (rt_swS (rt_seg o.2) (rt_seg u.2) 0) none = some r := h
      obtain ⟨c1, h⟩ := ri_cond h rfl
      have c1 : o.1 = u.1 := Nat.eq_of_beq_eq_true c1
      obtain ⟨h1, h2⟩ := rt_swS_ok _ _ _ _ h
      rw [rt_seg_tot, rt_seg_tot] at h1
      refine ⟨fun e he => ?_, fun i f' hf => ?_⟩
      · obtain ⟨vs, e1, e2⟩ := he
        exact ⟨vs, by rw [← c1]; exact e1, by rw [← h1]; exact e2⟩
      · have hf : ri_nth u.2 i = some f' := hf
        rw [ri_nth_eq, ← rt_seg_sg] at hf
        obtain ⟨f, k1, k2, k3⟩ := h2 i f' hf
        rw [rt_seg_sg, ← ri_nth_eq] at k1
        rw [Nat.zero_add] at k3
        exact ⟨f, k1, k2, k3⟩
    · cases h
  · rcases b with u | u
    · cases h
    · have h : cond (Nat.beq o.1 u.1) (rt_swS o.2 u.2 0) none = some r := h
      obtain ⟨c1, h⟩ := ri_cond h rfl
      have c1 : o.1 = u.1 := Nat.eq_of_beq_eq_true c1
      obtain ⟨h1, h2⟩ := rt_swS_ok _ _ _ _ h
      refine ⟨fun e he => ?_, fun i f' hf => ?_⟩
      · have he : (o.1 ≤ 2 ∧ ∃ f : Nat → Int32, e = .inl (κ o.1, rt_tot o.2, .inl f)) ∨ (o.1 = 3 ∧ ∃ f : Nat → Int64, e = .inl (κ 3, rt_tot o.2, .inr (.inl f))) ∨ (4 ≤ o.1 ∧ o.1 ≤ 7 ∧ ∃ f : Nat → Option Nat, e = .inl (κ o.1, rt_tot o.2, .inr (.inr (.inr (.inr f))))) := he
        rw [c1, h1] at he
        exact he
      · obtain ⟨f, k1, k2, k3⟩ := h2 i f' hf
        rw [Nat.zero_add] at k3
        exact ⟨f, k1, k2, k3⟩
theorem rt_swK_ok : ∀ (l m : List rt_K) (k0 : Nat) (r : List (Nat × Nat × rt_T)), rt_swK l m k0 = some r → ∀ (k : Nat), (∀ a, l[k]? = some a → ∃ b, m[k]? = some b) ∧ ∀ b, m[k]? = some b → ∃ a r1, l[k]? = some a ∧ rt_sw1 a b = some r1 ∧ ∀ x ∈ r1, (k0 + k, x) ∈ r := by
  intro l
  induction l with
  | nil =>
    intro m k0 r h k
    cases m with
    | nil => exact ⟨(fun a ha => by cases ha), (fun b hb => by cases hb)⟩
    | cons u m => cases h
  | cons a l ih =>
    intro m k0 r h k
    cases m with
    | nil => cases h
    | cons b m =>
      have h : (match rt_sw1 a b with
        | none => none
        | some r => (match rt_swK l m (k0 + 1) with
          | none => none
          | some s => some (List.append (List.map (fun q => (k0, q)) r) s))) = some r := h
      cases h1 : rt_sw1 a b with
      | none => rw [h1] at h; cases h
      | some r1 =>
        rw [h1] at h
        have h : (match rt_swK l m (k0 + 1) with
          | none => none
          | some s => some (List.append (List.map (fun q => (k0, q)) r1) s)) = some r := h
        cases h2 : rt_swK l m (k0 + 1) with
        | none => rw [h2] at h; cases h
        | some r2 =>
          rw [h2] at h
          cases h
          cases k with
          | zero =>
            refine ⟨fun a' _ => ⟨b, rfl⟩, fun b' hb' => ?_⟩
            cases hb'
            exact ⟨a, r1, rfl, h1, fun x hx => List.mem_append_left _ (List.mem_map.mpr ⟨x, hx, rfl⟩)⟩
          | succ k =>
            obtain ⟨i1, i2⟩ := ih m (k0 + 1) r2 h2 k
            refine ⟨i1, fun b' hb' => ?_⟩
            obtain ⟨a', r', e1, e2, e3⟩ := i2 b' hb'
            refine ⟨a', r', e1, e2, fun x hx => List.mem_append_right _ ?_⟩
            have := e3 x hx
            have e4 : k0 + 1 + k = k0 + (k + 1) := by omega
            rw [e4] at this
            exact this
/-- cells of the mode g are cells of the mode g', if the slots that get narrower hold what they should -/
theorem rt_sw_hp {l m : List rt_K} (hl : KK[g]? = some l) (hm : KK[g']? = some m) {r : List (Nat × Nat × rt_T)} (h : rt_swK l m 0 = some r) (hΦ : Φ g (t0 - s) ws → Φ g' (t0 - s') ws) (hn : ∀ (k j : Nat) (T : rt_T), (k, j, T) ∈ r → ∀ (i q : Nat) (e : va_E) (v : Value), K[i]? = some k → ws[i]? = some (q, e) → rt_sl e j = some v → rt_gT K ad T v) (hh : rt_hp KK κ K ad ws0 Φ t0 g s ws) : rt_hp KK κ K ad ws0 Φ t0 g' s' ws := by
  obtain ⟨had, hH, hA, hF⟩ := hh
  have kd1 : ∀ k, rt_kd KK g k = l[k]? := fun k => by
    unfold rt_kd
    rw [ri_nth_eq, hl]
    exact ri_nth_eq _ _
  have kd2 : ∀ k, rt_kd KK g' k = m[k]? := fun k => by
    unfold rt_kd
    rw [ri_nth_eq, hm]
    exact ri_nth_eq _ _
  refine ⟨had, fun i k hi => ?_, fun i k j kd f hi hkd hf hfl => ?_, hΦ hF⟩
  · obtain ⟨q, e, kd, h1, h2, h3, h4⟩ := hH i k hi
    rw [kd1] at h2
    obtain ⟨w1, w2⟩ := rt_swK_ok _ _ _ _ h k
    obtain ⟨b, hb⟩ := w1 _ h2
    obtain ⟨a, r1, f1, f2, f3⟩ := w2 b hb
    have : a = kd := Option.some.inj (f1.symm.trans h2)
    subst this
    obtain ⟨s1, s2⟩ := rt_sw1_ok (κ := κ) f2
    refine ⟨q, e, b, h1, by rw [kd2]; exact hb, s1 e h3, fun j f' hf' => ?_⟩
    obtain ⟨f, t1, -, t3⟩ := s2 j f' hf'
    obtain ⟨v, v1, v2⟩ := h4 j f t1
    refine ⟨v, v1, ?_⟩
    rcases t3 with t3 | t3
    · exact rt_sbT_ok t3 v2
    · have := f3 _ t3
      rw [Nat.zero_add] at this
      exact hn k j f'.2 this i q e v hi h1 v1
  · rw [kd2] at hkd
    obtain ⟨w1, w2⟩ := rt_swK_ok _ _ _ _ h k
    obtain ⟨a, r1, f1, f2, f3⟩ := w2 kd hkd
    obtain ⟨s1, s2⟩ := rt_sw1_ok (κ := κ) f2
    obtain ⟨f0, t1, t2, -⟩ := s2 j f hf
    exact hA i k j a f0 hi (by rw [kd1]; exact f1) t1 (t2 hfl)
end RT52
