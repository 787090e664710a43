/-! Cells as a constructor makes them are cells of kinds -/
noncomputable def rt_fV (K : List Nat) (T : rt_T) (a : ri_V) : Bool := match T with
  | .inl b => (match a with
    | .inl x => cond (Nat.beq x.1 0) (cond (ri_le b.1 x.2.1) (ri_le x.2.2 b.2) false) false
    | .inr _ => false)
  | .inr (.inl k) => (match a with
    | .inr (.inl (some j)) => (match ri_nth K j with
      | some k' => Nat.beq k' k
      | none => false)
    | _ => false)
  | .inr (.inr true) => (match a with
    | .inr (.inr _) => true
    | _ => false)
  | .inr (.inr false) => true
/-- n elements of one type, then the rest -/
noncomputable def rt_fN (K : List Nat) (T : rt_T) (n : Nat) : List ri_V → Option (List ri_V) := Nat.rec (motive := fun _ => List ri_V → Option (List ri_V)) (fun es => some es) (fun _ ih es => match es with
  | [] => none
  | a :: r => cond (rt_fV K T a) (ih r) none) n
noncomputable def rt_fS (K : List Nat) (l : List (Nat × rt_F)) : List ri_V → Bool := List.rec (motive := fun _ => List ri_V → Bool) (fun es => match es with
  | [] => true
  | _ :: _ => false) (fun q _ ih es => match rt_fN K q.2.2 q.1 es with
  | none => false
  | some r => ih r) l
def rt_isJ (T : rt_T) : Bool := match T with
  | .inr (.inr _) => true
  | _ => false
noncomputable def rt_fL (l : List (Nat × rt_F)) : Bool := rt_all1 (fun q => rt_isJ q.2.2) l
noncomputable def rt_fC (K : List Nat) (kd : rt_K) (c : ri_C) : Bool := match kd with
  | .inl o => (match c with
    | .inl p => cond (Nat.beq o.1 p.1) (rt_fS K (rt_seg o.2) p.2) false
    | .inr _ => false)
  | .inr o => (match c with
    | .inl _ => false
    | .inr p => cond (Nat.beq o.1 p.1) (cond (rt_fS K o.2 p.2) (cond (Nat.beq o.1 3) (rt_fL o.2) true) false) false)
noncomputable def rt_fH (K : List Nat) (l : List rt_K) (ks : List Nat) : List ri_C → Bool := List.rec (motive := fun _ => List ri_C → Bool) (fun h => match h with
  | [] => true
  | _ :: _ => false) (fun k _ ih h => match h with
  | [] => false
  | c :: r => (match ri_nth l k with
    | none => false
    | some kd => cond (rt_fC K kd c) (ih r) false)) ks
section RT66
variable {K ad : List Nat} {κ : Nat → ClassId} {τ : Nat → Int}
theorem rt_fV_ok {T : rt_T} {a : ri_V} (h : rt_fV K T a = true) {v : Value} (hv : ri_gV τ ad a v) : rt_gT K ad T v := by
  rcases T with b | k | _ | _
  · rcases a with x | x
    · have h : cond (Nat.beq x.1 0) (cond (ri_le b.1 x.2.1) (ri_le x.2.2 b.2) false) false = true := h
      obtain ⟨c1, h2⟩ := rt_cnd h
      obtain ⟨c2, c3⟩ := rt_cnd h2
      have c1 := Nat.eq_of_beq_eq_true c1
      have c2 := ri_le_iff.mp c2
      have c3 := ri_le_iff.mp c3
      obtain ⟨z, rfl, gz⟩ := hv
      obtain ⟨t, lo, hi⟩ := x
      have c1 : t = 0 := c1
      subst c1
      have c2 : b.1 ≤ lo := c2
      have c3 : hi ≤ b.2 := c3
      have gz := ri_gI_0.mp gz
      exact ⟨z, rfl, by omega, by omega⟩
    · cases h
  · rcases a with x | _ | x
    · cases h
    · rename_i o
      cases o with
      | none => cases h
      | some j =>
        have h : (match (generalizing := false) ri_nth K j with
          | some k' => Nat.beq k' k
          | none => false) = true := h
        rw [ri_nth_eq] at h
        cases hj : K[j]? with
        | none => rw [hj] at h; cases h
        | some k' =>
          rw [hj] at h
          have h := Nat.eq_of_beq_eq_true h
          subst h
          obtain ⟨q, e1, rfl⟩ := hv
          exact ⟨q, rfl, j, e1, hj⟩
    · cases h
  · trivial
  · rcases a with x | x | x
    · cases h
    · cases h
    · exact hv
theorem rt_fN_ok {T : rt_T} : ∀ {n : Nat} {es r : List ri_V}, rt_fN K T n es = some r → es.length = n + r.length ∧ (∀ (j : Nat) (a : ri_V), j < n → es[j]? = some a → rt_fV K T a = true) ∧ ∀ j, es[n + j]? = r[j]?
  | 0, es, r, h => by
    cases h
    exact ⟨by simp, fun j a hj => absurd hj (Nat.not_lt_zero _), fun j => by rw [Nat.zero_add]⟩
  | n + 1, [], r, h => by cases h
  | n + 1, a :: es, r, h => by
    have h : cond (rt_fV K T a) (rt_fN K T n es) none = some r := h
    cases c : rt_fV K T a with
    | false => rw [c] at h; cases h
    | true =>
      rw [c] at h
      obtain ⟨h1, h2, h3⟩ := rt_fN_ok (n := n) (es := es) h
      refine ⟨by simp [h1]; omega, fun j b hj hb => ?_, fun j => ?_⟩
      · cases j with
        | zero =>
          cases hb
          exact c
        | succ j => exact h2 j b (by omega) hb
      · rw [show n + 1 + j = (n + j) + 1 by omega]
        exact h3 j
theorem rt_fS_ok : ∀ {l : List (Nat × rt_F)} {es : List ri_V}, rt_fS K l es = true → es.length = rt_tot l ∧ ∀ (i : Nat) (f : rt_F), rt_sg l i = some f → ∃ a, es[i]? = some a ∧ rt_fV K f.2 a = true
  | [], [], _ => ⟨rfl, fun i f hf => by cases hf⟩
  | [], _ :: _, h => by cases h
  | q :: l, es, h => by
    have h : (match (generalizing := false) rt_fN K q.2.2 q.1 es with
      | none => false
      | some r => rt_fS K l r) = true := h
    cases hn : rt_fN K q.2.2 q.1 es with
    | none => rw [hn] at h; cases h
    | some r =>
      rw [hn] at h
      obtain ⟨h1, h2, h3⟩ := rt_fN_ok hn
      obtain ⟨g1, g2⟩ := rt_fS_ok (l := l) (es := r) h
      refine ⟨by show es.length = q.1 + rt_tot l; omega, fun i f hf => ?_⟩
      have hf : cond (Nat.blt i q.1) (some q.2) (rt_sg l (Nat.sub i q.1)) = some f := hf
      cases hc : Nat.blt i q.1 with
      | true =>
        rw [hc] at hf
        cases hf
        have hi := rt_blt.mp hc
        have hlt : i < es.length := by omega
        exact ⟨es[i], List.getElem?_eq_getElem hlt, h2 i _ hi (List.getElem?_eq_getElem hlt)⟩
      | false =>
        rw [hc] at hf
        have hi := rt_bltf hc
        obtain ⟨a, e1, e2⟩ := g2 _ f hf
        refine ⟨a, ?_, e2⟩
        have := h3 (Nat.sub i q.1)
        rw [e1] at this
        have ei : q.1 + Nat.sub i q.1 = i := by
          show q.1 + (i - q.1) = i
          omega
        rw [ei] at this
        exact this
theorem rt_fL_ok : ∀ {l : List (Nat × rt_F)}, rt_fL l = true → ∀ (i : Nat) (f : rt_F), rt_sg l i = some f → rt_isJ f.2 = true
  | [], _, i, f, hf => by cases hf
  | q :: l, h, i, f, hf => by
    have h : cond (rt_isJ q.2.2) (rt_fL l) false = true := h
    obtain ⟨h1, h2⟩ := rt_cnd h
    have hf : cond (Nat.blt i q.1) (some q.2) (rt_sg l (Nat.sub i q.1)) = some f := hf
    cases hc : Nat.blt i q.1 with
    | true =>
      rw [hc] at hf
      cases hf
      exact h1
    | false =>
      rw [hc] at hf
      exact rt_fL_ok h2 _ f hf
theorem rt_fC_ok {kd : rt_K} {c : ri_C} (h : rt_fC K kd c = true) {e : va_E} (hc : ri_gC τ ad κ c e) : rt_gC κ K ad kd e := by
  rcases kd with o | o
  · rcases c with p | p
    · have h : cond (Nat.beq o.1 p.1) (rt_fS K (rt_seg o.2) p.2) false = true := h
      obtain ⟨c1, h2⟩ := rt_cnd h
      have c1 := Nat.eq_of_beq_eq_true c1
      obtain ⟨g1, g2⟩ := rt_fS_ok h2
      obtain ⟨vs, rfl, e1, e2⟩ := hc
      rw [rt_seg_tot] at g1
      refine ⟨⟨vs, by rw [c1], by rw [e1]; exact g1⟩, fun i f hf => ?_⟩
      have hf : ri_nth o.2 i = some f := hf
      rw [ri_nth_eq, ← rt_seg_sg] at hf
      obtain ⟨a, m1, m2⟩ := g2 i f hf
      obtain ⟨v, n1, n2⟩ := e2 i a m1
      exact ⟨v, n1, rt_fV_ok m2 n2⟩
    · cases h
  · rcases c with p | p
    · cases h
    · have h : cond (Nat.beq o.1 p.1) (cond (rt_fS K o.2 p.2) (cond (Nat.beq o.1 3) (rt_fL o.2) true) false) false = true := h
      obtain ⟨c1, h1⟩ := rt_cnd h
      obtain ⟨h2, hJ⟩ := rt_cnd h1
      have c1 := Nat.eq_of_beq_eq_true c1
      obtain ⟨g1, g2⟩ := rt_fS_ok h2
      obtain ⟨h7, hA⟩ := hc
      obtain ⟨t, sg⟩ := o
      obtain ⟨t', es⟩ := p
      have c1 : t = t' := c1
      subst c1
      have h7 : t ≤ 7 := h7
      have hA : ri_gA τ ad κ t es e := hA
      have g1 : es.length = rt_tot sg := g1
      have g2 : ∀ (i : Nat) (f : rt_F), rt_sg sg i = some f → ∃ a, es[i]? = some a ∧ rt_fV K f.2 a = true := g2
      rcases Nat.lt_or_ge t 3 with k3 | k3
      · rw [ri_gA_i (by omega)] at hA
        obtain ⟨u, rfl, e2⟩ := hA
        refine ⟨Or.inl ⟨by show t ≤ 2; omega, u, by rw [g1]⟩, fun i f hf => ?_⟩
        have hf : rt_sg sg i = some f := hf
        obtain ⟨a, m1, m2⟩ := g2 i f hf
        refine ⟨.int (u i), ?_, rt_fV_ok m2 (e2 i a m1)⟩
        show (if i < es.length then some (Value.int (u i)) else none) = _
        rw [if_pos (by rw [g1]; exact rt_sg_lt hf)]
      · rcases Nat.lt_or_ge t 4 with k4 | k4
        · have e3 : t = 3 := by omega
          subst e3
          obtain ⟨u, rfl⟩ := hA
          refine ⟨Or.inr (Or.inl ⟨rfl, u, by rw [g1]⟩), fun i f hf => ?_⟩
          have hf : rt_sg sg i = some f := hf
          obtain ⟨a, m1, m2⟩ := g2 i f hf
          refine ⟨.long (u i), ?_, ?_⟩
          · show (if i < es.length then some (Value.long (u i)) else none) = _
            rw [if_pos (by rw [g1]; exact rt_sg_lt hf)]
          · have hj := rt_fL_ok (show rt_fL sg = true from hJ) i f hf
            rcases hT : f.2 with b | k | _ | _
            · rw [hT] at hj
              cases hj
            · rw [hT] at hj
              cases hj
            · trivial
            · exact ⟨_, rfl⟩
        · rw [ri_gA_r k4] at hA
          obtain ⟨u, rfl, e2⟩ := hA
          refine ⟨Or.inr (Or.inr ⟨k4, h7, u, by rw [g1]⟩), fun i f hf => ?_⟩
          have hf : rt_sg sg i = some f := hf
          obtain ⟨a, m1, m2⟩ := g2 i f hf
          refine ⟨va_rf (u i), ?_, rt_fV_ok m2 (e2 i a m1)⟩
          show (if i < es.length then some (va_rf (u i)) else none) = _
          rw [if_pos (by rw [g1]; exact rt_sg_lt hf)]
theorem rt_fH_at {l : List rt_K} : ∀ {ks : List Nat} {h : List ri_C}, rt_fH K l ks h = true → ks.length = h.length ∧ ∀ (i k : Nat), ks[i]? = some k → ∃ kd c, l[k]? = some kd ∧ h[i]? = some c ∧ rt_fC K kd c = true
  | [], [], _ => ⟨rfl, fun i k hk => by cases hk⟩
  | [], _ :: _, h => by cases h
  | _ :: _, [], h => by cases h
  | k :: ks, c :: r, h => by
    have h : (match (generalizing := false) ri_nth l k with
      | none => false
      | some kd => cond (rt_fC K kd c) (rt_fH K l ks r) false) = true := h
    rw [ri_nth_eq] at h
    cases hk : l[k]? with
    | none => rw [hk] at h; cases h
    | some kd =>
      rw [hk] at h
      obtain ⟨c1, h2⟩ := rt_cnd h
      obtain ⟨g1, g2⟩ := rt_fH_at (ks := ks) h2
      refine ⟨congrArg (· + 1) g1, fun i k' hi => ?_⟩
      cases i with
      | zero =>
        cases hi
        exact ⟨kd, c, hk, rfl, c1⟩
      | succ i => exact g2 i k' hi
/-- the cells that a constructor makes -/
theorem rt_fH_ok {KK : List (List rt_K)} {g : Nat} {l : List rt_K} (hl : KK[g]? = some l) {h : List ri_C} (hc : rt_fH K l K h = true) {ws : va_W} (hH : ri_gH τ κ h ws) : rt_gH KK g κ K (ri_ad ws) ws := by
  intro i k hi
  obtain ⟨kd, c, e1, e2, e3⟩ := (rt_fH_at hc).2 i k hi
  obtain ⟨a, e, f1, f2⟩ := hH.2 i c e2
  exact ⟨a, e, kd, f1, by rw [rt_kd_at hl]; exact e1, rt_fC_ok e3 f2⟩
end RT66
