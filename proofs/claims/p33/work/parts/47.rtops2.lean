/-! Masks, longs compared, branches, switches -/
theorem rt_and_le {u v : Int32} (hv : 0 ≤ v.toInt) : 0 ≤ (u &&& v).toInt ∧ (u &&& v).toInt ≤ v.toInt := by
  have h1 : (u &&& v).toBitVec.toNat ≤ v.toBitVec.toNat := by
    show (u.toBitVec &&& v.toBitVec).toNat ≤ _
    rw [BitVec.toNat_and]
    exact Nat.and_le_right
  have h2 : 2 * v.toBitVec.toNat < 2 ^ 32 := by
    have hlt := v.toBitVec.isLt
    have hv : 0 ≤ v.toBitVec.toInt := hv
    rw [BitVec.toInt_eq_toNat_cond] at hv
    split at hv
    · assumption
    · omega
  have e1 : v.toInt = (v.toBitVec.toNat : Int) := BitVec.toInt_eq_toNat_of_lt h2
  have e2 : (u &&& v).toInt = ((u &&& v).toBitVec.toNat : Int) := BitVec.toInt_eq_toNat_of_lt (by omega)
  omega
theorem rt_dfe_ok {p q : Bool × Nat × Int} (h : rt_dfe p q = true) : p = q := by
  obtain ⟨b, t, c⟩ := p
  obtain ⟨b', t', c'⟩ := q
  have key : ∀ x : Bool, cond x (cond (Nat.beq t t') (cond (ri_le c c') (ri_le c' c) false) false) false = true → x = true ∧ t = t' ∧ c = c' := by
    intro x h
    cases x with
    | false => cases h
    | true =>
      cases c1 : Nat.beq t t' with
      | false => rw [c1] at h; cases h
      | true =>
        cases c2 : ri_le c c' with
        | false => rw [c1, c2] at h; cases h
        | true =>
          rw [c1, c2] at h
          have c2 := ri_le_iff.mp c2
          have c3 := ri_le_iff.mp h
          exact ⟨rfl, Nat.eq_of_beq_eq_true c1, by omega⟩
  cases b with
  | true =>
    obtain ⟨e1, rfl, rfl⟩ := key _ h
    have e1 : b' = true := e1
    rw [e1]
  | false =>
    cases b' with
    | true =>
      obtain ⟨e1, -, -⟩ := key _ h
      cases e1
    | false =>
      obtain ⟨-, rfl, rfl⟩ := key _ h
      rfl
theorem rt_fd_ok {q : Bool × Nat × Int} : ∀ {E : List rt_B} {k0 k : Nat}, rt_fd E q k0 = some k → ∃ (j : Nat) (e : rt_B), k = k0 + j ∧ E[j]? = some e ∧ e.2.2.2 = some q
  | [], k0, k, h => by cases h
  | e :: E, k0, k, h => by
    have h : (match e.2.2.2 with
      | none => rt_fd E q (k0 + 1)
      | some p => cond (rt_dfe p q) (some k0) (rt_fd E q (k0 + 1))) = some k := h
    have tail : rt_fd E q (k0 + 1) = some k → ∃ (j : Nat) (e' : rt_B), k = k0 + j ∧ (e :: E)[j]? = some e' ∧ e'.2.2.2 = some q := fun h => by
      obtain ⟨j, e', e1, e2, e3⟩ := rt_fd_ok h
      exact ⟨j + 1, e', by omega, by simpa using e2, e3⟩
    cases hp : e.2.2.2 with
    | none => rw [hp] at h; exact tail h
    | some p =>
      rw [hp] at h
      have h : cond (rt_dfe p q) (some k0) (rt_fd E q (k0 + 1)) = some k := h
      cases c : rt_dfe p q with
      | false => rw [c] at h; exact tail h
      | true =>
        rw [c] at h
        cases h
        have := rt_dfe_ok c
        subst this
        exact ⟨0, e, rfl, rfl, hp⟩
theorem rt_df_uniq {τ : List Int} {lm : List Int64} {q : Bool × Nat × Int} {b b' : Int} (h : rt_df τ lm q b) (h' : rt_df τ lm q b') : b = b' := by
  obtain ⟨c, t, m⟩ := q
  cases c with
  | true =>
    obtain ⟨j, u, w, e1, e2, e3, e4⟩ := h
    obtain ⟨j', u', w', f1, f2, f3, f4⟩ := h'
    have : j' = j := by
      have e1 : t = j + 1 := e1
      have f1 : t = j' + 1 := f1
      omega
    subst this
    have : u.toInt = u'.toInt := Option.some.inj (e2.symm.trans f2)
    have : u = u' := Int32.toInt_inj.mp this
    subst this
    have : w = w' := Int32.toInt_inj.mp (e3.trans f3.symm)
    subst this
    rw [e4, f4]
  | false =>
    obtain ⟨j, u, w, e1, e2, e3, e4⟩ := h
    obtain ⟨j', u', w', f1, f2, f3, f4⟩ := h'
    have : j' = j := by
      have e1 : t = j + 1 := e1
      have f1 : t = j' + 1 := f1
      omega
    subst this
    have : u = u' := Option.some.inj (e2.symm.trans f2)
    subst this
    have : w = w' := Int64.toInt_inj.mp (e3.trans f3.symm)
    subst this
    rw [e4, f4]
theorem rt_lgc (x y : Int64) : -1 ≤ (lg_cmp x y).toInt ∧ (lg_cmp x y).toInt ≤ 1 := by
  unfold lg_cmp
  split
  · decide
  · split
    · decide
    · decide
theorem rt_lg0 {x y : Int64} (h : (lg_cmp x y).toInt = 0) : x = y := by
  unfold lg_cmp at h
  split at h
  · cases h
  · split at h
    · assumption
    · cases h
theorem rt_lgv (x y : Int64) : (lg_cmp x y).toInt = rt_c3 x.toInt y.toInt := by
  unfold lg_cmp rt_c3
  by_cases h1 : x > y
  · have g1 : y.toInt < x.toInt := Int64.lt_iff_toInt_lt.mp h1
    have c1 : ri_le x.toInt y.toInt = false := by
      cases c : ri_le x.toInt y.toInt with
      | false => rfl
      | true =>
        have := ri_le_iff.mp c
        omega
    rw [if_pos h1, c1]
    rfl
  · have g1 : ¬ y.toInt < x.toInt := fun g => h1 (Int64.lt_iff_toInt_lt.mpr g)
    rw [if_neg h1, ri_le_iff.mpr (show x.toInt ≤ y.toInt by omega), cond_true]
    by_cases h2 : x = y
    · subst h2
      rw [if_pos rfl, ri_le_iff.mpr (Int.le_refl _)]
      rfl
    · have g2 : ¬ x.toInt = y.toInt := fun g => h2 (Int64.toInt_inj.mp g)
      have c2 : ri_le y.toInt x.toInt = false := by
        cases c : ri_le y.toInt x.toInt with
        | false => rfl
        | true =>
          have := ri_le_iff.mp c
          omega
      rw [if_neg h2, c2]
      rfl
theorem rt_lv2_ok {E : List rt_B} {t : Nat} {c : Int} : rt_lv2 E t = some c → ∃ (k : Nat) (e : rt_B), E[k]? = some e ∧ e.2.2.2 = some (false, t, c) ∧ 0 ≤ e.1.1 ∧ e.1.2 ≤ 0 := by
  induction E with
  | nil => intro h; cases h
  | cons e E ih =>
    intro h
    have tail : rt_lv2 E t = some c → ∃ (k : Nat) (e' : rt_B), (e :: E)[k]? = some e' ∧ e'.2.2.2 = some (false, t, c) ∧ 0 ≤ e'.1.1 ∧ e'.1.2 ≤ 0 := fun h => by
      obtain ⟨k, e', a⟩ := ih h
      exact ⟨k + 1, e', by simpa using a⟩
    have h : (match e.2.2.2 with
      | some (false, j, c) => cond (Nat.beq j t) (cond (ri_le 0 e.1.1) (cond (ri_le e.1.2 0) (some c) (rt_lv2 E t)) (rt_lv2 E t)) (rt_lv2 E t)
      | _ => rt_lv2 E t) = some c := h
    rcases hd : e.2.2.2 with _ | ⟨b, j, d⟩
    · rw [hd] at h
      exact tail h
    · rw [hd] at h
      cases b with
      | true => exact tail h
      | false =>
        have h : cond (Nat.beq j t) (cond (ri_le 0 e.1.1) (cond (ri_le e.1.2 0) (some d) (rt_lv2 E t)) (rt_lv2 E t)) (rt_lv2 E t) = some c := h
        cases c1 : Nat.beq j t with
        | false => rw [c1] at h; exact tail h
        | true =>
          cases c2 : ri_le 0 e.1.1 with
          | false => rw [c1, c2] at h; exact tail h
          | true =>
            cases c3 : ri_le e.1.2 0 with
            | false => rw [c1, c2, c3] at h; exact tail h
            | true =>
              rw [c1, c2, c3] at h
              cases h
              have := Nat.eq_of_beq_eq_true c1
              subst this
              exact ⟨0, e, rfl, hd, ri_le_iff.mp c2, ri_le_iff.mp c3⟩
section RT47
variable {τ τ' : List Int} {ν ν' : List Nat} {lm lm' : List Int64} {K ad : List Nat} {ws0 : va_W} {KK : List (List rt_K)} {κ : Nat → ClassId} {Φ : Nat → Int → va_W → Prop} {t0 : Int} {r : ri_R} {S : rt_S} {a : rc_C} {L : List rt_S}
theorem rt_lv_ok {n : rt_N} (hN : rt_okN K ad n τ ν lm) {t : Nat} {c : Int} (h : rt_lv n t = some c) {z : Int64} (hz : t = 0 ∨ ∃ j, t = j + 1 ∧ lm[j]? = some z) : z.toInt = c := by
  cases t with
  | zero => cases h
  | succ j =>
    rcases hz with hz | ⟨j', e1, e2⟩
    · cases hz
    · have : j' = j := by omega
      subst this
      have h : (match ri_nth n.2.2 j' with
        | some (some c) => some c
        | _ => rt_lv2 n.1 (j' + 1)) = some c := h
      rw [ri_nth_eq] at h
      have by2 : rt_lv2 n.1 (j' + 1) = some c → z.toInt = c := fun h => by
        obtain ⟨k, e, g1, g2, g3, g4⟩ := rt_lv2_ok h
        obtain ⟨b, f1, f2, f3, -, -, f6⟩ := rt_tag hN.1 g1
        obtain ⟨j2, z', w, d1, d2, hw, d4⟩ := f6 _ g2
        have : j2 = j' := by
          have d1 : j' + 1 = j2 + 1 := d1
          omega
        subst this
        have : z' = z := Option.some.inj (d2.symm.trans e2)
        subst this
        have : b = 0 := by omega
        rw [this] at d4
        rw [rt_lg0 d4.symm]
        exact hw
      rcases hL : n.2.2[j']? with _ | _ | d
      · rw [hL] at h
        exact by2 h
      · rw [hL] at h
        exact by2 h
      · rw [hL] at h
        cases h
        obtain ⟨z', g1, g2⟩ := hN.2.2.2 j' c hL
        have : z' = z := Option.some.inj (g1.symm.trans e2)
        subst this
        exact g2
theorem rt_memo_ok {q : Bool × Nat × Int} {lo hi : Int} {st : List rt_V} {stv : List Value} {z : Int32} (h : rt_memo r S q lo hi st = some L) (hpc : a.1 = S.1) (hh : rt_hp KK κ K ad ws0 Φ t0 S.2.1.1 S.2.1.2 a.2.2.2) (hN : rt_okN K ad S.2.2.1 τ ν lm) (hL : rt_gL τ ν lm K ad (rt_lo S) a.2.1) (hS : rt_gS τ ν lm K ad st stv) (hO : ∀ o ∈ rt_ov S, rt_gO τ ν lm K ad a.2.2.2 o) (hz : rt_df τ lm q z.toInt) (hb : lo ≤ z.toInt ∧ z.toInt ≤ hi) : ∃ S' ∈ L, rt_rl KK κ K ad ws0 Φ t0 S' (rc_nx r a (.int z :: stv)) := by
  unfold rt_memo at h
  cases hk : rt_fd (rt_E S) q 0 with
  | some k =>
    rw [hk] at h
    obtain ⟨j, e, e1, e2, e3⟩ := rt_fd_ok hk
    have e1 : k = j := by omega
    subst e1
    obtain ⟨b, f1, -, -, -, -, f6⟩ := rt_tag hN.1 e2
    have eb := rt_df_uniq (f6 q e3) hz
    refine rt_nx_ok h hpc hh hN hL ⟨⟨z, rfl, b, f1, ?_, ?_⟩, hS⟩ hO
    · show b + 0 ≤ z.toInt
      omega
    · show z.toInt ≤ b + 0
      omega
  | none =>
    rw [hk] at h
    cases h
    obtain ⟨h1, h2, h3⟩ := hN
    have pt : τ <+: τ ++ [z.toInt] := ⟨_, rfl⟩
    have px := List.prefix_refl ν
    have pl := List.prefix_refl lm
    refine ⟨_, List.mem_singleton.mpr rfl, τ ++ [z.toInt], ν, lm, by show a.1 + r.2.1 = S.1 + r.2.1; rw [hpc], hh, ⟨?_, h2, h3⟩, rt_gL_mono pt px pl hL, ⟨⟨z, rfl, z.toInt, ?_, ?_, ?_⟩, rt_gS_mono pt px pl hS⟩, fun o ho => rt_gO_mono pt px pl (hO o ho)⟩
    · show rt_okE (rt_E S ++ [((lo, hi), (0, 0), none, some q)]) _ _
      exact rt_okE_add h1 ⟨hb.1, hb.2, Or.inl rfl, (fun c hc => by cases hc), (fun q' hq => by cases hq; exact rt_df_mono pt pl hz)⟩
    · show (τ ++ [z.toInt])[ri_len (rt_E S)]? = some z.toInt
      rw [ri_len_eq, ← h1.1]
      exact rt_at_end _ _
    · show z.toInt + 0 ≤ z.toInt
      omega
    · show z.toInt ≤ z.toInt + 0
      omega
theorem rk_and (h : rt_and r S = some L) (hr : rt_rl KK κ K ad ws0 Φ t0 S a) : rc_bin (fun u v => u &&& v) r a (fun b => ∃ S' ∈ L, rt_rl KK κ K ad ws0 Φ t0 S' b) := by
  obtain ⟨τ, ν, lm, hpc, hh, hN, hL, hS, hO⟩ := hr
  unfold rt_and at h
  rcases hst : rt_st S with _ | ⟨y | y, _ | ⟨x | x, st⟩⟩
  all_goals first | (rw [hst] at h; cases h; done) | skip
  rw [hst] at h hS
  obtain ⟨_, m, e1, ⟨v, rfl, gv⟩, hS1⟩ := rt_gS_cons hS
  obtain ⟨_, stv, rfl, ⟨u, rfl, gu⟩, hS2⟩ := rt_gS_cons hS1
  refine ⟨u, v, stv, e1, ?_⟩
  have top : rt_nx r S (.inl ri_top :: st) = some L → ∃ S' ∈ L, rt_rl KK κ K ad ws0 Φ t0 S' (rc_nx r a (.int (u &&& v) :: stv)) := fun h => rt_nx_ok h hpc hh hN hL ⟨⟨_, rfl, rt_gI_top τ _⟩, hS2⟩ hO
  have sp : ∀ {b : Bool} {p : Option (List rt_S)}, cond b p (rt_nx r S (.inl ri_top :: st)) = some L → (b = true → p = some L → ∃ S' ∈ L, rt_rl KK κ K ad ws0 Φ t0 S' (rc_nx r a (.int (u &&& v) :: stv))) → ∃ S' ∈ L, rt_rl KK κ K ad ws0 Φ t0 S' (rc_nx r a (.int (u &&& v) :: stv)) := fun {b p} h k => by
    cases b with
    | true => exact k rfl h
    | false => exact top h
  refine sp h (fun c1 h => sp h (fun c2 h => sp h (fun c3 h => sp h (fun c4 h => ?_))))
  have c1 := Nat.eq_of_beq_eq_true c1
  have c2 : y.2.2 ≤ y.2.1 := ri_le_iff.mp c2
  have c3 := ri_le_iff.mp c3
  have c4 := ri_le_iff.mp c4
  obtain ⟨b, g1, g2, g3⟩ := gv
  rw [c1] at g1
  cases g1
  have ev : v.toInt = y.2.1 := by omega
  have hand := rt_and_le (u := u) (v := v) (by omega)
  obtain ⟨kx, xl, xh⟩ := x
  cases kx with
  | zero => exact rt_nx_ok h hpc hh hN hL ⟨⟨_, rfl, rt_gI_0.mpr ⟨hand.1, by omega⟩⟩, hS2⟩ hO
  | succ t =>
    refine sp h (fun d1 h => sp h (fun d2 h => sp h (fun d3 h => sp h (fun d4 h => ?_))))
    have d1 : 0 ≤ xl := ri_le_iff.mp d1
    have d2 : xl ≤ 0 := ri_le_iff.mp d2
    have d3 : xh ≤ 0 := ri_le_iff.mp d3
    have d4 : 0 ≤ xh := ri_le_iff.mp d4
    obtain ⟨b, f1, f2, f3⟩ := gu
    have f2 : b + xl ≤ u.toInt := f2
    have f3 : u.toInt ≤ b + xh := f3
    have eb : b = u.toInt := by omega
    subst eb
    exact rt_memo_ok h hpc hh hN hL hS2 hO ⟨t, u, v, rfl, f1, ev, rfl⟩ ⟨hand.1, by omega⟩
theorem rk_lcmp (h : rt_lcmp r S = some L) (hr : rt_rl KK κ K ad ws0 Φ t0 S a) : ∃ (u v : Int64) (st : List Value), a.2.2.1 = .long v :: .long u :: st ∧ ∃ S' ∈ L, rt_rl KK κ K ad ws0 Φ t0 S' (rc_nx r a (.int (lg_cmp u v) :: st)) := by
  obtain ⟨τ, ν, lm, hpc, hh, hN, hL, hS, hO⟩ := hr
  unfold rt_lcmp at h
  rcases hst : rt_st S with _ | ⟨y | y | _ | y, _ | ⟨x | x | _ | x, st⟩⟩
  all_goals first | (rw [hst] at h; cases h; done) | skip
  rw [hst] at h hS
  obtain ⟨_, m, e1, ⟨v, rfl, gv⟩, hS1⟩ := rt_gS_cons hS
  obtain ⟨_, stv, rfl, ⟨u, rfl, gu⟩, hS2⟩ := rt_gS_cons hS1
  refine ⟨u, v, stv, e1, ?_⟩
  have wide : rt_nx r S (.inl (0, -1, 1) :: st) = some L → ∃ S' ∈ L, rt_rl KK κ K ad ws0 Φ t0 S' (rc_nx r a (.int (lg_cmp u v) :: stv)) := fun h => rt_nx_ok h hpc hh hN hL ⟨⟨_, rfl, rt_gI_0.mpr (rt_lgc u v)⟩, hS2⟩ hO
  have h : (match (generalizing := false) rt_lv S.2.2.1 y with
    | none => rt_nx r S (.inl (0, -1, 1) :: st)
    | some cy => (match rt_lv S.2.2.1 x with
      | some cx => rt_nx r S (.inl (0, rt_c3 cx cy, rt_c3 cx cy) :: st)
      | none => (match (generalizing := false) x with
        | 0 => rt_nx r S (.inl (0, -1, 1) :: st)
        | Nat.succ t => rt_memo r S (false, Nat.succ t, cy) (-1) 1 st))) = some L := h
  cases hy : rt_lv S.2.2.1 y with
  | none => rw [hy] at h; exact wide h
  | some cy =>
    rw [hy] at h
    have ey := rt_lv_ok hN hy gv
    cases hx : rt_lv S.2.2.1 x with
    | some cx =>
      have h : (match (generalizing := false) rt_lv S.2.2.1 x with
        | some cx => rt_nx r S (.inl (0, rt_c3 cx cy, rt_c3 cx cy) :: st)
        | none => (match (generalizing := false) x with
          | 0 => rt_nx r S (.inl (0, -1, 1) :: st)
          | Nat.succ t => rt_memo r S (false, Nat.succ t, cy) (-1) 1 st)) = some L := h
      rw [hx] at h
      have ex := rt_lv_ok hN hx gu
      refine rt_nx_ok h hpc hh hN hL ⟨⟨_, rfl, rt_gI_0.mpr ?_⟩, hS2⟩ hO
      rw [rt_lgv, ex, ey]
      exact ⟨Int.le_refl _, Int.le_refl _⟩
    | none =>
      have h : (match (generalizing := false) rt_lv S.2.2.1 x with
        | some cx => rt_nx r S (.inl (0, rt_c3 cx cy, rt_c3 cx cy) :: st)
        | none => (match (generalizing := false) x with
          | 0 => rt_nx r S (.inl (0, -1, 1) :: st)
          | Nat.succ t => rt_memo r S (false, Nat.succ t, cy) (-1) 1 st)) = some L := h
      rw [hx] at h
      cases x with
      | zero => exact wide h
      | succ t =>
        rcases gu with gu | ⟨j, j1, j2⟩
        · cases gu
        · have : j = t := by omega
          subst this
          exact rt_memo_ok h hpc hh hN hL hS2 hO ⟨j, u, v, rfl, j2, ey, rfl⟩ (rt_lgc u v)
theorem rt_opt_mem {pc : Nat} {st : List rt_V} {o : Option (List rt_B)} {l : List rt_S} {S' : rt_S} (h : S' ∈ l) : S' ∈ rt_opt S pc st o l := by
  cases o with
  | none => exact h
  | some E => exact List.mem_cons_of_mem _ h
theorem rt_opt_here {pc : Nat} {st : List rt_V} {E : List rt_B} {l : List rt_S} : ((pc, S.2.1, (E, rt_R S, rt_L S), rt_lo S, st, rt_ov S) : rt_S) ∈ rt_opt S pc st (some E) l := List.mem_cons_self
theorem rk_br {c : Jvm.ClassFile.Cond} {x y : ri_I} {st : List rt_V} {stv : List Value} {u v : Int32} (h : rt_br c r S x y st = some L) (hh : rt_hp KK κ K ad ws0 Φ t0 S.2.1.1 S.2.1.2 a.2.2.2) (hpc : a.1 = S.1) (hN : rt_okN K ad S.2.2.1 τ ν lm) (hL : rt_gL τ ν lm K ad (rt_lo S) a.2.1) (hS : rt_gS τ ν lm K ad st stv) (hO : ∀ o ∈ rt_ov S, rt_gO τ ν lm K ad a.2.2.2 o) (hu : rt_gI τ x u) (hv : rt_gI τ y v) : rc_br c r a (fun b => ∃ S' ∈ L, rt_rl KK κ K ad ws0 Φ t0 S' b) u v stv := by
  cases h
  by_cases hc : ri_hold c u.toInt v.toInt
  · obtain ⟨E', e1, e2⟩ := rt_ref_ok hN.1 hu hv hc
    refine Or.inl ⟨hc, (r.2.2.1, S.2.1, (E', rt_R S, rt_L S), rt_lo S, st, rt_ov S), ?_, τ, ν, lm, rfl, hh, ⟨e2, hN.2⟩, hL, hS, hO⟩
    rw [show rt_E S = S.2.2.1.1 from rfl, e1]
    exact rt_opt_here
  · obtain ⟨E', e1, e2⟩ := rt_ref_ok hN.1 hu hv (rt_cn_ok hc)
    refine Or.inr ⟨hc, (S.1 + r.2.1, S.2.1, (E', rt_R S, rt_L S), rt_lo S, st, rt_ov S), ?_, τ, ν, lm, by show a.1 + r.2.1 = S.1 + r.2.1; rw [hpc], hh, ⟨e2, hN.2⟩, hL, hS, hO⟩
    refine rt_opt_mem ?_
    rw [show rt_E S = S.2.2.1.1 from rfl, e1]
    exact rt_opt_here
theorem rk_if {c : Jvm.ClassFile.Cond} (h : rt_if c r S = some L) (hr : rt_rl KK κ K ad ws0 Φ t0 S a) : ∃ (u : Int32) (st : List Value), a.2.2.1 = .int u :: st ∧ rc_br c r a (fun b => ∃ S' ∈ L, rt_rl KK κ K ad ws0 Φ t0 S' b) u 0 st := by
  obtain ⟨τ, ν, lm, hpc, hh, hN, hL, hS, hO⟩ := hr
  unfold rt_if at h
  rcases hst : rt_st S with _ | ⟨x | x, st⟩
  all_goals first | (rw [hst] at h; cases h; done) | skip
  rw [hst] at h hS
  obtain ⟨_, stv, e1, ⟨u, rfl, gu⟩, hS1⟩ := rt_gS_cons hS
  exact ⟨u, stv, e1, rk_br h hh hpc hN hL hS1 hO gu (rt_gI_0.mpr ⟨Int.le_refl _, Int.le_refl _⟩)⟩
theorem rk_icmp {c : Jvm.ClassFile.Cond} (h : rt_icmp c r S = some L) (hr : rt_rl KK κ K ad ws0 Φ t0 S a) : ∃ (u v : Int32) (st : List Value), a.2.2.1 = .int v :: .int u :: st ∧ rc_br c r a (fun b => ∃ S' ∈ L, rt_rl KK κ K ad ws0 Φ t0 S' b) u v st := by
  obtain ⟨τ, ν, lm, hpc, hh, hN, hL, hS, hO⟩ := hr
  unfold rt_icmp at h
  rcases hst : rt_st S with _ | ⟨y | y, _ | ⟨x | x, st⟩⟩
  all_goals first | (rw [hst] at h; cases h; done) | skip
  rw [hst] at h hS
  obtain ⟨_, m, e1, ⟨v, rfl, gv⟩, hS1⟩ := rt_gS_cons hS
  obtain ⟨_, stv, rfl, ⟨u, rfl, gu⟩, hS2⟩ := rt_gS_cons hS1
  exact ⟨u, v, stv, e1, rk_br h hh hpc hN hL hS2 hO gu gv⟩
theorem rk_goto (h : rt_goto r S = some L) (hr : rt_rl KK κ K ad ws0 Φ t0 S a) : ∃ S' ∈ L, rt_rl KK κ K ad ws0 Φ t0 S' (r.2.2.1, a.2.1, a.2.2.1, a.2.2.2) := by
  obtain ⟨τ, ν, lm, hpc, hh, hN, hL, hS, hO⟩ := hr
  cases h
  exact ⟨_, List.mem_singleton.mpr rfl, τ, ν, lm, rfl, hh, hN, hL, hS, hO⟩
end RT47
