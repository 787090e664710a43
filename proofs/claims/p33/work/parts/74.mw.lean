/-! The reference by hand: what its slots hold; heights of code; what holds in which mode -/
def mK : List Nat := [79, 0, 1, 2, 3, 4, 5, 6, 7, 8, 9, 10, 11, 12, 13, 14, 15, 16, 17, 18, 19, 20, 21, 22, 23, 24, 25, 26, 27, 28, 29, 30, 31, 32, 33, 34, 35, 36, 37, 38, 39, 40, 41, 42, 43, 44, 45, 46, 47, 48, 49, 50, 51, 52, 53, 54, 55, 56, 57, 58, 59, 60, 61, 62, 63, 64, 65, 66, 67, 68, 69, 70, 71, 72, 73, 74, 75, 76, 77, 78]
/-- the int in a slot of a cell -/
def mz (ws : va_W) (i j : Nat) : Int32 := match (ws[i]?).bind (fun q => rt_sl q.2 j) with
  | some (.int z) => z
  | _ => 0
def mv (ws : va_W) (i j : Nat) : Int := (mz ws i j).toInt
/-- the height behind a piece of code; none: it can't be done -/
def hstep (h : Nat) (x : Int) : Option Nat := if x = 126 then (if 1 ≤ h then some h else none) else if 97 ≤ x ∧ x ≤ 122 then (if h < 60 then some (h + 1) else none) else (if 2 ≤ h then some (h - 1) else none)
def hts (f : Nat → Int) : Nat → Option Nat
  | 0 => some 0
  | k + 1 => (hts f k).bind (fun h => hstep h (f k))
theorem hts_congr {f g : Nat → Int} : ∀ {n : Nat}, (∀ k, k < n → f k = g k) → hts f n = hts g n
  | 0, _ => rfl
  | n + 1, h => by
    show (hts f n).bind (fun h => hstep h (f n)) = (hts g n).bind (fun h => hstep h (g n))
    rw [hts_congr (n := n) (fun k hk => h k (by omega)), h n (by omega)]
theorem hts_pre {f : Nat → Int} : ∀ {n m : Nat}, n ≤ m → (hts f m).isSome = true → (hts f n).isSome = true
  | n, 0, h, hs => by
    have : n = 0 := by omega
    subst this
    exact hs
  | n, m + 1, h, hs => by
    rcases (show n = m + 1 ∨ n ≤ m by omega) with rfl | h
    · exact hs
    · refine hts_pre h ?_
      have hs : ((hts f m).bind (fun h => hstep h (f m))).isSome = true := hs
      cases hm : hts f m with
      | none => rw [hm] at hs; cases hs
      | some v => rfl
/-- a cross's code is good -/
def mOkC (r : Nat) (ws : va_W) (u : Nat) : Prop := 400 * (r : Int) ≤ mv ws 33 (4 * r + u) ∧ mv ws 33 (4 * r + u) ≤ mv ws 34 (4 * r + u) ∧ mv ws 34 (4 * r + u) ≤ 400 * (r : Int) + 400 ∧ (hts (fun k => mv ws 36 ((mv ws 33 (4 * r + u)).toNat + k)) (mv ws 34 (4 * r + u) - mv ws 33 (4 * r + u)).toNat).isSome = true
def mR (b : Nat) (ws : va_W) : Prop := ∀ u : Nat, u < 4 → (u : Int) < mv ws 27 b → mOkC b ws u
def mP (r : Nat) (ws : va_W) : Prop := 400 * (r : Int) ≤ mv ws 0 51 ∧ mv ws 0 51 ≤ 400 * (r : Int) + 9 * mv ws 28 r ∧ 0 ≤ mv ws 28 r ∧ mv ws 28 r ≤ 40 ∧ ∀ u : Nat, u < 4 → (u : Int) < mv ws 27 r → mOkC r ws u ∧ mv ws 34 (4 * r + u) ≤ mv ws 0 51
def mTm (ws : va_W) : Int := 2 * (1600 - min (mv ws 0 7) (mv ws 0 3)) + (if mv ws 0 8 = 0 then 0 else 1)
def mcl (g : Nat) : Nat := [0, 0, 0, 0, 0, 0, 0, 0, 0, 0, 0, 0, 0, 0, 0, 0, 0, 0, 0, 0, 0, 0, 0, 1, 2, 2, 3, 2, 3, 3, 3, 0, 2, 2, 1, 0, 2].getD g 3
def mPsi (b c : Nat) (t : Int) (ws : va_W) : Prop := match c with
  | 0 => mR b ws
  | 1 => mP (1 - b) ws ∧ mTm ws ≤ t
  | 2 => mTm ws ≤ t
  | _ => True
def mF (b : Nat) : Nat → Int → va_W → Prop := fun g => mPsi b (mcl g)
theorem mOkC_congr {r u : Nat} {ws ws' : va_W} (hr : r < 2) (hu : u < 4) (h33 : ∀ j, j < 8 → mv ws' 33 j = mv ws 33 j) (h34 : ∀ j, j < 8 → mv ws' 34 j = mv ws 34 j) (h36 : ∀ j, j < 800 → mv ws' 36 j = mv ws 36 j) (h : mOkC r ws u) : mOkC r ws' u := by
  unfold mOkC at h ⊢
  have e1 := h33 (4 * r + u) (by omega)
  have e2 := h34 (4 * r + u) (by omega)
  rw [e1, e2]
  obtain ⟨a1, a2, a3, a4⟩ := h
  refine ⟨a1, a2, a3, ?_⟩
  rw [hts_congr (g := fun k => mv ws 36 ((mv ws 33 (4 * r + u)).toNat + k))]
  · exact a4
  · intro k hk
    refine h36 _ ?_
    omega
theorem mR_congr {b : Nat} {ws ws' : va_W} (hb : b < 2) (h27 : ∀ j, j < 2 → mv ws' 27 j = mv ws 27 j) (h33 : ∀ j, j < 8 → mv ws' 33 j = mv ws 33 j) (h34 : ∀ j, j < 8 → mv ws' 34 j = mv ws 34 j) (h36 : ∀ j, j < 800 → mv ws' 36 j = mv ws 36 j) (h : mR b ws) : mR b ws' := fun u hu hlt => mOkC_congr hb hu h33 h34 h36 (h u hu (by rw [← h27 b hb]; exact hlt))
theorem mP_congr {r : Nat} {ws ws' : va_W} (hr : r < 2) (h51 : mv ws' 0 51 = mv ws 0 51) (h28 : ∀ j, j < 2 → mv ws' 28 j = mv ws 28 j) (h27 : ∀ j, j < 2 → mv ws' 27 j = mv ws 27 j) (h33 : ∀ j, j < 8 → mv ws' 33 j = mv ws 33 j) (h34 : ∀ j, j < 8 → mv ws' 34 j = mv ws 34 j) (h36 : ∀ j, j < 800 → mv ws' 36 j = mv ws 36 j) (h : mP r ws) : mP r ws' := by
  obtain ⟨a1, a2, a3, a4, a5⟩ := h
  unfold mP
  rw [h51, h28 r hr]
  refine ⟨a1, a2, a3, a4, fun u hu hlt => ?_⟩
  obtain ⟨b1, b2⟩ := a5 u hu (by rw [← h27 r hr]; exact hlt)
  exact ⟨mOkC_congr hr hu h33 h34 h36 b1, by rw [h34 _ (by omega)]; exact b2⟩
theorem mTm_congr {ws ws' : va_W} (h7 : mv ws' 0 7 = mv ws 0 7) (h8 : mv ws' 0 8 = mv ws 0 8) (h3 : mv ws' 0 3 = mv ws 0 3) : mTm ws' = mTm ws := by
  unfold mTm
  rw [h7, h8, h3]
/-- all of an array's slots have such flags; a field has -/
noncomputable def mA (P : Nat → Bool) (KK : List (List rt_K)) (g i n : Nat) : Bool := match ri_nth mK i with
  | none => false
  | some k => (match rt_kd KK g k with
    | some (.inr o) => cond (Nat.beq (rt_tot o.2) n) (rt_all1 (fun q => P q.2.1) o.2) false
    | _ => false)
noncomputable def mG (P : Nat → Bool) (KK : List (List rt_K)) (g f : Nat) : Bool := match rt_kd KK g 79 with
  | some (.inl o) => (match ri_nth o.2 f with
    | some q => P q.1
    | none => false)
  | _ => false
def mNZ (n : Nat) : Bool := match n with
  | 0 => false
  | Nat.succ _ => true
def mE1 (n : Nat) : Bool := Nat.beq n 1
section MW
variable {KK : List (List rt_K)} {κ : Nat → ClassId} {ad : List Nat} {g : Nat} {ws ws' : va_W} {P : Nat → Bool} {fl : Nat → Prop}
theorem mv_ag (hag : rt_ag fl KK g mK ws ws') {i j k : Nat} {kd : rt_K} {f : rt_F} (hK : mK[i]? = some k) (hkd : rt_kd KK g k = some kd) (hf : rt_sT kd j = some f) (hfl : fl f.1) : mv ws' i j = mv ws i j := by
  obtain ⟨q, q0, e, e0, h1, h2, h3⟩ := hag i k j kd f hK hkd hf hfl
  unfold mv mz
  rw [h1, h2]
  show (match rt_sl e j with
    | some (.int z) => z
    | _ => 0).toInt = (match rt_sl e0 j with
    | some (.int z) => z
    | _ => 0).toInt
  rw [h3]
theorem mA_ok {i n : Nat} (h : mA P KK g i n = true) (hP : ∀ x, P x = true → fl x) (hag : rt_ag fl KK g mK ws ws') : ∀ j, j < n → mv ws' i j = mv ws i j := by
  unfold mA at h
  rw [ri_nth_eq] at h
  cases hk : mK[i]? with
  | none => rw [hk] at h; cases h
  | some k =>
    rw [hk] at h
    have h : (match (generalizing := false) rt_kd KK g k with
      | some (.inr o) => cond (Nat.beq (rt_tot o.2) n) (rt_all1 (fun q => P q.2.1) o.2) false
      | _ => false) = true := h
    rcases hkd : rt_kd KK g k with _ | o | o
    · rw [hkd] at h; cases h
    · rw [hkd] at h; cases h
    · rw [hkd] at h
      obtain ⟨c1, h2⟩ := rt_cnd h
      have c1 := Nat.eq_of_beq_eq_true c1
      intro j hj
      obtain ⟨f, hf⟩ := rt_sg_tot (l := o.2) (k := j) (by omega)
      have hm : ∃ q ∈ o.2, q.2 = f := by
        have : ∀ {l : List (Nat × rt_F)} {j : Nat}, rt_sg l j = some f → ∃ q ∈ l, q.2 = f := by
          intro l
          induction l with
          | nil => intro j hf; cases hf
          | cons q l ih =>
            intro j hf
            have hf : cond (Nat.blt j q.1) (some q.2) (rt_sg l (Nat.sub j q.1)) = some f := hf
            cases hc : Nat.blt j q.1 with
            | true =>
              rw [hc] at hf
              cases hf
              exact ⟨q, List.mem_cons_self, rfl⟩
            | false =>
              rw [hc] at hf
              obtain ⟨q', h1, h2⟩ := ih hf
              exact ⟨q', List.mem_cons_of_mem _ h1, h2⟩
        exact this hf
      obtain ⟨q, hq, rfl⟩ := hm
      exact mv_ag hag hk hkd hf (hP _ (rt_all1_ok h2 q hq))
theorem mG_ok {f : Nat} (h : mG P KK g f = true) (hP : ∀ x, P x = true → fl x) (hag : rt_ag fl KK g mK ws ws') : mv ws' 0 f = mv ws 0 f := by
  unfold mG at h
  rcases hkd : rt_kd KK g 79 with _ | o | o
  · rw [hkd] at h; cases h
  · rw [hkd] at h
    have h : (match (generalizing := false) ri_nth o.2 f with
      | some q => P q.1
      | none => false) = true := h
    cases hf : ri_nth o.2 f with
    | none => rw [hf] at h; cases h
    | some q =>
      rw [hf] at h
      exact mv_ag hag (i := 0) (k := 79) rfl hkd (show rt_sT (.inl o) f = some q from hf) (hP _ h)
  · rw [hkd] at h; cases h
/-- the ghost's slots are flagged -/
noncomputable def mCx (KK : List (List rt_K)) (g : Nat) : Bool := match mcl g with
  | 0 => cond (mA mNZ KK g 27 2) (cond (mA mNZ KK g 33 8) (cond (mA mNZ KK g 34 8) (mA mNZ KK g 36 800) false) false) false
  | 1 => cond (mA mNZ KK g 27 2) (cond (mA mNZ KK g 33 8) (cond (mA mNZ KK g 34 8) (cond (mA mNZ KK g 36 800) (cond (mA mNZ KK g 28 2) (cond (mG mNZ KK g 51) (cond (mG mNZ KK g 7) (cond (mG mNZ KK g 8) (mG mNZ KK g 3) false) false) false) false) false) false) false) false
  | 2 => cond (mG mNZ KK g 7) (cond (mG mNZ KK g 8) (mG mNZ KK g 3) false) false
  | _ => true
theorem mNZ_ok : ∀ x, mNZ x = true → ¬ x = 0 := fun x h e => by
  subst e
  cases h
theorem m_ctx {b : Nat} (hb : b < 2) (hn : 37 ≤ KK.length) (h : rt_allK (fun g (_ : List rt_K) => mCx KK g) KK 0 = true) (hi : ∀ (i j q : Nat), ad[i]? = some q → ad[j]? = some q → i = j) : rt_ctx KK mK ad (mF b) := by
  refine ⟨fun g t ws ws' _ _ hag hΦ => ?_, hi⟩
  have hΦ : mPsi b (mcl g) t ws := hΦ
  show mPsi b (mcl g) t ws'
  rcases Nat.lt_or_ge g KK.length with hg | hg
  · have hc : mCx KK g = true := by
      have := rt_allK_ok h g KK[g] (List.getElem?_eq_getElem hg)
      rw [Nat.zero_add] at this
      exact this
    unfold mCx at hc
    rcases hcl : mcl g with _ | _ | _ | c
    · rw [hcl] at hc hΦ
      obtain ⟨c1, h2⟩ := rt_cnd hc
      obtain ⟨c2, h3⟩ := rt_cnd h2
      obtain ⟨c3, c4⟩ := rt_cnd h3
      exact mR_congr hb (mA_ok c1 mNZ_ok hag) (mA_ok c2 mNZ_ok hag) (mA_ok c3 mNZ_ok hag) (mA_ok c4 mNZ_ok hag) hΦ
    · rw [hcl] at hc hΦ
      obtain ⟨c1, h2⟩ := rt_cnd hc
      obtain ⟨c2, h3⟩ := rt_cnd h2
      obtain ⟨c3, h4⟩ := rt_cnd h3
      obtain ⟨c4, h5⟩ := rt_cnd h4
      obtain ⟨c5, h6⟩ := rt_cnd h5
      obtain ⟨c6, h7⟩ := rt_cnd h6
      obtain ⟨c7, h8⟩ := rt_cnd h7
      obtain ⟨c8, c9⟩ := rt_cnd h8
      refine ⟨mP_congr (by omega) (mG_ok c6 mNZ_ok hag) (mA_ok c5 mNZ_ok hag) (mA_ok c1 mNZ_ok hag) (mA_ok c2 mNZ_ok hag) (mA_ok c3 mNZ_ok hag) (mA_ok c4 mNZ_ok hag) hΦ.1, ?_⟩
      rw [mTm_congr (mG_ok c7 mNZ_ok hag) (mG_ok c8 mNZ_ok hag) (mG_ok c9 mNZ_ok hag)]
      exact hΦ.2
    · rw [hcl] at hc hΦ
      obtain ⟨c7, h8⟩ := rt_cnd hc
      obtain ⟨c8, c9⟩ := rt_cnd h8
      show mTm ws' ≤ t
      rw [mTm_congr (mG_ok c7 mNZ_ok hag) (mG_ok c8 mNZ_ok hag) (mG_ok c9 mNZ_ok hag)]
      exact hΦ
    · trivial
  · have hcl : mcl g = 3 := by
      unfold mcl
      rw [List.getD_eq_getElem?_getD, List.getElem?_eq_none (by
        show 37 ≤ g
        omega)]
      rfl
    rw [hcl]
    trivial
/-- the table of calls -/
noncomputable def mFz (KK : List (List rt_K)) (g : Nat) : Bool := cond (mA mE1 KK g 27 2) (cond (mA mE1 KK g 33 8) (cond (mA mE1 KK g 34 8) (cond (mA mE1 KK g 36 800) (cond (mA mE1 KK g 28 2) (mG mE1 KK g 51) false) false) false) false) false
noncomputable def mX1 (KK : List (List rt_K)) (g : Nat) (q : Nat × Nat × Nat) : Bool := cond (cond (Nat.beq (mcl g) (mcl q.1)) (cond (Nat.beq (mcl q.1) (mcl q.2.1)) (Nat.beq (mcl q.2.1) (mcl q.2.2)) false) false) true (cond (Nat.beq (mcl g) 1) (cond (Nat.beq (mcl q.1) 2) (cond (Nat.beq (mcl q.2.1) 2) (cond (Nat.beq (mcl q.2.2) 1) (mFz KK q.2.1) false) false) false) false)
theorem mE1_ok : ∀ x, mE1 x = true → x = 1 := fun _ h => Nat.eq_of_beq_eq_true h
theorem mFz_ok {r : Nat} (hr : r < 2) (h : mFz KK g = true) (hag : rt_ag (fun f => f = 1) KK g mK ws ws') (hp : mP r ws) : mP r ws' := by
  obtain ⟨c1, h2⟩ := rt_cnd h
  obtain ⟨c2, h3⟩ := rt_cnd h2
  obtain ⟨c3, h4⟩ := rt_cnd h3
  obtain ⟨c4, h5⟩ := rt_cnd h4
  obtain ⟨c5, c6⟩ := rt_cnd h5
  exact mP_congr hr (mG_ok c6 mE1_ok hag) (mA_ok c5 mE1_ok hag) (mA_ok c1 mE1_ok hag) (mA_ok c2 mE1_ok hag) (mA_ok c3 mE1_ok hag) (mA_ok c4 mE1_ok hag) hp
theorem m_MX {MX : rt_X} {b : Nat} (hb : b < 2) (h : rt_mxC KK (fun _ => 0) MX = true) (hX : rt_allK (fun g l => rt_all1 (mX1 KK g) l) MX 0 = true) : rt_MXok KK κ mK ad (mF b) MX := by
  intro g ga gb g2 hm
  obtain ⟨m1, m2, m3⟩ := rt_MX_of (κ := κ) (K := mK) (ad := ad) (Ψ := fun _ _ _ => True) h (fun _ _ _ _ _ => rfl) g ga gb g2 hm
  obtain ⟨l0, h1, h2⟩ := rt_mx_mem hm
  have h3 := rt_all1_ok (rt_allK_ok hX g l0 h1) _ h2
  rw [Nat.zero_add] at h3
  unfold mX1 at h3
  have tr : ∀ {ws0 : va_W} {t0 : Int} {g s : Nat} {w : va_W}, rt_hp KK κ mK ad ws0 (mF b) t0 g s w → rt_hp KK κ mK ad ws0 (fun _ _ _ => True) t0 g s w := fun hh => ⟨hh.1, hh.2.1, hh.2.2.1, trivial⟩
  have key : (mcl g = mcl ga ∧ mcl ga = mcl gb ∧ mcl gb = mcl g2) ∨ (mcl g = 1 ∧ mcl ga = 2 ∧ mcl gb = 2 ∧ mcl g2 = 1 ∧ mFz KK gb = true) := by
    cases c0 : cond (Nat.beq (mcl g) (mcl ga)) (cond (Nat.beq (mcl ga) (mcl gb)) (Nat.beq (mcl gb) (mcl g2)) false) false with
    | true =>
      obtain ⟨d1, d2⟩ := rt_cnd c0
      obtain ⟨d2, d3⟩ := rt_cnd d2
      exact Or.inl ⟨Nat.eq_of_beq_eq_true d1, Nat.eq_of_beq_eq_true d2, Nat.eq_of_beq_eq_true d3⟩
    | false =>
      have h3 : cond (cond (Nat.beq (mcl g) (mcl ga)) (cond (Nat.beq (mcl ga) (mcl gb)) (Nat.beq (mcl gb) (mcl g2)) false) false) true (cond (Nat.beq (mcl g) 1) (cond (Nat.beq (mcl ga) 2) (cond (Nat.beq (mcl gb) 2) (cond (Nat.beq (mcl g2) 1) (mFz KK gb) false) false) false) false) = true := h3
      rw [c0] at h3
      obtain ⟨d1, h4⟩ := rt_cnd h3
      obtain ⟨d2, h5⟩ := rt_cnd h4
      obtain ⟨d3, h6⟩ := rt_cnd h5
      obtain ⟨d4, d5⟩ := rt_cnd h6
      exact Or.inr ⟨Nat.eq_of_beq_eq_true d1, Nat.eq_of_beq_eq_true d2, Nat.eq_of_beq_eq_true d3, Nat.eq_of_beq_eq_true d4, d5⟩
  refine ⟨fun ws0 t0 s w hh => ?_, fun ws0 t0 s w hh => m2 ws0 t0 s w (tr hh), fun ws0 t0 s s' w w' hh hb' => ?_⟩
  · obtain ⟨a1, a2, a3, -⟩ := m1 ws0 t0 s w (tr hh)
    refine ⟨a1, a2, a3, ?_⟩
    have hΦ : mPsi b (mcl g) (t0 - s) w := hh.2.2.2
    show mPsi b (mcl ga) (t0 - s - (0 : Nat)) w
    rw [show t0 - (s : Int) - ((0 : Nat) : Int) = t0 - s by omega]
    rcases key with ⟨e1, -, -⟩ | ⟨e1, e2, -, -, -⟩
    · rw [← e1]
      exact hΦ
    · rw [e1] at hΦ
      rw [e2]
      exact hΦ.2
  · obtain ⟨a1, a2, a3, -⟩ := m3 ws0 t0 s s' w w' (tr hh) (tr hb')
    refine ⟨a1, a2, a3, ?_⟩
    have hΦ : mPsi b (mcl g) (t0 - s) w := hh.2.2.2
    have hΦ' : mPsi b (mcl gb) (t0 - s - s') w' := hb'.2.2.2
    show mPsi b (mcl g2) (t0 - ((s + s' : Nat) : Int)) w'
    rw [show t0 - ((s + s' : Nat) : Int) = t0 - s - s' by omega]
    rcases key with ⟨-, -, e3⟩ | ⟨e1, -, e3, e4, e5⟩
    · rw [← e3]
      exact hΦ'
    · rw [e1] at hΦ
      rw [e3] at hΦ'
      rw [e4]
      exact ⟨mFz_ok (by omega) e5 hb'.2.2.1 hΦ.1, hΦ'⟩
theorem mPsi_mono {b : Nat} : ∀ (c : Nat) (t t' : Int) (ws : va_W), t ≤ t' → mPsi b c t ws → mPsi b c t' ws := by
  intro c t t' ws ht h
  rcases c with _ | _ | _ | c
  · exact h
  · exact ⟨h.1, Int.le_trans h.2 ht⟩
  · exact Int.le_trans (show mTm ws ≤ t from h) ht
  · trivial
theorem mK_inj : ∀ (i i' k : Nat), mK[i]? = some k → mK[i']? = some k → i = i' := by
  have h : ∀ i : Nat, i < 80 → mK[i]? = some (if i = 0 then 79 else i - 1) := by decide +kernel
  intro i i' k h1 h2
  have l1 : i < 80 := (List.getElem?_eq_some_iff.mp h1).1
  have l2 : i' < 80 := (List.getElem?_eq_some_iff.mp h2).1
  rw [h i l1] at h1
  rw [h i' l2] at h2
  have h1 := Option.some.inj h1
  have h2 := Option.some.inj h2
  split at h1
  · split at h2
    · omega
    · omega
  · split at h2
    · omega
    · omega
theorem m_SW {SW : rt_W} {b : Nat} (hcx : rt_ctx KK mK ad (mF b)) (h : rt_swC KK mcl SW = true) : rt_SWok KK κ mK ad (mF b) SW := rt_SW_of (Ψ := mPsi b) mPsi_mono hcx mK_inj h
end MW
