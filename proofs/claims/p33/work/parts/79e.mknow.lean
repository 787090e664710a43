/-! The parser by hand: what is known of kinds; pushes; what runs leave -/
noncomputable def mO12 (KK : List (List rt_K)) (g : Nat) : Bool := match rt_kd KK g 79 with
  | some (.inl o) => Nat.beq o.1 12
  | _ => false
noncomputable def mIn (KK : List (List rt_K)) (g c j : Nat) (lo hi : Int) : Bool := match mTy KK g c j with
  | some a => cond (ri_le a.1 lo) (ri_le hi a.2) false
  | none => false
noncomputable def mBd (KK : List (List rt_K)) (g c j : Nat) (lo hi : Int) : Bool := match mTy KK g c j with
  | some a => cond (ri_le lo a.1) (ri_le a.2 hi) false
  | none => false
noncomputable def mNfs (KK : List (List rt_K)) (g i lo n : Nat) : Bool := rt_allK (fun j (_ : Unit) => mNf KK g i (Nat.add lo j)) (List.replicate n ()) 0
noncomputable def mp_L (KK : List (List rt_K)) (r : Nat) : List Bool := [mO12 KK 32, mRf KK 32 46 36, mRf KK 32 47 37, mRf KK 32 48 38, mRf KK 32 49 39, mRf KK 32 36 28, mRf KK 32 1 2,
  mI1 mWd KK 32 0 36 800, mI1 mWd KK 32 0 37 800, mI1 mWd KK 32 0 38 90, mI1 mWd KK 32 0 39 90, mI1 mAny KK 32 0 28 2, mI1 mAny KK 32 2 2 1600,
  mIn KK 32 0 51 0 800, mIn KK 32 0 53 mcB mcT, mIn KK 32 0 52 mcB mcT, mIn KK 32 0 8 0 5, mBd KK 32 0 6 0 1600, mBd KK 32 0 3 0 1600,
  mNfs KK 23 36 (400 * r) 400, mNfs KK 23 37 (400 * r) 400, mNfs KK 23 38 0 90, mNfs KK 23 39 0 90, mNf KK 23 0 51, mNf KK 23 0 53,
  mA mE1 KK 32 27 2, mA mE1 KK 32 33 8, mA mE1 KK 32 34 8, mA mE1 KK 32 36 800, mA mE1 KK 32 38 90, mA mE1 KK 32 39 90, mG mE1 KK 32 51,
  mFl KK 32 23, mA mE1 KK 32 2 1600, mG mE1 KK 32 3, mBd KK 32 0 7 0 1600]
def mHp (KK : List (List rt_K)) (κ : Nat → ClassId) (ad : List Nat) (t : Int) (w : va_W) : Prop := ri_ad w = ad ∧ rt_gH KK 32 κ mK ad w ∧ mTm w ≤ t
section MKNOW
variable {l : Launch} {D : va_G} {KK : List (List rt_K)} {κ : Nat → ClassId} {ad : List Nat} {g b r : Nat} {w w' ws0 : va_W} {t t0 : Int}
theorem mp_at (h : rt_all1 (fun b => b) (mp_L KK r) = true) {i : Nat} {b : Bool} (hi : (mp_L KK r)[i]? = some b) : b = true := rt_all1_ok h b (List.mem_of_getElem? hi)
theorem mO12_ok (h : mO12 KK g = true) : ∃ o, rt_kd KK g 79 = some (.inl o) ∧ o.1 = 12 := by
  unfold mO12 at h
  rcases hk : rt_kd KK g 79 with _ | o | o
  · rw [hk] at h; cases h
  · rw [hk] at h
    exact ⟨o, rfl, Nat.eq_of_beq_eq_true h⟩
  · rw [hk] at h; cases h
theorem mIn_ok {c j : Nat} {lo hi : Int} (h : mIn KK g c j lo hi = true) : ∃ a, mTy KK g c j = some a ∧ a.1 ≤ lo ∧ hi ≤ a.2 := by
  unfold mIn at h
  cases hk : mTy KK g c j with
  | none => rw [hk] at h; cases h
  | some a =>
    rw [hk] at h
    obtain ⟨c1, c2⟩ := rt_cnd h
    exact ⟨a, rfl, ri_le_iff.mp c1, ri_le_iff.mp c2⟩
theorem mBd_ok {c j : Nat} {lo hi : Int} (h : mBd KK g c j lo hi = true) : ∃ a, mTy KK g c j = some a ∧ lo ≤ a.1 ∧ a.2 ≤ hi := by
  unfold mBd at h
  cases hk : mTy KK g c j with
  | none => rw [hk] at h; cases h
  | some a =>
    rw [hk] at h
    obtain ⟨c1, c2⟩ := rt_cnd h
    exact ⟨a, rfl, ri_le_iff.mp c1, ri_le_iff.mp c2⟩
theorem mBd_v (hH : rt_gH KK g κ mK ad w) {c j : Nat} {lo hi : Int} (h : mBd KK g c j lo hi = true) : lo ≤ mv w c j ∧ mv w c j ≤ hi := by
  obtain ⟨a, h1, h2, h3⟩ := mBd_ok h
  obtain ⟨-, -, -, -, h4, h5⟩ := m_int hH h1
  omega
theorem mNfs_ok {i lo n : Nat} (h : mNfs KK g i lo n = true) {j : Nat} (h1 : lo ≤ j) (h2 : j < lo + n) : mNf KK g i j = true := by
  have := rt_allK_ok h (j - lo) () (by rw [List.getElem?_replicate, if_pos (by omega)])
  rw [Nat.zero_add, show Nat.add lo (j - lo) = j from by show lo + (j - lo) = j; omega] at this
  exact this
theorem mWd_ok {a : Int × Int} (h : mWd a = true) (z : Int32) : a.1 ≤ z.toInt ∧ z.toInt ≤ a.2 := by
  unfold mWd at h
  obtain ⟨c1, c2⟩ := rt_cnd h
  have c1 := ri_le_iff.mp c1
  have c2 := ri_le_iff.mp c2
  have := Int32.le_toInt z
  have := Int32.toInt_lt z
  omega
theorem m_inc {z : Int32} (h1 : -2147483648 ≤ z.toInt) (h2 : z.toInt < 2147483647) : (z + 1).toInt = z.toInt + 1 := by
  have e1 : (1 : Int32).toInt = 1 := by decide
  rw [Int32.toInt_add, e1, ri_bm (by show (-2147483648 : Int) ≤ _; omega) (by show _ ≤ (2147483647 : Int); omega)]
theorem mHp_hp (h : mHp KK κ ad t w) : rt_hp KK κ mK ad w (mF b) t 32 0 w := by
  obtain ⟨h1, h2, h3⟩ := h
  refine ⟨h1, h2, m_agR h2, ?_⟩
  show mTm w ≤ t - ((0 : Nat) : Int)
  omega
theorem mHp_of {s : Nat} (h : rt_hp KK κ mK ad ws0 (mF b) t 32 s w) : mHp KK κ ad (t - s) w := ⟨h.1, h.2.1, h.2.2.2⟩
theorem mHp_mono {t' : Int} (h : mHp KK κ ad t w) (ht : t ≤ t') : mHp KK κ ad t' w := ⟨h.1, h.2.1, Int.le_trans h.2.2 ht⟩
theorem mHp_nn (hok : rt_all1 (fun b => b) (mp_L KK r) = true) (h : mHp KK κ ad t w) : 0 ≤ t := by
  have h7 := mBd_v h.2.1 (mp_at hok (i := 35) rfl)
  have h3 := mBd_v h.2.1 (mp_at hok (i := 18) rfl)
  have h := h.2.2
  unfold mTm at h
  have hi : 0 ≤ (if mv w 0 8 = 0 then (0 : Int) else 1) := (m_ite _).2
  omega
/-- what a run in this mode leaves -/
theorem mp_run (hok : rt_all1 (fun b => b) (mp_L KK r) = true) {s : Nat} {uF : Int} (hu : uF ≤ 800) (h : rt_hp KK κ mK ad w (mF b) t 32 s w') : mHp KK κ ad (t - s) w' ∧ mFm KK uF w w' ∧ mSm w w' ∧ (∀ j, j < 1600 → mv w' 2 j = mv w 2 j) ∧ mv w' 0 3 = mv w 0 3 := by
  have hag := h.2.2.1
  have e36 := mA_ok (mp_at hok (i := 28) rfl) mE1_ok hag
  refine ⟨mHp_of h, ⟨mFl_ok κ (mp_at hok (i := 32) rfl) hag, mA_ok (mp_at hok (i := 25) rfl) mE1_ok hag, mA_ok (mp_at hok (i := 26) rfl) mE1_ok hag, mA_ok (mp_at hok (i := 27) rfl) mE1_ok hag, fun j hj => e36 j (by omega)⟩, ⟨e36, mA_ok (mp_at hok (i := 29) rfl) mE1_ok hag, mA_ok (mp_at hok (i := 30) rfl) mE1_ok hag, mG_ok (mp_at hok (i := 31) rfl) mE1_ok hag⟩, mA_ok (mp_at hok (i := 33) rfl) mE1_ok hag, mG_ok (mp_at hok (i := 34) rfl) mE1_ok hag⟩
theorem mTm_eq (h : ∀ j, ¬ j = 51 → ¬ j = 53 → mv w' 0 j = mv w 0 j) : mTm w' = mTm w := mTm_congr (h 7 (by decide) (by decide)) (h 8 (by decide) (by decide)) (h 3 (by decide) (by decide))
set_option maxHeartbeats 1000000 in
theorem mp_emit (hok : rt_all1 (fun b => b) (mp_L KK r) = true) (hr : r < 2) (hH : mHp KK κ ad t w) {uF : Int} (h1 : 400 * (r : Int) ≤ mv w 0 51) (h2 : mv w 0 51 < 400 * (r : Int) + 400) (hu : uF ≤ mv w 0 51) (c n : Int32) : mHp KK κ ad t (mPsh 36 37 51 c n w) ∧ mFm KK uF w (mPsh 36 37 51 c n w) ∧ mv (mPsh 36 37 51 c n w) 0 51 = mv w 0 51 + 1 ∧ mv (mPsh 36 37 51 c n w) 36 (mv w 0 51).toNat = c.toInt ∧ (∀ j, ¬ j = (mv w 0 51).toNat → mv (mPsh 36 37 51 c n w) 36 j = mv w 36 j) ∧ ∀ i j, ¬ i = 36 → ¬ i = 37 → ¬ (i = 0 ∧ j = 51) → mv (mPsh 36 37 51 c n w) i j = mv w i j := by
  obtain ⟨had, hg, hT⟩ := hH
  obtain ⟨o, ho, -⟩ := mO12_ok (mp_at hok (i := 0) rfl)
  have k1 : mI1 mWd KK 32 0 36 800 = true := mp_at hok (i := 7) rfl
  have k2 : mI1 mWd KK 32 0 37 800 = true := mp_at hok (i := 8) rfl
  obtain ⟨a1, ta1, wa1⟩ := mI1_ty k1 (j := (mv w 0 51).toNat) (by omega)
  obtain ⟨a2, ta2, wa2⟩ := mI1_ty k2 (j := (mv w 0 51).toNat) (by omega)
  obtain ⟨p1, p2, p3, p4⟩ := m_put (z := c) (by decide) hg had k1 (j := (mv w 0 51).toNat) (by omega) ta1 (mWd_ok wa1 c).1 (mWd_ok wa1 c).2
  obtain ⟨q1, q2, q3, q4⟩ := m_put (z := n) (by decide) p1 p2 k2 (j := (mv w 0 51).toNat) (by omega) ta2 (mWd_ok wa2 n).1 (mWd_ok wa2 n).2
  obtain ⟨a3, ta3, l3, l4⟩ := mIn_ok (mp_at hok (i := 13) rfl : mIn KK 32 0 51 0 800 = true)
  have e51 : (mz w 0 51).toInt = mv w 0 51 := rfl
  have hi : (mz w 0 51 + 1).toInt = mv w 0 51 + 1 := m_inc (by omega) (by omega)
  obtain ⟨s1, s2, s3, s4⟩ := m_putF (z := mz w 0 51 + 1) q1 q2 ho ta3 (by omega) (by omega)
  have hmv : ∀ i j, mv (mPsh 36 37 51 c n w) i j = if i = 0 ∧ j = 51 then mv w 0 51 + 1 else if i = 37 ∧ j = (mv w 0 51).toNat then n.toInt else if i = 36 ∧ j = (mv w 0 51).toNat then c.toInt else mv w i j := fun i j => by
    have := s3 i j
    rw [hi, q3 i j, p3 i j] at this
    exact this
  have hag : rt_ag (fun f => f = 1) KK 23 mK w (mPsh 36 37 51 c n w) := m_agT (m_agT (p4 23 (mNfs_ok (mp_at hok (i := 19) rfl) (by omega) (by omega))) (q4 23 (mNfs_ok (mp_at hok (i := 20) rfl) (by omega) (by omega)))) (s4 23 (mp_at hok (i := 23) rfl))
  have hrest : ∀ i j, ¬ i = 36 → ¬ i = 37 → ¬ (i = 0 ∧ j = 51) → mv (mPsh 36 37 51 c n w) i j = mv w i j := fun i j g1 g2 g3 => by
    rw [hmv, if_neg g3, if_neg (fun q => g2 q.1), if_neg (fun q => g1 q.1)]
  have h36 : ∀ j, ¬ j = (mv w 0 51).toNat → mv (mPsh 36 37 51 c n w) 36 j = mv w 36 j := fun j hj => by
    rw [hmv, if_neg (fun q => by cases q.1), if_neg (fun q => by cases q.1), if_neg (fun q => hj q.2)]
  refine ⟨⟨s2, s1, ?_⟩, ⟨hag, fun j _ => hrest 27 j (by decide) (by decide) (fun q => by cases q.1), fun j _ => hrest 33 j (by decide) (by decide) (fun q => by cases q.1), fun j _ => hrest 34 j (by decide) (by decide) (fun q => by cases q.1), fun j hj => h36 j (by omega)⟩, ?_, ?_, h36, hrest⟩
  · have e : mTm (mPsh 36 37 51 c n w) = mTm w := mTm_eq (fun j g1 _ => hrest 0 j (by decide) (by decide) (fun q => g1 q.2))
    rw [e]
    exact hT
  · rw [hmv, if_pos ⟨rfl, rfl⟩]
  · rw [hmv, if_neg (fun q => by cases q.1), if_neg (fun q => by cases q.1), if_pos ⟨rfl, rfl⟩]
set_option maxHeartbeats 1000000 in
theorem mp_push (hok : rt_all1 (fun b => b) (mp_L KK r) = true) (hH : mHp KK κ ad t w) {uF : Int} (h1 : 0 ≤ mv w 0 53) (h2 : mv w 0 53 < 90) (c n : Int32) : mHp KK κ ad t (mPsh 38 39 53 c n w) ∧ mFm KK uF w (mPsh 38 39 53 c n w) ∧ mv (mPsh 38 39 53 c n w) 0 53 = mv w 0 53 + 1 ∧ mv (mPsh 38 39 53 c n w) 38 (mv w 0 53).toNat = c.toInt ∧ mv (mPsh 38 39 53 c n w) 39 (mv w 0 53).toNat = n.toInt ∧ (∀ j, ¬ j = (mv w 0 53).toNat → mv (mPsh 38 39 53 c n w) 38 j = mv w 38 j) ∧ (∀ j, ¬ j = (mv w 0 53).toNat → mv (mPsh 38 39 53 c n w) 39 j = mv w 39 j) ∧ ∀ i j, ¬ i = 38 → ¬ i = 39 → ¬ (i = 0 ∧ j = 53) → mv (mPsh 38 39 53 c n w) i j = mv w i j := by
  obtain ⟨had, hg, hT⟩ := hH
  obtain ⟨o, ho, -⟩ := mO12_ok (mp_at hok (i := 0) rfl)
  have k1 : mI1 mWd KK 32 0 38 90 = true := mp_at hok (i := 9) rfl
  have k2 : mI1 mWd KK 32 0 39 90 = true := mp_at hok (i := 10) rfl
  obtain ⟨a1, ta1, wa1⟩ := mI1_ty k1 (j := (mv w 0 53).toNat) (by omega)
  obtain ⟨a2, ta2, wa2⟩ := mI1_ty k2 (j := (mv w 0 53).toNat) (by omega)
  obtain ⟨p1, p2, p3, p4⟩ := m_put (z := c) (by decide) hg had k1 (j := (mv w 0 53).toNat) (by omega) ta1 (mWd_ok wa1 c).1 (mWd_ok wa1 c).2
  obtain ⟨q1, q2, q3, q4⟩ := m_put (z := n) (by decide) p1 p2 k2 (j := (mv w 0 53).toNat) (by omega) ta2 (mWd_ok wa2 n).1 (mWd_ok wa2 n).2
  obtain ⟨a3, ta3, l3, l4⟩ := mIn_ok (mp_at hok (i := 14) rfl : mIn KK 32 0 53 mcB mcT = true)
  have l3 : a3.1 ≤ -2147483648 := l3
  have l4 : 2147483647 ≤ a3.2 := l4
  have e53 : (mz w 0 53).toInt = mv w 0 53 := rfl
  have hi : (mz w 0 53 + 1).toInt = mv w 0 53 + 1 := m_inc (by omega) (by omega)
  obtain ⟨s1, s2, s3, s4⟩ := m_putF (z := mz w 0 53 + 1) q1 q2 ho ta3 (by omega) (by omega)
  have hmv : ∀ i j, mv (mPsh 38 39 53 c n w) i j = if i = 0 ∧ j = 53 then mv w 0 53 + 1 else if i = 39 ∧ j = (mv w 0 53).toNat then n.toInt else if i = 38 ∧ j = (mv w 0 53).toNat then c.toInt else mv w i j := fun i j => by
    have := s3 i j
    rw [hi, q3 i j, p3 i j] at this
    exact this
  have hag : rt_ag (fun f => f = 1) KK 23 mK w (mPsh 38 39 53 c n w) := m_agT (m_agT (p4 23 (mNfs_ok (mp_at hok (i := 21) rfl) (by omega) (by omega))) (q4 23 (mNfs_ok (mp_at hok (i := 22) rfl) (by omega) (by omega)))) (s4 23 (mp_at hok (i := 24) rfl))
  have hrest : ∀ i j, ¬ i = 38 → ¬ i = 39 → ¬ (i = 0 ∧ j = 53) → mv (mPsh 38 39 53 c n w) i j = mv w i j := fun i j g1 g2 g3 => by
    rw [hmv, if_neg g3, if_neg (fun q => g2 q.1), if_neg (fun q => g1 q.1)]
  refine ⟨⟨s2, s1, ?_⟩, ⟨hag, fun j _ => hrest 27 j (by decide) (by decide) (fun q => by cases q.1), fun j _ => hrest 33 j (by decide) (by decide) (fun q => by cases q.1), fun j _ => hrest 34 j (by decide) (by decide) (fun q => by cases q.1), fun j hj => hrest 36 j (by decide) (by decide) (fun q => by cases q.1)⟩, ?_, ?_, ?_, fun j hj => ?_, fun j hj => ?_, hrest⟩
  · have e' : mTm (mPsh 38 39 53 c n w) = mTm w := mTm_eq (fun j _ g1 => hrest 0 j (by decide) (by decide) (fun q => g1 q.2))
    rw [e']
    exact hT
  · rw [hmv, if_pos ⟨rfl, rfl⟩]
  · rw [hmv, if_neg (fun q => by cases q.1), if_neg (fun q => by cases q.1), if_pos ⟨rfl, rfl⟩]
  · rw [hmv, if_neg (fun q => by cases q.1), if_pos ⟨rfl, rfl⟩]
  · rw [hmv, if_neg (fun q => by cases q.1), if_neg (fun q => by cases q.1), if_neg (fun q => hj q.2)]
  · rw [hmv, if_neg (fun q => by cases q.1), if_neg (fun q => hj q.2), if_neg (fun q => by cases q.1)]
/-- the contracts of emit and pushE -/
theorem mp_cE (hok : rt_all1 (fun b => b) (mp_L KK r) = true) {d : Nat} (hd : 1 ≤ d) : rc_Met l κ D d 199 (fun vs w => rt_gH KK 32 κ mK ad w ∧ ri_ad w = ad ∧ 0 ≤ mv w 0 51 ∧ mv w 0 51 < (800 : Nat) ∧ mv w 0 51 < (800 : Nat) ∧ ∃ (q : Nat) (cz nz : Int32), ad[0]? = some q ∧ vs = [.ref q, .int cz, .int nz]) (fun vs w ov w' => ov = none ∧ ∃ (q : Nat) (cz nz : Int32), vs = [.ref q, .int cz, .int nz] ∧ w' = mPsh 36 37 51 cz nz w) := by
  obtain ⟨o, ho, ho2⟩ := mO12_ok (mp_at hok (i := 0) rfl)
  obtain ⟨aC, hC, -⟩ := mIn_ok (mp_at hok (i := 13) rfl : mIn KK 32 0 51 0 800 = true)
  exact m_push (y := yX12_emit) (cc := cX12_emit) hd rfl rfl rfl rfl rfl rfl rfl rfl rfl rfl rfl rfl rfl rfl rfl rfl rfl rfl rfl rfl ho ho2 (by decide) (by decide) (by decide) (mp_at hok (i := 1) rfl) (mp_at hok (i := 2) rfl) (mp_at hok (i := 7) rfl) (mp_at hok (i := 8) rfl) hC
theorem mp_cP (hok : rt_all1 (fun b => b) (mp_L KK r) = true) {d : Nat} (hd : 1 ≤ d) : rc_Met l κ D d 255 (fun vs w => rt_gH KK 32 κ mK ad w ∧ ri_ad w = ad ∧ 0 ≤ mv w 0 53 ∧ mv w 0 53 < (90 : Nat) ∧ mv w 0 53 < (90 : Nat) ∧ ∃ (q : Nat) (cz nz : Int32), ad[0]? = some q ∧ vs = [.ref q, .int cz, .int nz]) (fun vs w ov w' => ov = none ∧ ∃ (q : Nat) (cz nz : Int32), vs = [.ref q, .int cz, .int nz] ∧ w' = mPsh 38 39 53 cz nz w) := by
  obtain ⟨o, ho, ho2⟩ := mO12_ok (mp_at hok (i := 0) rfl)
  obtain ⟨aC, hC, -⟩ := mIn_ok (mp_at hok (i := 14) rfl : mIn KK 32 0 53 mcB mcT = true)
  exact m_push (y := yX12_pushE) (cc := cX12_pushE) hd rfl rfl rfl rfl rfl rfl rfl rfl rfl rfl rfl rfl rfl rfl rfl rfl rfl rfl rfl rfl ho ho2 (by decide) (by decide) (by decide) (mp_at hok (i := 3) rfl) (mp_at hok (i := 4) rfl) (mp_at hok (i := 9) rfl) (mp_at hok (i := 10) rfl) hC
end MKNOW
