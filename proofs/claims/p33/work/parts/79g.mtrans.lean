/-! The pile: how it goes on -/
section MTRANS
variable {r : Nat} {uF : Int} {w w' : va_W}
theorem J_push (hr : r < 2) (h : mJ r uF true w) {x : Int} {du : Nat} (hP : mv w' 0 53 = mv w 0 53 + 1) (h52 : mv w' 0 52 = mv w 0 52 + 1) (h6 : mv w 0 52 ≤ 6) (hU : mv w' 28 r = mv w 28 r + du) (hx : (du = 0 ∧ x = 3) ∨ (du = 1 ∧ x = 7)) (h40 : mv w' 28 r ≤ 40) (h51 : mv w' 0 51 = mv w 0 51) (h36 : ∀ j, j < 800 → mv w' 36 j = mv w 36 j) (h38 : ∀ j, j < 90 → ¬ j = (mv w 0 53).toNat → mv w' 38 j = mv w 38 j) (x38 : mv w' 38 (mv w 0 53).toNat = x) (h39 : ∀ j, j < 90 → ¬ j = (mv w 0 53).toNat → mv w' 39 j = mv w 39 j) (x39 : mv w' 39 (mv w 0 53).toNat = 126) : mJ r uF true w' := by
  have hb := mJ_P h
  obtain ⟨P, B, N, K, U, C, H, a1, a2, a3, a4, a5, a6, a7, a8, a9, a10, a11, a12⟩ := h
  have eP : (mv w 0 53).toNat = P := by omega
  rw [eP] at h38 x38 h39 x39
  have hok : jok (mv w' 38 P) (mv w' 39 P) := by
    rw [x38, x39]
    rcases hx with ⟨-, rfl⟩ | ⟨-, rfl⟩
    · exact ⟨by decide, by decide, fun _ => rfl, fun q => absurd rfl q⟩
    · exact ⟨by decide, by decide, (fun q => absurd q (by decide)), fun _ q => absurd rfl q⟩
  obtain ⟨s1, s2, -⟩ := jS_push (gW := mv w' 38) (gS := mv w' 39) a5 (fun i hi => h38 i (by omega) (by omega)) (fun i hi => h39 i (by omega) (by omega)) hok
  have hC := jC_congr (gC := mv w' 36) a6 (fun j hj => h36 j (by omega))
  rcases hx with ⟨rfl, rfl⟩ | ⟨rfl, rfl⟩
  · exact ⟨P + 1, B, N + 1, K, U, C, H, by omega, by omega, by omega, by rw [h51]; exact a4, s1 x38, hC, by omega, a8, a9, by omega, by omega, by omega⟩
  · exact ⟨P + 1, B, N, K + 1, U + 1, C, H, by omega, by omega, by omega, by rw [h51]; exact a4, s2 x38, hC, by omega, by omega, by omega, by omega, by omega, by omega⟩
theorem J_let (hr : r < 2) (h : mJ r uF true w) (hP : mv w' 0 53 = mv w 0 53) (h52 : mv w' 0 52 = mv w 0 52) (hU : mv w' 28 r = mv w 28 r + 1) (h40 : mv w' 28 r ≤ 40) (h51 : mv w' 0 51 = mv w 0 51 + 1) (h36 : ∀ j, j < 800 → ¬ j = (mv w 0 51).toNat → mv w' 36 j = mv w 36 j) (l1 : 97 ≤ mv w' 36 (mv w 0 51).toNat) (l2 : mv w' 36 (mv w 0 51).toNat ≤ 122) (h38 : ∀ j, j < 90 → mv w' 38 j = mv w 38 j) (h39 : ∀ j, j < 90 → mv w' 39 j = mv w 39 j) : mJ r uF false w' := by
  have hb := mJ_P h
  obtain ⟨P, B, N, K, U, C, H, a1, a2, a3, a4, a5, a6, a7, a8, a9, a10, a11, a12⟩ := h
  have eC : (mv w 0 51).toNat = 400 * r + C := by omega
  rw [eC] at h36 l1 l2
  exact ⟨P, B, N, K, U + 1, C + 1, H + 1, by omega, by omega, by omega, by omega, jS_congr (fun i hi => h38 i (by omega)) (fun i hi => h39 i (by omega)) a5, jC_emit a6 (fun j hj => h36 j (by omega) (by omega)) (hstep_let l1 l2 (by omega)), a7, by omega, by omega, by omega, by omega, by omega⟩
theorem J_pop (hr : r < 2) (h : mJ r uF false w) (h2 : 2 ≤ mv w 0 53) (hP : mv w' 0 53 = mv w 0 53 - 1) (h7 : ¬ mv w 38 (mv w 0 53 - 1).toNat = 7) (h52 : (mv w 38 (mv w 0 53 - 1).toNat = 3 ∧ mv w' 0 52 = mv w 0 52 - 1) ∨ (¬ mv w 38 (mv w 0 53 - 1).toNat = 3 ∧ mv w' 0 52 = mv w 0 52)) (hU : mv w' 28 r = mv w 28 r) (h51 : mv w' 0 51 = mv w 0 51 + 1) (h36 : ∀ j, j < 800 → ¬ j = (mv w 0 51).toNat → mv w' 36 j = mv w 36 j) (x36 : mv w' 36 (mv w 0 51).toNat = mv w 39 (mv w 0 53 - 1).toNat) (h38 : ∀ j, j < 90 → mv w' 38 j = mv w 38 j) (h39 : ∀ j, j < 90 → mv w' 39 j = mv w 39 j) : mJ r uF false w' := by
  have hb := mJ_P h
  obtain ⟨P, B, N, K, U, C, H, a1, a2, a3, a4, a5, a6, a7, a8, a9, a10, a11, a12⟩ := h
  have eC : (mv w 0 51).toNat = 400 * r + C := by omega
  obtain ⟨P, rfl⟩ : ∃ P', P = P' + 1 := ⟨P - 1, by omega⟩
  have eP : (mv w 0 53 - 1).toNat = P := by omega
  rw [eC] at h36 x36
  rw [eP] at h7 h52 x36
  obtain ⟨k0, k3, -, kB⟩ := jS_pop a5 (by omega)
  have go : ∀ {B' N' : Nat}, jS P B' N' K (mv w 38) (mv w 39) → jS P B' N' K (mv w' 38) (mv w' 39) := fun h => jS_congr (fun i hi => h38 i (by omega)) (fun i hi => h39 i (by omega)) h
  obtain ⟨-, -, k03, k0o⟩ := k0
  rcases h52 with ⟨e3, h52⟩ | ⟨e3, h52⟩
  · obtain ⟨n1, s⟩ := k3 e3
    refine ⟨P, B, N - 1, K, U, C + 1, H, by omega, by omega, by omega, by omega, go s, jC_emit a6 (fun j hj => h36 j (by omega) (by omega)) ?_, by omega, a8, by omega, by omega, by omega, by omega⟩
    rw [x36, k03 e3]
    exact hstep_not (by omega)
  · obtain ⟨n1, s⟩ := kB e3 h7
    refine ⟨P, B - 1, N, K, U, C + 1, H - 1, by omega, by omega, by omega, by omega, go s, jC_emit a6 (fun j hj => h36 j (by omega) (by omega)) ?_, by omega, a8, by omega, by omega, by omega, by omega⟩
    rw [x36]
    exact hstep_op (k0o e3 h7) (by omega)
theorem J_rank (hr : r < 2) (h : mJ r uF false w) {x : Int} (hx : x = 1 ∨ x = 2 ∨ (4 ≤ x ∧ x ≤ 6)) (hP : mv w' 0 53 = mv w 0 53 + 1) (h52 : mv w' 0 52 = mv w 0 52) (hU : mv w' 28 r = mv w 28 r) (h51 : mv w' 0 51 = mv w 0 51) (h36 : ∀ j, j < 800 → mv w' 36 j = mv w 36 j) (h38 : ∀ j, j < 90 → ¬ j = (mv w 0 53).toNat → mv w' 38 j = mv w 38 j) (x38 : mv w' 38 (mv w 0 53).toNat = x) (h39 : ∀ j, j < 90 → ¬ j = (mv w 0 53).toNat → mv w' 39 j = mv w 39 j) (x39 : mop (mv w' 39 (mv w 0 53).toNat)) : mJ r uF true w' := by
  have hb := mJ_P h
  obtain ⟨P, B, N, K, U, C, H, a1, a2, a3, a4, a5, a6, a7, a8, a9, a10, a11, a12⟩ := h
  have eP : (mv w 0 53).toNat = P := by omega
  rw [eP] at h38 x38 h39 x39
  have hok : jok (mv w' 38 P) (mv w' 39 P) := by
    rw [x38]
    exact ⟨by omega, by omega, (fun q => by omega), fun _ _ => x39⟩
  obtain ⟨-, -, s3⟩ := jS_push (gW := mv w' 38) (gS := mv w' 39) a5 (fun i hi => h38 i (by omega) (by omega)) (fun i hi => h39 i (by omega) (by omega)) hok
  have hC := jC_congr (gC := mv w' 36) a6 (fun j hj => h36 j (by omega))
  exact ⟨P + 1, B + 1, N, K, U, C, H, by omega, by omega, by omega, by rw [h51]; exact a4, s3 (by omega) (by omega), hC, by omega, a8, a9, by omega, by omega, by omega⟩
theorem J_br (hr : r < 2) (h : mJ r uF false w) (h2 : 2 ≤ mv w 0 53) (h7 : mv w 38 (mv w 0 53 - 1).toNat = 7) (hP : mv w' 0 53 = mv w 0 53 - 1) (h52 : mv w' 0 52 = mv w 0 52 - 1) (hU : mv w' 28 r = mv w 28 r) (hs : mSm w w') : mJ r uF false w' := by
  have hb := mJ_P h
  obtain ⟨h36, h38, h39, h51⟩ := hs
  obtain ⟨P, B, N, K, U, C, H, a1, a2, a3, a4, a5, a6, a7, a8, a9, a10, a11, a12⟩ := h
  obtain ⟨P, rfl⟩ : ∃ P', P = P' + 1 := ⟨P - 1, by omega⟩
  have eP : (mv w 0 53 - 1).toNat = P := by omega
  rw [eP] at h7
  obtain ⟨-, -, k7, -⟩ := jS_pop a5 (by omega)
  obtain ⟨n1, s⟩ := k7 h7
  exact ⟨P, B, N, K - 1, U, C, H, by omega, by omega, by omega, by rw [h51]; exact a4, jS_congr (fun i hi => h38 i (by omega)) (fun i hi => h39 i (by omega)) s, jC_congr a6 (fun j hj => h36 j (by omega)), by omega, a8, a9, by omega, by omega, by omega⟩
/-- what lies on top -/
theorem J_top {wt : Bool} (h : mJ r uF wt w) : (mv w 0 53 = 1 ∧ mv w 38 (mv w 0 53 - 1).toNat = 8) ∨ (2 ≤ mv w 0 53 ∧ 1 ≤ mv w 38 (mv w 0 53 - 1).toNat ∧ mv w 38 (mv w 0 53 - 1).toNat ≤ 7 ∧ (mv w 38 (mv w 0 53 - 1).toNat = 3 ∨ mv w 38 (mv w 0 53 - 1).toNat = 7 → 1 ≤ mv w 0 52)) := by
  have hb := mJ_P h
  obtain ⟨P, B, N, K, U, C, H, a1, a2, a3, a4, a5, a6, a7, a8, a9, a10⟩ := h
  rcases (show P = 1 ∨ 2 ≤ P by omega) with rfl | h2
  · refine Or.inl ⟨by omega, ?_⟩
    rw [show (mv w 0 53 - 1).toNat = 0 by omega]
    exact a5.2.2.2.2.2.1
  · obtain ⟨P, rfl⟩ : ∃ P', P = P' + 1 := ⟨P - 1, by omega⟩
    have eP : (mv w 0 53 - 1).toNat = P := by omega
    rw [eP]
    obtain ⟨⟨k1, k2, -, -⟩, k3, k7, -⟩ := jS_pop a5 (by omega)
    refine Or.inr ⟨by omega, k1, k2, fun hx => ?_⟩
    rcases hx with hx | hx
    · have := (k3 hx).1
      omega
    · have := (k7 hx).1
      omega
theorem J_0 {wt : Bool} (h : mJ r uF wt w) : mv w 38 0 = 8 := by
  obtain ⟨P, B, N, K, U, C, H, a1, a2, a3, a4, a5, a6, a7, a8, a9, a10⟩ := h
  exact a5.2.2.2.2.2.1
theorem J_uF {wt : Bool} (h : mJ r uF wt w) : uF ≤ mv w 0 51 ∧ 400 * (r : Int) ≤ uF := by
  obtain ⟨P, B, N, K, U, C, H, a1, a2, a3, a4, a5, a6, a7, a8, a9, a10⟩ := h
  obtain ⟨h1, h2, -⟩ := a6
  omega
end MTRANS
