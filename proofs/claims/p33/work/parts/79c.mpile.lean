/-! The pile of the parser: what holds of it -/
def mop (x : Int) : Prop := ¬ (97 ≤ x ∧ x ≤ 122) ∧ ¬ x = 126
def jB (f : Nat → Int) : Nat → Nat
  | 0 => 0
  | n + 1 => jB f n + (if f n = 3 ∨ 7 ≤ f n then 0 else 1)
def jN (f : Nat → Int) : Nat → Nat
  | 0 => 0
  | n + 1 => jN f n + (if f n = 3 then 1 else 0)
def jK (f : Nat → Int) : Nat → Nat
  | 0 => 0
  | n + 1 => jK f n + (if f n = 7 then 1 else 0)
theorem jB_congr {f g : Nat → Int} : ∀ {n : Nat}, (∀ i, i < n → f i = g i) → jB f n = jB g n
  | 0, _ => rfl
  | n + 1, h => by
    show jB f n + (if f n = 3 ∨ 7 ≤ f n then 0 else 1) = jB g n + (if g n = 3 ∨ 7 ≤ g n then 0 else 1)
    rw [jB_congr (n := n) (fun i hi => h i (by omega)), h n (by omega)]
theorem jN_congr {f g : Nat → Int} : ∀ {n : Nat}, (∀ i, i < n → f i = g i) → jN f n = jN g n
  | 0, _ => rfl
  | n + 1, h => by
    show jN f n + (if f n = 3 then 1 else 0) = jN g n + (if g n = 3 then 1 else 0)
    rw [jN_congr (n := n) (fun i hi => h i (by omega)), h n (by omega)]
theorem jK_congr {f g : Nat → Int} : ∀ {n : Nat}, (∀ i, i < n → f i = g i) → jK f n = jK g n
  | 0, _ => rfl
  | n + 1, h => by
    show jK f n + (if f n = 7 then 1 else 0) = jK g n + (if g n = 7 then 1 else 0)
    rw [jK_congr (n := n) (fun i hi => h i (by omega)), h n (by omega)]
def jok (x s : Int) : Prop := 1 ≤ x ∧ x ≤ 7 ∧ (x = 3 → s = 126) ∧ (¬ x = 3 → ¬ x = 7 → mop s)
def jS (P B N K : Nat) (fW fS : Nat → Int) : Prop := 1 ≤ P ∧ jB fW P = B ∧ jN fW P = N ∧ jK fW P = K ∧ P = 1 + B + N + K ∧ fW 0 = 8 ∧ ∀ i, 1 ≤ i → i < P → jok (fW i) (fS i)
theorem jS_congr {P B N K : Nat} {fW fS gW gS : Nat → Int} (h1 : ∀ i, i < P → gW i = fW i) (h2 : ∀ i, i < P → gS i = fS i) (h : jS P B N K fW fS) : jS P B N K gW gS := by
  obtain ⟨a1, a2, a3, a4, a5, a6, a7⟩ := h
  refine ⟨a1, by rw [jB_congr h1]; exact a2, by rw [jN_congr h1]; exact a3, by rw [jK_congr h1]; exact a4, a5, by rw [h1 0 (by omega)]; exact a6, fun i hi hlt => ?_⟩
  rw [h1 i hlt, h2 i hlt]
  exact a7 i hi hlt
theorem jS_push {P B N K : Nat} {fW fS gW gS : Nat → Int} (h : jS P B N K fW fS) (h1 : ∀ i, i < P → gW i = fW i) (h2 : ∀ i, i < P → gS i = fS i) (hk : jok (gW P) (gS P)) : (gW P = 3 → jS (P + 1) B (N + 1) K gW gS) ∧ (gW P = 7 → jS (P + 1) B N (K + 1) gW gS) ∧ (¬ gW P = 3 → ¬ gW P = 7 → jS (P + 1) (B + 1) N K gW gS) := by
  obtain ⟨a1, a2, a3, a4, a5, a6, a7⟩ := jS_congr h1 h2 h
  have hb : jB gW (P + 1) = jB gW P + (if gW P = 3 ∨ 7 ≤ gW P then 0 else 1) := rfl
  have hn : jN gW (P + 1) = jN gW P + (if gW P = 3 then 1 else 0) := rfl
  have hkk : jK gW (P + 1) = jK gW P + (if gW P = 7 then 1 else 0) := rfl
  have hall : ∀ i, 1 ≤ i → i < P + 1 → jok (gW i) (gS i) := fun i hi hlt => by
    rcases (show i = P ∨ i < P by omega) with rfl | hlt
    · exact hk
    · exact a7 i hi hlt
  refine ⟨fun e => ?_, fun e => ?_, fun e1 e2 => ?_⟩
  · rw [if_pos (Or.inl e)] at hb
    rw [if_pos e] at hn
    rw [if_neg (by omega)] at hkk
    exact ⟨by omega, by omega, by omega, by omega, by omega, a6, hall⟩
  · rw [if_pos (Or.inr (by omega))] at hb
    rw [if_neg (by omega)] at hn
    rw [if_pos e] at hkk
    exact ⟨by omega, by omega, by omega, by omega, by omega, a6, hall⟩
  · obtain ⟨k1, k2, -, -⟩ := hk
    rw [if_neg (by omega)] at hb
    rw [if_neg e1] at hn
    rw [if_neg e2] at hkk
    exact ⟨by omega, by omega, by omega, by omega, by omega, a6, hall⟩
theorem jS_pop {P B N K : Nat} {fW fS : Nat → Int} (h : jS (P + 1) B N K fW fS) (hP : 1 ≤ P) : jok (fW P) (fS P) ∧ (fW P = 3 → 1 ≤ N ∧ jS P B (N - 1) K fW fS) ∧ (fW P = 7 → 1 ≤ K ∧ jS P B N (K - 1) fW fS) ∧ (¬ fW P = 3 → ¬ fW P = 7 → 1 ≤ B ∧ jS P (B - 1) N K fW fS) := by
  obtain ⟨a1, a2, a3, a4, a5, a6, a7⟩ := h
  have hb : jB fW (P + 1) = jB fW P + (if fW P = 3 ∨ 7 ≤ fW P then 0 else 1) := rfl
  have hn : jN fW (P + 1) = jN fW P + (if fW P = 3 then 1 else 0) := rfl
  have hkk : jK fW (P + 1) = jK fW P + (if fW P = 7 then 1 else 0) := rfl
  have hk := a7 P hP (by omega)
  have hall : ∀ i, 1 ≤ i → i < P → jok (fW i) (fS i) := fun i hi hlt => a7 i hi (by omega)
  refine ⟨hk, fun e => ?_, fun e => ?_, fun e1 e2 => ?_⟩
  · rw [if_pos (Or.inl e)] at hb
    rw [if_pos e] at hn
    rw [if_neg (by omega)] at hkk
    exact ⟨by omega, by omega, by omega, by omega, by omega, by omega, a6, hall⟩
  · rw [if_pos (Or.inr (by omega))] at hb
    rw [if_neg (by omega)] at hn
    rw [if_pos e] at hkk
    exact ⟨by omega, by omega, by omega, by omega, by omega, by omega, a6, hall⟩
  · obtain ⟨k1, k2, -, -⟩ := hk
    rw [if_neg (by omega)] at hb
    rw [if_neg e1] at hn
    rw [if_neg e2] at hkk
    exact ⟨by omega, by omega, by omega, by omega, by omega, by omega, a6, hall⟩
def jC (r : Nat) (uF : Int) (C : Nat) (fC : Nat → Int) (H : Nat) : Prop := 400 * (r : Int) ≤ uF ∧ uF ≤ 400 * (r : Int) + C ∧ hts (fun j => fC (uF.toNat + j)) (400 * (r : Int) + C - uF).toNat = some H
theorem jC_congr {r C H : Nat} {uF : Int} {fC gC : Nat → Int} (h : jC r uF C fC H) (h1 : ∀ j : Nat, j < 400 * r + C → gC j = fC j) : jC r uF C gC H := by
  obtain ⟨a1, a2, a3⟩ := h
  refine ⟨a1, a2, ?_⟩
  rw [hts_congr (g := fun j => fC (uF.toNat + j))]
  · exact a3
  · intro k hk
    exact h1 _ (by omega)
theorem jC_emit {r C H H' : Nat} {uF : Int} {fC gC : Nat → Int} (h : jC r uF C fC H) (h1 : ∀ j : Nat, j < 400 * r + C → gC j = fC j) (hs : hstep H (gC (400 * r + C)) = some H') : jC r uF (C + 1) gC H' := by
  obtain ⟨a1, a2, a3⟩ := jC_congr h h1
  refine ⟨a1, by omega, ?_⟩
  rw [show (400 * (r : Int) + ((C + 1 : Nat) : Int) - uF).toNat = (400 * (r : Int) + C - uF).toNat + 1 by omega]
  show (hts (fun j => gC (uF.toNat + j)) (400 * (r : Int) + C - uF).toNat).bind (fun h => hstep h (gC (uF.toNat + (400 * (r : Int) + C - uF).toNat))) = some H'
  rw [a3, show uF.toNat + (400 * (r : Int) + C - uF).toNat = 400 * r + C by omega]
  exact hs
theorem hstep_let {h : Nat} {x : Int} (h1 : 97 ≤ x) (h2 : x ≤ 122) (h3 : h < 60) : hstep h x = some (h + 1) := by
  unfold hstep
  rw [if_neg (by omega), if_pos ⟨h1, h2⟩, if_pos h3]
theorem hstep_not {h : Nat} (h1 : 1 ≤ h) : hstep h 126 = some h := by
  unfold hstep
  rw [if_pos rfl, if_pos h1]
theorem hstep_op {h : Nat} {x : Int} (h1 : mop x) (h2 : 2 ≤ h) : hstep h x = some (h - 1) := by
  unfold hstep
  rw [if_neg h1.2, if_neg h1.1, if_pos h2]
def jW (wt : Bool) (B N K U C H : Nat) : Prop := match wt with
  | true => C + B + N ≤ 9 * U + (N + K) ∧ B ≤ U ∧ H = B
  | false => C + B + N + 1 ≤ 9 * U ∧ B + 1 ≤ U ∧ H = B + 1
/-- while the pile stands -/
def mJ (r : Nat) (uF : Int) (wt : Bool) (w : va_W) : Prop := ∃ P B N K U C H : Nat, mv w 0 53 = P ∧ mv w 0 52 = ((N + K : Nat) : Int) ∧ mv w 28 r = U ∧ mv w 0 51 = ((400 * r + C : Nat) : Int) ∧ jS P B N K (mv w 38) (mv w 39) ∧ jC r uF C (mv w 36) H ∧ N + K ≤ 7 ∧ U ≤ 40 ∧ C ≤ 9 * U ∧ jW wt B N K U C H
/-- at the end, or at a fault -/
def mD (r : Nat) (uF : Int) (w : va_W) : Prop := ∃ U C H : Nat, mv w 28 r = U ∧ mv w 0 51 = ((400 * r + C : Nat) : Int) ∧ jC r uF C (mv w 36) H ∧ U ≤ 40 ∧ C ≤ 9 * U
theorem mJ_D {r : Nat} {uF : Int} {wt : Bool} {w : va_W} (h : mJ r uF wt w) : mD r uF w := by
  obtain ⟨P, B, N, K, U, C, H, a1, a2, a3, a4, a5, a6, a7, a8, a9, a10⟩ := h
  exact ⟨U, C, H, a3, a4, a6, a8, a9⟩
theorem jB_le {f : Nat → Int} : ∀ n, jB f n ≤ n
  | 0 => Nat.le_refl _
  | n + 1 => by
    have := jB_le (f := f) n
    show jB f n + (if f n = 3 ∨ 7 ≤ f n then 0 else 1) ≤ n + 1
    split
    · omega
    · omega
/-- what is unchanged where nothing is put -/
def mSm (w w' : va_W) : Prop := (∀ j, j < 800 → mv w' 36 j = mv w 36 j) ∧ (∀ j, j < 90 → mv w' 38 j = mv w 38 j) ∧ (∀ j, j < 90 → mv w' 39 j = mv w 39 j) ∧ mv w' 0 51 = mv w 0 51
/-- all that is unchanged while a cross is read -/
def mFm (KK : List (List rt_K)) (uF : Int) (w w' : va_W) : Prop := rt_ag (fun f => f = 1) KK 23 mK w w' ∧ (∀ j, j < 2 → mv w' 27 j = mv w 27 j) ∧ (∀ j, j < 8 → mv w' 33 j = mv w 33 j) ∧ (∀ j, j < 8 → mv w' 34 j = mv w 34 j) ∧ ∀ j : Nat, (j : Int) < uF → mv w' 36 j = mv w 36 j
theorem mFm_tr {KK : List (List rt_K)} {uF : Int} {a b c : va_W} (h1 : mFm KK uF a b) (h2 : mFm KK uF b c) : mFm KK uF a c := by
  obtain ⟨a1, a2, a3, a4, a5⟩ := h1
  obtain ⟨b1, b2, b3, b4, b5⟩ := h2
  exact ⟨m_agT a1 b1, fun j hj => (b2 j hj).trans (a2 j hj), fun j hj => (b3 j hj).trans (a3 j hj), fun j hj => (b4 j hj).trans (a4 j hj), fun j hj => (b5 j hj).trans (a5 j hj)⟩
theorem mJ_P {r : Nat} {uF : Int} {wt : Bool} {w : va_W} (h : mJ r uF wt w) : 1 ≤ mv w 0 53 ∧ mv w 0 53 ≤ 48 ∧ 0 ≤ mv w 0 52 ∧ mv w 0 52 ≤ 7 ∧ 0 ≤ mv w 28 r ∧ mv w 28 r ≤ 40 ∧ 400 * (r : Int) ≤ mv w 0 51 ∧ mv w 0 51 ≤ 400 * (r : Int) + 360 := by
  obtain ⟨P, B, N, K, U, C, H, a1, a2, a3, a4, a5, a6, a7, a8, a9, a10⟩ := h
  have hB : B ≤ 40 := by
    cases wt with
    | true =>
      obtain ⟨-, h2, -⟩ := a10
      omega
    | false =>
      obtain ⟨-, h2, -⟩ := a10
      omega
  obtain ⟨b1, -, -, -, b5, -, -⟩ := a5
  omega
/-- the pile is the same but for the numbers -/
theorem mJ_same {r : Nat} {uF : Int} {wt : Bool} {w w' : va_W} (hr : r < 2) (h : mJ r uF wt w) (hs : mSm w w') (h53 : mv w' 0 53 = mv w 0 53) (h52 : mv w' 0 52 = mv w 0 52) (h28 : mv w' 28 r = mv w 28 r) : mJ r uF wt w' := by
  have hb := mJ_P h
  obtain ⟨P, B, N, K, U, C, H, a1, a2, a3, a4, a5, a6, a7, a8, a9, a10⟩ := h
  obtain ⟨s1, s2, s3, s4⟩ := hs
  refine ⟨P, B, N, K, U, C, H, by rw [h53]; exact a1, by rw [h52]; exact a2, by rw [h28]; exact a3, by rw [s4]; exact a4, jS_congr (fun i hi => s2 i (by omega)) (fun i hi => s3 i (by omega)) a5, jC_congr a6 (fun j hj => s1 j (by omega)), a7, a8, a9, a10⟩
theorem mD_same {r : Nat} {uF : Int} {w w' : va_W} (hr : r < 2) (h : mD r uF w) (hs : mSm w w') (h28 : mv w' 28 r = mv w 28 r) : mD r uF w' := by
  obtain ⟨U, C, H, a3, a4, a6, a8, a9⟩ := h
  obtain ⟨s1, s2, s3, s4⟩ := hs
  exact ⟨U, C, H, by rw [h28]; exact a3, by rw [s4]; exact a4, jC_congr a6 (fun j hj => s1 j (by omega)), a8, a9⟩
