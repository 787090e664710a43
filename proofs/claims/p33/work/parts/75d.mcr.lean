/-! comes: what its contracts say of the crosses -/
section MCR
variable {ad : List Nat} {b u : Nat}
theorem m_hcr1 (hi : ∀ (i j q : Nat), ad[i]? = some q → ad[j]? = some q → i = j) {e1 : rt_B} {o1 : rt_O} {lo hi' : Int} (h : (u : Int) - 4 * b < lo) : ∀ (τ : List Int) (ν : List Nat) (lm : List Int64) (w : va_W), ri_ad w = ad → rt_okN mK ad ([e1, ((lo, hi'), (0, 0), none, none)], [79, 26], []) τ ν lm → (∀ o ∈ [o1, (2, (0, (b : Int)), .inl (2, 0, 0))], rt_gO τ ν lm mK ad w o) → (u : Int) - 4 * b < mv w 27 b := by
  intro τ ν lm w had hN hO
  have o := m_O0 hi had (j := 1) (i := 27) (f := b) (x := (2, 0, 0)) hN.2.1 (hO _ (List.mem_cons_of_mem _ List.mem_cons_self)) rfl rfl
  obtain ⟨x, tx, l1, -, -⟩ := m_tg hN.1 (k := 1) rfl
  have o := m_gIe o tx
  have l1 : lo ≤ x := l1
  show (u : Int) - 4 * b < (mz w 27 b).toInt
  omega
theorem m_hcr2 (hi : ∀ (i j q : Nat), ad[i]? = some q → ad[j]? = some q → i = j) {E : List rt_B} {o1 : rt_O} {lo hi' : Int} (h : (u : Int) - 4 * b < lo) : ∀ (τ : List Int) (ν : List Nat) (lm : List Int64) (w : va_W), ri_ad w = ad → rt_okN mK ad (E, [79, 26], []) τ ν lm → (∀ o ∈ [o1, (2, (0, (b : Int)), .inl (0, lo, hi'))], rt_gO τ ν lm mK ad w o) → (u : Int) - 4 * b < mv w 27 b := by
  intro τ ν lm w had hN hO
  have o := m_O0 hi had (j := 1) (i := 27) (f := b) (x := (0, lo, hi')) hN.2.1 (hO _ (List.mem_cons_of_mem _ List.mem_cons_self)) rfl rfl
  have o := rt_gI_0.mp o
  show (u : Int) - 4 * b < (mz w 27 b).toInt
  omega
end MCR
