/-! Lengths -/
section RT58
variable {K ad : List Nat}
theorem rt_gS_length {τ : List Int} {ν : List Nat} {lm : List Int64} : ∀ {A : List rt_V} {V : List Value}, rt_gS τ ν lm K ad A V → A.length = V.length
  | [], [], _ => rfl
  | _ :: _, _ :: _, h => congrArg (· + 1) (rt_gS_length h.2)
  | [], _ :: _, h => h.elim
  | _ :: _, [], h => h.elim
end RT58
