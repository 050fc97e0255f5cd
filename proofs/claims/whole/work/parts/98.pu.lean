def pu_I (n : Nat) (M : mk_M) : Prop := n = n ∧ M = M
theorem pu_step : mk_Step pu_I := sorry
theorem pu_start : pu_I 0 mk_M0 := ⟨rfl, rfl⟩
