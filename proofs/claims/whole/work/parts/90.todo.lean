def Inv (c r : jS) : Prop := c = c ∧ r = r
theorem ops_ok : Ops Inv := sorry
theorem inv_0 : Inv st0 st0 := ⟨rfl, rfl⟩
