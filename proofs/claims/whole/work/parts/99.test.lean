set_option maxRecDepth 100000 in
theorem tst_1 (cal : CT) (o : Nat) (g b : Int32) (σ : ST) (f : Nat) : ex cal kX5_addWorth (f + 40) 0 [some (vR 5 o 0), some (vI g), some (vI b), none] [] σ = (if g < 0 ∨ 6 ≤ g.toNatClampNeg then none else
   (if gA σ 5 o 2 g.toNatClampNeg + b < 0 then
      some (none, sA σ 5 o 2 (upd (gA σ 5 o 2) g.toNatClampNeg 0))
    else none)) := by
  rfl
