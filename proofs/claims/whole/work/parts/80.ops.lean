def INV (_ : Nat) (_ : CS) (_ : MS) : Prop := True
theorem INV_ops : OPS INV := sorry
theorem INV_0 : INV 0 c0S m0S := trivial
