def Inv0 (z : Nat → Nat) (M : Mem) : Prop := z 0 ≤ 20 ∧ M 50 2 = nI (z 0)
theorem hi_all : HIall Inv0 := sorry
theorem hi_0 : Inv0 z0 M00 := sorry
