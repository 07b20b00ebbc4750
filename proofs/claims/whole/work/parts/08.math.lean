/-! Math's own four -/
def imax (x y : Int32) : Int32 := if x < y then y else x
def imin (x y : Int32) : Int32 := if y < x then y else x
def iabs (x : Int32) : Int32 := if 0 ≤ x then x else 0 - x
def labs (x : Int64) : Int64 := if 0 < x then x else -x
section MA
variable {K : KK} {own : String} {cc : ByteArray} {nL : Nat} {rm : Room} {a : AA} {M : Mem} {pc : Nat} {lv : List (Nat × Value)} {st : List Value} {index : Nat}
theorem fr_1 (S : Sx K own cc nL rm) (h : 1 ≤ rm.frames) : 1 ≤ (kR K).frames := by rw [S.2.2.2.2.2.2.2.2.1]; exact h
theorem lo_1 (S : Sx K own cc nL rm) {n : Nat} (h : n ≤ rm.locals) : n ≤ (kR K).locals := by rw [S.2.2.2.2.2.2.2.2.1]; exact h
theorem g_mmax {x y : Int32} (S : Sx K own cc nL rm) (hl : Cond.methodLink own index yJ9_max_7cf53 ∈ lw_g) (h1 : 1 ≤ rm.frames) (h2 : (st.map fun v => v.category).sum + 13 ≤ rm.locals) (d : decode cc pc = .ok (.invokestatic index, 3)) (k : Go K nL a M (pc + 3) lv (.int (imax x y) :: st)) : Go K nL a M pc lv (.int y :: .int x :: st) := fun H locs ls w1 w2 => va_mmax S.1 S.2.1 (S.2.2.1.trans w2.1.symm) S.2.2.2.1 (S.2.2.2.2.1 _ hl) (S.2.2.2.2.1 _ ok_J9_max_7cf53.2.1) (S.2.2.2.2.1 _ ok_J9_max_7cf53.2.2.1) (S.2.2.2.2.1 _ ok_J9_max_7cf53.1) (fr_1 S h1) (lo_1 S h2) (ce_in S).1 (ce_in S).2 d (k H locs ls w1 w2)
theorem g_mmin {x y : Int32} (S : Sx K own cc nL rm) (hl : Cond.methodLink own index yJ9_min_7cf53 ∈ lw_g) (h1 : 1 ≤ rm.frames) (h2 : (st.map fun v => v.category).sum + 13 ≤ rm.locals) (d : decode cc pc = .ok (.invokestatic index, 3)) (k : Go K nL a M (pc + 3) lv (.int (imin x y) :: st)) : Go K nL a M pc lv (.int y :: .int x :: st) := fun H locs ls w1 w2 => va_mmin S.1 S.2.1 (S.2.2.1.trans w2.1.symm) S.2.2.2.1 (S.2.2.2.2.1 _ hl) (S.2.2.2.2.1 _ ok_J9_min_7cf53.2.1) (S.2.2.2.2.1 _ ok_J9_min_7cf53.2.2.1) (S.2.2.2.2.1 _ ok_J9_min_7cf53.1) (fr_1 S h1) (lo_1 S h2) (ce_in S).1 (ce_in S).2 d (k H locs ls w1 w2)
theorem g_mabs {x : Int32} (S : Sx K own cc nL rm) (hl : Cond.methodLink own index yJ9_abs_0f7a4 ∈ lw_g) (h1 : 1 ≤ rm.frames) (h2 : (st.map fun v => v.category).sum + 13 ≤ rm.locals) (d : decode cc pc = .ok (.invokestatic index, 3)) (k : Go K nL a M (pc + 3) lv (.int (iabs x) :: st)) : Go K nL a M pc lv (.int x :: st) := fun H locs ls w1 w2 => va_mabs S.1 S.2.1 (S.2.2.1.trans w2.1.symm) S.2.2.2.1 (S.2.2.2.2.1 _ hl) (S.2.2.2.2.1 _ ok_J9_abs_0f7a4.2.1) (S.2.2.2.2.1 _ ok_J9_abs_0f7a4.2.2.1) (S.2.2.2.2.1 _ ok_J9_abs_0f7a4.1) (fr_1 S h1) (lo_1 S h2) (ce_in S).1 (ce_in S).2 d (k H locs ls w1 w2)
theorem g_mabsL {x : Int64} (S : Sx K own cc nL rm) (hl : Cond.methodLink own index yJ9_abs_067f4 ∈ lw_g) (h1 : 1 ≤ rm.frames) (h2 : (st.map fun v => v.category).sum + 13 ≤ rm.locals) (d : decode cc pc = .ok (.invokestatic index, 3)) (k : Go K nL a M (pc + 3) lv (.long (labs x) :: st)) : Go K nL a M pc lv (.long x :: st) := fun H locs ls w1 w2 => va_mabs_long S.1 S.2.1 (S.2.2.1.trans w2.1.symm) S.2.2.2.1 (S.2.2.2.2.1 _ hl) (S.2.2.2.2.1 _ ok_J9_abs_067f4.2.1) (S.2.2.2.2.1 _ ok_J9_abs_067f4.2.2.1) (S.2.2.2.2.1 _ ok_J9_abs_067f4.1) (fr_1 S h1) (lo_1 S h2) (ce_in S).1 (ce_in S).2 d (k H locs ls w1 w2)
end MA
theorem in_lt {i : Int32} {n : Nat} (h : inb i n = true) : i.toNatClampNeg < n := by
  have := inb_vp h
  unfold vp_in at this
  omega
