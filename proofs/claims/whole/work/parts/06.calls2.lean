/-! calls, by kind of answer and of call -/
def rmD (d : Nat) : Room := { frames := d, cells := 0, slots := 0, locals := 40 * d }
theorem rmD_z (d : Nat) : (rmD d).cells = 0 ∧ (rmD d).slots = 0 := ⟨rfl, rfl⟩
section CB
variable {K : KK} {own : String} {cc : ByteArray} {nL : Nat} {rm : Room} {a : AA} {M : Mem} {pc : Nat} {lv : List (Nat × Value)} {st stk : List Value} {M' : Mem} {y : MethodName} {bytes : ByteArray} {maxL n index : Nat} {rmc : Room} {As : List Value}
theorem g_cSI {r : Int32} {ty : FieldType} (S : Sx K own cc nL rm) (ok : OkS y bytes maxL (some ty) n) (hl : Cond.methodLink own index y ∈ lw_g) (ct : CtI (kL K) (kG K) a y bytes maxL ty rmc As M r M') (hn : As.length = n) (hs : stk = As.reverse ++ st) (hR : rmc.frames + 1 ≤ rm.frames ∧ 8 + (maxL + 11) + rmc.locals ≤ rm.locals) (hrc : rmc.cells = 0 ∧ rmc.slots = 0) (hcat : (st.map fun v => v.category).sum ≤ 8) (d : decode cc pc = .ok (.invokestatic index, 3)) (k : Go K nL a M' (pc + 3) lv (.int r :: st)) : Go K nL a M pc lv stk := fun H locs ls h1 h2 => by
  refine va_calli (rn_S S ok hl (ct H.size) h1 h2 hn hs hR hrc hcat d) h1.2.2 (fun q _ h => fr_in S h1 q h) (fr_in S h1) (fun r0 u t H1 locs1 e1 _ e3 e4 _ _ e7 => ?_)
  obtain ⟨p1, p2⟩ := e4
  rw [e1] at p1
  have e5 : u = M' := e3.2
  subst e5
  have e6 := e3.1
  subst e6
  exact k H1 locs1 ls ⟨p1, p2.weaken (fun _ q _ h => fr_in S h1 q.1 h), e7⟩ h2
theorem g_cSL {r : Int64} (S : Sx K own cc nL rm) (ok : OkS y bytes maxL (some .long) n) (hl : Cond.methodLink own index y ∈ lw_g) (ct : CtL (kL K) (kG K) a y bytes maxL rmc As M r M') (hn : As.length = n) (hs : stk = As.reverse ++ st) (hR : rmc.frames + 1 ≤ rm.frames ∧ 8 + (maxL + 11) + rmc.locals ≤ rm.locals) (hrc : rmc.cells = 0 ∧ rmc.slots = 0) (hcat : (st.map fun v => v.category).sum ≤ 8) (d : decode cc pc = .ok (.invokestatic index, 3)) (k : Go K nL a M' (pc + 3) lv (.long r :: st)) : Go K nL a M pc lv stk := fun H locs ls h1 h2 => by
  refine va_calll (rn_S S ok hl (ct H.size) h1 h2 hn hs hR hrc hcat d) h1.2.2 (fun q _ h => fr_in S h1 q h) (fr_in S h1) (fun r0 u t H1 locs1 e1 _ e3 e4 _ _ e7 => ?_)
  obtain ⟨p1, p2⟩ := e4
  rw [e1] at p1
  have e5 : u = M' := e3.2
  subst e5
  have e6 := e3.1
  subst e6
  exact k H1 locs1 ls ⟨p1, p2.weaken (fun _ q _ h => fr_in S h1 q.1 h), e7⟩ h2
theorem g_cSV  (S : Sx K own cc nL rm) (ok : OkS y bytes maxL (none) n) (hl : Cond.methodLink own index y ∈ lw_g) (ct : CtV (kL K) (kG K) a y bytes maxL rmc As M M') (hn : As.length = n) (hs : stk = As.reverse ++ st) (hR : rmc.frames + 1 ≤ rm.frames ∧ 8 + (maxL + 11) + rmc.locals ≤ rm.locals) (hrc : rmc.cells = 0 ∧ rmc.slots = 0) (hcat : (st.map fun v => v.category).sum ≤ 8) (d : decode cc pc = .ok (.invokestatic index, 3)) (k : Go K nL a M' (pc + 3) lv (st)) : Go K nL a M pc lv stk := fun H locs ls h1 h2 => by
  refine va_callv (rn_S S ok hl (ct H.size) h1 h2 hn hs hR hrc hcat d) h1.2.2 (fun q _ h => fr_in S h1 q h) (fr_in S h1) (fun u t H1 locs1 e1 _ e3 e4 _ _ e7 => ?_)
  obtain ⟨p1, p2⟩ := e4
  rw [e1] at p1
  have e5 : u = M' := e3
  subst e5
  exact k H1 locs1 ls ⟨p1, p2.weaken (fun _ q _ h => fr_in S h1 q.1 h), e7⟩ h2
theorem g_cSQ {r : Option Nat} {C : String} (S : Sx K own cc nL rm) (ok : OkS y bytes maxL (some (.object C)) n) (hl : Cond.methodLink own index y ∈ lw_g) (ct : CtQ (kL K) (kG K) a y bytes maxL C rmc As M r M') (hn : As.length = n) (hs : stk = As.reverse ++ st) (hR : rmc.frames + 1 ≤ rm.frames ∧ 8 + (maxL + 11) + rmc.locals ≤ rm.locals) (hrc : rmc.cells = 0 ∧ rmc.slots = 0) (hcat : (st.map fun v => v.category).sum ≤ 8) (d : decode cc pc = .ok (.invokestatic index, 3)) (k : Go K nL a M' (pc + 3) lv (va_rf (r.map a.2) :: st)) : Go K nL a M pc lv stk := fun H locs ls h1 h2 => by
  refine va_callq (rn_S S ok hl (ct H.size) h1 h2 hn hs hR hrc hcat d) h1.2.2 (fun q _ h => fr_in S h1 q h) (fr_in S h1) (fun r0 u t H1 locs1 e1 _ e3 e4 _ _ e7 => ?_)
  obtain ⟨p1, p2⟩ := e4
  rw [e1] at p1
  have e5 : u = M' := e3.2
  subst e5
  have e6 := e3.1
  subst e6
  exact k H1 locs1 ls ⟨p1, p2.weaken (fun _ q _ h => fr_in S h1 q.1 h), e7⟩ h2
theorem g_cNI {r : Int32} {ty : FieldType} (S : Sx K own cc nL rm) {host : String} (ok : OkS y bytes maxL (some ty) n) (hl : (own, index, y, host) ∈ nn_l) (ct : CtI (kL K) (kG K) a y bytes maxL ty rmc As M r M') (hn : As.length = n) (hs : stk = As.reverse ++ st) (hR : rmc.frames + 1 ≤ rm.frames ∧ 8 + (maxL + 11) + rmc.locals ≤ rm.locals) (hrc : rmc.cells = 0 ∧ rmc.slots = 0) (hcat : (st.map fun v => v.category).sum ≤ 8) (d : decode cc pc = .ok (.invokestatic index, 3)) (k : Go K nL a M' (pc + 3) lv (.int r :: st)) : Go K nL a M pc lv stk := fun H locs ls h1 h2 => by
  refine va_calli (rn_SN S ok hl (ct H.size) h1 h2 hn hs hR hrc hcat d) h1.2.2 (fun q _ h => fr_in S h1 q h) (fr_in S h1) (fun r0 u t H1 locs1 e1 _ e3 e4 _ _ e7 => ?_)
  obtain ⟨p1, p2⟩ := e4
  rw [e1] at p1
  have e5 : u = M' := e3.2
  subst e5
  have e6 := e3.1
  subst e6
  exact k H1 locs1 ls ⟨p1, p2.weaken (fun _ q _ h => fr_in S h1 q.1 h), e7⟩ h2
theorem g_cNL {r : Int64} (S : Sx K own cc nL rm) {host : String} (ok : OkS y bytes maxL (some .long) n) (hl : (own, index, y, host) ∈ nn_l) (ct : CtL (kL K) (kG K) a y bytes maxL rmc As M r M') (hn : As.length = n) (hs : stk = As.reverse ++ st) (hR : rmc.frames + 1 ≤ rm.frames ∧ 8 + (maxL + 11) + rmc.locals ≤ rm.locals) (hrc : rmc.cells = 0 ∧ rmc.slots = 0) (hcat : (st.map fun v => v.category).sum ≤ 8) (d : decode cc pc = .ok (.invokestatic index, 3)) (k : Go K nL a M' (pc + 3) lv (.long r :: st)) : Go K nL a M pc lv stk := fun H locs ls h1 h2 => by
  refine va_calll (rn_SN S ok hl (ct H.size) h1 h2 hn hs hR hrc hcat d) h1.2.2 (fun q _ h => fr_in S h1 q h) (fr_in S h1) (fun r0 u t H1 locs1 e1 _ e3 e4 _ _ e7 => ?_)
  obtain ⟨p1, p2⟩ := e4
  rw [e1] at p1
  have e5 : u = M' := e3.2
  subst e5
  have e6 := e3.1
  subst e6
  exact k H1 locs1 ls ⟨p1, p2.weaken (fun _ q _ h => fr_in S h1 q.1 h), e7⟩ h2
theorem g_cNV  (S : Sx K own cc nL rm) {host : String} (ok : OkS y bytes maxL (none) n) (hl : (own, index, y, host) ∈ nn_l) (ct : CtV (kL K) (kG K) a y bytes maxL rmc As M M') (hn : As.length = n) (hs : stk = As.reverse ++ st) (hR : rmc.frames + 1 ≤ rm.frames ∧ 8 + (maxL + 11) + rmc.locals ≤ rm.locals) (hrc : rmc.cells = 0 ∧ rmc.slots = 0) (hcat : (st.map fun v => v.category).sum ≤ 8) (d : decode cc pc = .ok (.invokestatic index, 3)) (k : Go K nL a M' (pc + 3) lv (st)) : Go K nL a M pc lv stk := fun H locs ls h1 h2 => by
  refine va_callv (rn_SN S ok hl (ct H.size) h1 h2 hn hs hR hrc hcat d) h1.2.2 (fun q _ h => fr_in S h1 q h) (fr_in S h1) (fun u t H1 locs1 e1 _ e3 e4 _ _ e7 => ?_)
  obtain ⟨p1, p2⟩ := e4
  rw [e1] at p1
  have e5 : u = M' := e3
  subst e5
  exact k H1 locs1 ls ⟨p1, p2.weaken (fun _ q _ h => fr_in S h1 q.1 h), e7⟩ h2
theorem g_cNQ {r : Option Nat} {C : String} (S : Sx K own cc nL rm) {host : String} (ok : OkS y bytes maxL (some (.object C)) n) (hl : (own, index, y, host) ∈ nn_l) (ct : CtQ (kL K) (kG K) a y bytes maxL C rmc As M r M') (hn : As.length = n) (hs : stk = As.reverse ++ st) (hR : rmc.frames + 1 ≤ rm.frames ∧ 8 + (maxL + 11) + rmc.locals ≤ rm.locals) (hrc : rmc.cells = 0 ∧ rmc.slots = 0) (hcat : (st.map fun v => v.category).sum ≤ 8) (d : decode cc pc = .ok (.invokestatic index, 3)) (k : Go K nL a M' (pc + 3) lv (va_rf (r.map a.2) :: st)) : Go K nL a M pc lv stk := fun H locs ls h1 h2 => by
  refine va_callq (rn_SN S ok hl (ct H.size) h1 h2 hn hs hR hrc hcat d) h1.2.2 (fun q _ h => fr_in S h1 q h) (fr_in S h1) (fun r0 u t H1 locs1 e1 _ e3 e4 _ _ e7 => ?_)
  obtain ⟨p1, p2⟩ := e4
  rw [e1] at p1
  have e5 : u = M' := e3.2
  subst e5
  have e6 := e3.1
  subst e6
  exact k H1 locs1 ls ⟨p1, p2.weaken (fun _ q _ h => fr_in S h1 q.1 h), e7⟩ h2
theorem g_cVI {r : Int32} {ty : FieldType} (S : Sx K own cc nL rm) {b ci N : Nat} {T : u_T} {fs : (Nat → Nat) → (Nat → Int32) → List Value} (o : OB a.1 b ci fs) (hcl : vwCl[ci]? = some (y.cls, T, N)) (ok : OkV y bytes maxL (some ty) n) (hl : Cond.methodLink own index y ∈ lw_g) (ct : CtI (kL K) (kG K) a y bytes maxL ty rmc (.ref (a.2 b) :: As) M r M') (hn : As.length = n) (hs : stk = As.reverse ++ .ref (a.2 b) :: st) (hR : rmc.frames + 1 ≤ rm.frames ∧ 8 + (maxL + 11) + rmc.locals ≤ rm.locals) (hrc : rmc.cells = 0 ∧ rmc.slots = 0) (hcat : (st.map fun v => v.category).sum ≤ 8) (d : decode cc pc = .ok (.invokevirtual index, 3)) (k : Go K nL a M' (pc + 3) lv (.int r :: st)) : Go K nL a M pc lv stk := fun H locs ls h1 h2 => by
  refine va_calli (rn_V S o hcl ok hl (ct H.size) h1 h2 hn hs hR hrc hcat d) h1.2.2 (fun q _ h => fr_in S h1 q h) (fr_in S h1) (fun r0 u t H1 locs1 e1 _ e3 e4 _ _ e7 => ?_)
  obtain ⟨p1, p2⟩ := e4
  rw [e1] at p1
  have e5 : u = M' := e3.2
  subst e5
  have e6 := e3.1
  subst e6
  exact k H1 locs1 ls ⟨p1, p2.weaken (fun _ q _ h => fr_in S h1 q.1 h), e7⟩ h2
theorem g_cVL {r : Int64} (S : Sx K own cc nL rm) {b ci N : Nat} {T : u_T} {fs : (Nat → Nat) → (Nat → Int32) → List Value} (o : OB a.1 b ci fs) (hcl : vwCl[ci]? = some (y.cls, T, N)) (ok : OkV y bytes maxL (some .long) n) (hl : Cond.methodLink own index y ∈ lw_g) (ct : CtL (kL K) (kG K) a y bytes maxL rmc (.ref (a.2 b) :: As) M r M') (hn : As.length = n) (hs : stk = As.reverse ++ .ref (a.2 b) :: st) (hR : rmc.frames + 1 ≤ rm.frames ∧ 8 + (maxL + 11) + rmc.locals ≤ rm.locals) (hrc : rmc.cells = 0 ∧ rmc.slots = 0) (hcat : (st.map fun v => v.category).sum ≤ 8) (d : decode cc pc = .ok (.invokevirtual index, 3)) (k : Go K nL a M' (pc + 3) lv (.long r :: st)) : Go K nL a M pc lv stk := fun H locs ls h1 h2 => by
  refine va_calll (rn_V S o hcl ok hl (ct H.size) h1 h2 hn hs hR hrc hcat d) h1.2.2 (fun q _ h => fr_in S h1 q h) (fr_in S h1) (fun r0 u t H1 locs1 e1 _ e3 e4 _ _ e7 => ?_)
  obtain ⟨p1, p2⟩ := e4
  rw [e1] at p1
  have e5 : u = M' := e3.2
  subst e5
  have e6 := e3.1
  subst e6
  exact k H1 locs1 ls ⟨p1, p2.weaken (fun _ q _ h => fr_in S h1 q.1 h), e7⟩ h2
theorem g_cVV  (S : Sx K own cc nL rm) {b ci N : Nat} {T : u_T} {fs : (Nat → Nat) → (Nat → Int32) → List Value} (o : OB a.1 b ci fs) (hcl : vwCl[ci]? = some (y.cls, T, N)) (ok : OkV y bytes maxL (none) n) (hl : Cond.methodLink own index y ∈ lw_g) (ct : CtV (kL K) (kG K) a y bytes maxL rmc (.ref (a.2 b) :: As) M M') (hn : As.length = n) (hs : stk = As.reverse ++ .ref (a.2 b) :: st) (hR : rmc.frames + 1 ≤ rm.frames ∧ 8 + (maxL + 11) + rmc.locals ≤ rm.locals) (hrc : rmc.cells = 0 ∧ rmc.slots = 0) (hcat : (st.map fun v => v.category).sum ≤ 8) (d : decode cc pc = .ok (.invokevirtual index, 3)) (k : Go K nL a M' (pc + 3) lv (st)) : Go K nL a M pc lv stk := fun H locs ls h1 h2 => by
  refine va_callv (rn_V S o hcl ok hl (ct H.size) h1 h2 hn hs hR hrc hcat d) h1.2.2 (fun q _ h => fr_in S h1 q h) (fr_in S h1) (fun u t H1 locs1 e1 _ e3 e4 _ _ e7 => ?_)
  obtain ⟨p1, p2⟩ := e4
  rw [e1] at p1
  have e5 : u = M' := e3
  subst e5
  exact k H1 locs1 ls ⟨p1, p2.weaken (fun _ q _ h => fr_in S h1 q.1 h), e7⟩ h2
theorem g_cVQ {r : Option Nat} {C : String} (S : Sx K own cc nL rm) {b ci N : Nat} {T : u_T} {fs : (Nat → Nat) → (Nat → Int32) → List Value} (o : OB a.1 b ci fs) (hcl : vwCl[ci]? = some (y.cls, T, N)) (ok : OkV y bytes maxL (some (.object C)) n) (hl : Cond.methodLink own index y ∈ lw_g) (ct : CtQ (kL K) (kG K) a y bytes maxL C rmc (.ref (a.2 b) :: As) M r M') (hn : As.length = n) (hs : stk = As.reverse ++ .ref (a.2 b) :: st) (hR : rmc.frames + 1 ≤ rm.frames ∧ 8 + (maxL + 11) + rmc.locals ≤ rm.locals) (hrc : rmc.cells = 0 ∧ rmc.slots = 0) (hcat : (st.map fun v => v.category).sum ≤ 8) (d : decode cc pc = .ok (.invokevirtual index, 3)) (k : Go K nL a M' (pc + 3) lv (va_rf (r.map a.2) :: st)) : Go K nL a M pc lv stk := fun H locs ls h1 h2 => by
  refine va_callq (rn_V S o hcl ok hl (ct H.size) h1 h2 hn hs hR hrc hcat d) h1.2.2 (fun q _ h => fr_in S h1 q h) (fr_in S h1) (fun r0 u t H1 locs1 e1 _ e3 e4 _ _ e7 => ?_)
  obtain ⟨p1, p2⟩ := e4
  rw [e1] at p1
  have e5 : u = M' := e3.2
  subst e5
  have e6 := e3.1
  subst e6
  exact k H1 locs1 ls ⟨p1, p2.weaken (fun _ q _ h => fr_in S h1 q.1 h), e7⟩ h2
end CB
