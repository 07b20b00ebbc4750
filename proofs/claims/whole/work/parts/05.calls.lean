/-! contracts, and calls by them -/
def Pc0 (G : GG) (a : AA) (M : Mem) (sz : Nat) (U : State) : Prop := U.heap.size = sz ∧ va_P (Gd G) vwCl (wd_W G a.1 a.2 M) U.heap ∧ va_K (Gd G) vwCl (tyG G) U ∧ va_D (fun _ => True) (wd_W G a.1 a.2 M) ∧ NN U
def B0 (G : GG) (a : AA) (A : Nat → Prop) (M : Mem) (t : State) : Prop := va_P (Gd G) vwCl (wd_W G a.1 a.2 M) t.heap ∧ va_D A (wd_W G a.1 a.2 M)
def CtI (l : Launch) (G : GG) (a : AA) (y : MethodName) (cc : ByteArray) (mL : Nat) (ty : FieldType) (rm : Room) (av : List Value) (M : Mem) (r : Int32) (M' : Mem) : Prop := ∀ sz : Nat, Met l y (.code y cc mL (some ty) :: lw_g) rm (va_Pc av (Pc0 G a M sz)) (va_Qi (fun r0 (u : Mem) => r0 = r ∧ u = M') (B0 G a (va_A (wd_W G a.1 a.2 M) sz)) (va_A (wd_W G a.1 a.2 M) sz)) 0 0 (va_A (wd_W G a.1 a.2 M) sz)
def CtL (l : Launch) (G : GG) (a : AA) (y : MethodName) (cc : ByteArray) (mL : Nat) (rm : Room) (av : List Value) (M : Mem) (r : Int64) (M' : Mem) : Prop := ∀ sz : Nat, Met l y (.code y cc mL (some .long) :: lw_g) rm (va_Pc av (Pc0 G a M sz)) (va_Ql (fun r0 (u : Mem) => r0 = r ∧ u = M') (B0 G a (va_A (wd_W G a.1 a.2 M) sz)) (va_A (wd_W G a.1 a.2 M) sz)) 0 0 (va_A (wd_W G a.1 a.2 M) sz)
def CtV (l : Launch) (G : GG) (a : AA) (y : MethodName) (cc : ByteArray) (mL : Nat) (rm : Room) (av : List Value) (M : Mem) (M' : Mem) : Prop := ∀ sz : Nat, Met l y (.code y cc mL none :: lw_g) rm (va_Pc av (Pc0 G a M sz)) (va_Qv (fun (u : Mem) => u = M') (B0 G a (va_A (wd_W G a.1 a.2 M) sz)) (va_A (wd_W G a.1 a.2 M) sz)) 0 0 (va_A (wd_W G a.1 a.2 M) sz)
def CtQ (l : Launch) (G : GG) (a : AA) (y : MethodName) (cc : ByteArray) (mL : Nat) (C : String) (rm : Room) (av : List Value) (M : Mem) (r : Option Nat) (M' : Mem) : Prop := ∀ sz : Nat, Met l y (.code y cc mL (some (.object C)) :: lw_g) rm (va_Pc av (Pc0 G a M sz)) (va_Qq (fun r0 (u : Mem) => r0 = r.map a.2 ∧ u = M') (B0 G a (va_A (wd_W G a.1 a.2 M) sz)) (va_A (wd_W G a.1 a.2 M) sz)) 0 0 (va_A (wd_W G a.1 a.2 M) sz)
theorem pc_blind {av : List Value} {G : GG} {a : AA} {M : Mem} {sz : Nat} : FrameBlind (va_Pc av (Pc0 G a M sz)) := by
  intro b U g mk q
  obtain ⟨q0, q1, qP, qK, qD, qN⟩ := q
  exact ⟨q0, q1, qP, va_K.moved (u := U) (U := U.calling g mk b) (Vm.Alike.refl U.vm) qK, qD, NN.same rfl qN⟩
section EN
variable {l : Launch} {G : GG} {a : AA} {y : MethodName} {cc : ByteArray} {mL : Nat} {rm : Room} {av : List Value} {M M' : Mem} {own : String}
theorem ct_I {ty : FieldType} {r : Int32} (hy : plainName y.cls = true) (hown : y.cls = own) (hn : narrow ty (.int r) = .int r) (hlen : (lg_sl av).length ≤ mL) (body : ∀ K : KK, kL K = l → kG K = G → Sx K own cc mL rm → RtI K a cc r M' → Go K mL a M 0 (lv_args 0 av) []) : CtI l G a y cc mL ty rm av M r M' := by
  intro sz
  refine Met.ofW (cc := cc) (maxL := mL) (ret := some ty) hy rfl ?_
  intro p e s m args below meth c s₁ B hml hv
  obtain ⟨rfl, hsz, hP, hK, hD0, hN⟩ := hv
  have hts := atoms_spec (ws := .code y cc mL (some ty) :: lw_g) B.pre
  have hf : s.vm.findClass y.cls = some m.cls := findClass_of_methodNamed B.named
  rw [hown] at hf
  subst hsz
  have hD := hD0.self (sz := s.heap.size)
  rw [lg_entry_eq]
  have hl := lv_entry av hlen
  have hlocks := B.notSynchronized
  exact body (p, l, e, rm, s, m, av.toArray, below, meth, c, MQ below (va_Qi (fun r0 (u : Mem) => r0 = r ∧ u = M') (B0 G a (va_A (wd_W G a.1 a.2 M) s.heap.size)) (va_A (wd_W G a.1 a.2 M) s.heap.size)) av.toArray s 0 0 (va_A (wd_W G a.1 a.2 M) s.heap.size), va_A (wd_W G a.1 a.2 M) s.heap.size, G, 0, 0) rfl rfl ⟨B.exec, B.bytes, hml, hf, fun w hw => hts w (List.mem_cons_of_mem _ hw), hK, hN, fun q hq => Or.inr hq, rfl, Nat.zero_le _, Nat.zero_le _⟩ (fun pc H locs ls d h => W.zret B.exec B.bytes B.returns hn (fun t ht hW => ⟨⟨r, M', rfl, ⟨rfl, rfl⟩, by rw [ht]; exact h.1, h.2.1⟩, h.2.2.F ht⟩) h.2.2.2.2 d hlocks) s.heap [] _ ⟨hP, hD, va_S.rf⟩ hl
theorem ct_L {r : Int64} (hy : plainName y.cls = true) (hown : y.cls = own) (hlen : (lg_sl av).length ≤ mL) (body : ∀ K : KK, kL K = l → kG K = G → Sx K own cc mL rm → RtL K a cc r M' → Go K mL a M 0 (lv_args 0 av) []) : CtL l G a y cc mL rm av M r M' := by
  intro sz
  refine Met.ofW (cc := cc) (maxL := mL) (ret := some .long) hy rfl ?_
  intro p e s m args below meth c s₁ B hml hv
  obtain ⟨rfl, hsz, hP, hK, hD0, hN⟩ := hv
  have hts := atoms_spec (ws := .code y cc mL (some .long) :: lw_g) B.pre
  have hf : s.vm.findClass y.cls = some m.cls := findClass_of_methodNamed B.named
  rw [hown] at hf
  subst hsz
  have hD := hD0.self (sz := s.heap.size)
  rw [lg_entry_eq]
  have hl := lv_entry av hlen
  have hlocks := B.notSynchronized
  exact body (p, l, e, rm, s, m, av.toArray, below, meth, c, MQ below (va_Ql (fun r0 (u : Mem) => r0 = r ∧ u = M') (B0 G a (va_A (wd_W G a.1 a.2 M) s.heap.size)) (va_A (wd_W G a.1 a.2 M) s.heap.size)) av.toArray s 0 0 (va_A (wd_W G a.1 a.2 M) s.heap.size), va_A (wd_W G a.1 a.2 M) s.heap.size, G, 0, 0) rfl rfl ⟨B.exec, B.bytes, hml, hf, fun w hw => hts w (List.mem_cons_of_mem _ hw), hK, hN, fun q hq => Or.inr hq, rfl, Nat.zero_le _, Nat.zero_le _⟩ (fun pc H locs ls d h => W.lret B.exec B.bytes B.returns (fun t ht hW => ⟨⟨r, M', rfl, ⟨rfl, rfl⟩, by rw [ht]; exact h.1, h.2.1⟩, h.2.2.F ht⟩) h.2.2.2.2 d hlocks) s.heap [] _ ⟨hP, hD, va_S.rf⟩ hl
theorem ct_V (hy : plainName y.cls = true) (hown : y.cls = own) (hlen : (lg_sl av).length ≤ mL) (body : ∀ K : KK, kL K = l → kG K = G → Sx K own cc mL rm → RtV K a cc M' → Go K mL a M 0 (lv_args 0 av) []) : CtV l G a y cc mL rm av M M' := by
  intro sz
  refine Met.ofW (cc := cc) (maxL := mL) (ret := none) hy rfl ?_
  intro p e s m args below meth c s₁ B hml hv
  obtain ⟨rfl, hsz, hP, hK, hD0, hN⟩ := hv
  have hts := atoms_spec (ws := .code y cc mL none :: lw_g) B.pre
  have hf : s.vm.findClass y.cls = some m.cls := findClass_of_methodNamed B.named
  rw [hown] at hf
  subst hsz
  have hD := hD0.self (sz := s.heap.size)
  rw [lg_entry_eq]
  have hl := lv_entry av hlen
  have hlocks := B.notSynchronized
  exact body (p, l, e, rm, s, m, av.toArray, below, meth, c, MQ below (va_Qv (fun (u : Mem) => u = M') (B0 G a (va_A (wd_W G a.1 a.2 M) s.heap.size)) (va_A (wd_W G a.1 a.2 M) s.heap.size)) av.toArray s 0 0 (va_A (wd_W G a.1 a.2 M) s.heap.size), va_A (wd_W G a.1 a.2 M) s.heap.size, G, 0, 0) rfl rfl ⟨B.exec, B.bytes, hml, hf, fun w hw => hts w (List.mem_cons_of_mem _ hw), hK, hN, fun q hq => Or.inr hq, rfl, Nat.zero_le _, Nat.zero_le _⟩ (fun pc H locs ls d h => W.vret B.exec B.bytes B.returns (fun t ht hW => ⟨⟨M', rfl, rfl, by rw [ht]; exact h.1, h.2.1⟩, h.2.2.F ht⟩) h.2.2.2.2 d hlocks) s.heap [] _ ⟨hP, hD, va_S.rf⟩ hl
theorem ct_Q {C : String} {r : Option Nat} (hy : plainName y.cls = true) (hown : y.cls = own) (hlen : (lg_sl av).length ≤ mL) (body : ∀ K : KK, kL K = l → kG K = G → Sx K own cc mL rm → RtQ K a cc r M' → Go K mL a M 0 (lv_args 0 av) []) : CtQ l G a y cc mL C rm av M r M' := by
  intro sz
  refine Met.ofW (cc := cc) (maxL := mL) (ret := some (.object C)) hy rfl ?_
  intro p e s m args below meth c s₁ B hml hv
  obtain ⟨rfl, hsz, hP, hK, hD0, hN⟩ := hv
  have hts := atoms_spec (ws := .code y cc mL (some (.object C)) :: lw_g) B.pre
  have hf : s.vm.findClass y.cls = some m.cls := findClass_of_methodNamed B.named
  rw [hown] at hf
  subst hsz
  have hD := hD0.self (sz := s.heap.size)
  rw [lg_entry_eq]
  have hl := lv_entry av hlen
  have hlocks := B.notSynchronized
  exact body (p, l, e, rm, s, m, av.toArray, below, meth, c, MQ below (va_Qq (fun r0 (u : Mem) => r0 = r.map a.2 ∧ u = M') (B0 G a (va_A (wd_W G a.1 a.2 M) s.heap.size)) (va_A (wd_W G a.1 a.2 M) s.heap.size)) av.toArray s 0 0 (va_A (wd_W G a.1 a.2 M) s.heap.size), va_A (wd_W G a.1 a.2 M) s.heap.size, G, 0, 0) rfl rfl ⟨B.exec, B.bytes, hml, hf, fun w hw => hts w (List.mem_cons_of_mem _ hw), hK, hN, fun q hq => Or.inr hq, rfl, Nat.zero_le _, Nat.zero_le _⟩ (fun pc H locs ls d h => W.aret B.exec B.bytes B.returns (Or.inl ⟨C, rfl⟩) (by cases r with | none => exact Or.inl rfl | some x => exact Or.inr ⟨a.2 x, rfl⟩) (fun t ht hW => ⟨⟨r.map a.2, M', rfl, ⟨rfl, rfl⟩, by rw [ht]; exact h.1, h.2.1⟩, h.2.2.F ht⟩) h.2.2.2.2 d hlocks) s.heap [] _ ⟨hP, hD, va_S.rf⟩ hl
end EN
/-- what a call needs to know of the method itself -/
def OkS (y : MethodName) (bytes : ByteArray) (maxL : Nat) (ret : Option FieldType) (n : Nat) : Prop := Cond.code y bytes maxL ret ∈ lw_g ∧ Cond.static y ∈ lw_g ∧ Cond.initialized y.cls ∈ lw_g ∧ (y.cls ≠ "java/lang/invoke/MethodHandle" ∧ y.cls ≠ "java/lang/invoke/VarHandle" ∧ (parseMethodDescriptor y.desc).map (fun d => d.parameters.length) = some n)
def OkV (y : MethodName) (bytes : ByteArray) (maxL : Nat) (ret : Option FieldType) (n : Nat) : Prop := Cond.code y bytes maxL ret ∈ lw_g ∧ Cond.instanceMethod y ∈ lw_g ∧ Cond.selects y.cls y y ∈ lw_g ∧ Cond.initialized y.cls ∈ lw_g ∧ (y.cls ≠ "java/lang/invoke/MethodHandle" ∧ y.cls ≠ "java/lang/invoke/VarHandle" ∧ (parseMethodDescriptor y.desc).map (fun d => d.parameters.length) = some n)
section CA
variable {K : KK} {own : String} {cc : ByteArray} {nL : Nat} {rm : Room} {a : AA} {M : Mem} {pc : Nat} {lv : List (Nat × Value)} {st stk : List Value} {M' : Mem} {y : MethodName} {bytes : ByteArray} {maxL n index : Nat} {rmc : Room} {As : List Value} {H : Heap} {locs : List Loc} {ls : Array Slot}
theorem pc_in (S : Sx K own cc nL rm) (h : go_H K a M H locs) {U : State} (hU : U.heap = H) (hW : (kS K).WarmedH U.vm) : va_Pc As (Pc0 (kG K) a M H.size) As.toArray U := ⟨rfl, by rw [hU], by rw [hU]; exact h.1, va_K.moved hW.alike S.2.2.2.2.2.1, h.2.1.weaken (fun _ _ _ _ => trivial), NN.warm hW S.2.2.2.2.2.2.1⟩
theorem fr_in (S : Sx K own cc nL rm) (h : go_H K a M H locs) : ∀ q, va_A (wd_W (kG K) a.1 a.2 M) H.size q → kF K q := by
  intro q hq
  rcases hq with ⟨k, e, hk⟩ | hq
  · exact h.2.1.2 k _ hk
  · exact S.2.2.2.2.2.2.2.1 q (Nat.le_trans h.2.2.1 hq)
theorem rm_in (S : Sx K own cc nL rm) (hR : rmc.frames + 1 ≤ rm.frames ∧ 8 + (maxL + 11) + rmc.locals ≤ rm.locals) : rmc.frames + 1 ≤ (kR K).frames ∧ 8 + (maxL + 11) + rmc.locals ≤ (kR K).locals := by rw [S.2.2.2.2.2.2.2.2.1]; exact hR
theorem ce_in (S : Sx K own cc nL rm) : kc K + 0 ≤ (kR K).cells ∧ ks K + 0 ≤ (kR K).slots := S.2.2.2.2.2.2.2.2.2
theorem rn_S {ret : Option FieldType} {Qc : Array Value → State → Outcome → State → Prop} {free : Addr → Prop} (S : Sx K own cc nL rm) (ok : OkS y bytes maxL ret n) (hl : Cond.methodLink own index y ∈ lw_g) (ct : Met (kL K) y (.code y bytes maxL ret :: lw_g) rmc (va_Pc As (Pc0 (kG K) a M H.size)) Qc 0 0 free) (h : go_H K a M H locs) (hz : lv_has ls nL lv) (hn : As.length = n) (hs : stk = As.reverse ++ st) (hR : rmc.frames + 1 ≤ rm.frames ∧ 8 + (maxL + 11) + rmc.locals ≤ rm.locals) (hrc : rmc.cells = 0 ∧ rmc.slots = 0) (hcat : (st.map fun v => v.category).sum ≤ 8) (d : decode cc pc = .ok (.invokestatic index, 3)) : va_Run (kP K) (kL K) (kE K) (kR K) (kS K) (kM K) (kA K) (kB K) (kT K) (kC K) H locs (kc K) (ks K) 0 0 (F0 (kM K) pc ls stk) st (Qc As.toArray) free :=
  va_runS (As := As) (rest := st) ⟨S.1, S.2.1, S.2.2.1, S.2.2.2.1, S.2.2.2.2.1⟩ ct ⟨callB_of n S.2.2.2.2.1 (lg_goodIn ok.1) rfl hrc.1 hrc.2 (S.2.2.2.2.1 _ ok.2.2.1) (S.2.2.2.2.1 _ hl) ok.2.2.2 (rm_in S hR), S.2.2.2.2.1 _ ok.2.1⟩ ⟨pc_blind, fun U hU hW => pc_in S h hU hW⟩ rfl hn hz.1 hs (lv_room hcat) d (ce_in S)
theorem rn_SN {host : String} {ret : Option FieldType} {Qc : Array Value → State → Outcome → State → Prop} {free : Addr → Prop} (S : Sx K own cc nL rm) (ok : OkS y bytes maxL ret n) (hl : (own, index, y, host) ∈ nn_l) (ct : Met (kL K) y (.code y bytes maxL ret :: lw_g) rmc (va_Pc As (Pc0 (kG K) a M H.size)) Qc 0 0 free) (h : go_H K a M H locs) (hz : lv_has ls nL lv) (hn : As.length = n) (hs : stk = As.reverse ++ st) (hR : rmc.frames + 1 ≤ rm.frames ∧ 8 + (maxL + 11) + rmc.locals ≤ rm.locals) (hrc : rmc.cells = 0 ∧ rmc.slots = 0) (hcat : (st.map fun v => v.category).sum ≤ 8) (d : decode cc pc = .ok (.invokestatic index, 3)) : va_Run (kP K) (kL K) (kE K) (kR K) (kS K) (kM K) (kA K) (kB K) (kT K) (kC K) H locs (kc K) (ks K) 0 0 (F0 (kM K) pc ls stk) st (Qc As.toArray) free :=
  va_runSN (As := As) (rest := st) ⟨S.1, S.2.1, S.2.2.1, S.2.2.2.1, S.2.2.2.2.1⟩ ct ⟨va_cnB n S.2.2.2.2.1 (lg_goodIn ok.1) rfl hrc.1 hrc.2 (S.2.2.2.2.2.2.1.1 _ hl) (S.2.2.2.2.1 _ ok.2.2.1) ok.2.2.2 (rm_in S hR), S.2.2.2.2.1 _ ok.2.1, trivial⟩ ⟨pc_blind, fun U hU hW => pc_in S h hU hW⟩ rfl hn hz.1 hs (lv_room hcat) d (ce_in S)
theorem rn_V {b ci N : Nat} {T : u_T} {fs : (Nat → Nat) → (Nat → Int32) → List Value} {ret : Option FieldType} {Qc : Array Value → State → Outcome → State → Prop} {free : Addr → Prop} (S : Sx K own cc nL rm) (o : OB a.1 b ci fs) (hcl : vwCl[ci]? = some (y.cls, T, N)) (ok : OkV y bytes maxL ret n) (hl : Cond.methodLink own index y ∈ lw_g) (ct : Met (kL K) y (.code y bytes maxL ret :: lw_g) rmc (va_Pc (.ref (a.2 b) :: As) (Pc0 (kG K) a M H.size)) Qc 0 0 free) (h : go_H K a M H locs) (hz : lv_has ls nL lv) (hn : As.length = n) (hs : stk = As.reverse ++ .ref (a.2 b) :: st) (hR : rmc.frames + 1 ≤ rm.frames ∧ 8 + (maxL + 11) + rmc.locals ≤ rm.locals) (hrc : rmc.cells = 0 ∧ rmc.slots = 0) (hcat : (st.map fun v => v.category).sum ≤ 8) (d : decode cc pc = .ok (.invokevirtual index, 3)) : va_Run (kP K) (kL K) (kE K) (kR K) (kS K) (kM K) (kA K) (kB K) (kT K) (kC K) H locs (kc K) (ks K) 0 0 (F0 (kM K) pc ls stk) st (Qc (Value.ref (a.2 b) :: As).toArray) free := by
  obtain ⟨q, -, hq⟩ := wd_at (G := kG K) (ad := a.2) (M := M) o.1
  rw [o.2] at hq
  exact va_runV (As := As) (rest := st) (C := y.cls) ⟨S.1, S.2.1, S.2.2.1, S.2.2.2.1, S.2.2.2.2.1⟩ ct ⟨callB_of n S.2.2.2.2.1 (lg_goodIn ok.1) rfl hrc.1 hrc.2 (S.2.2.2.2.1 _ ok.2.2.2.1) (S.2.2.2.2.1 _ hl) ok.2.2.2.2 (rm_in S hR), S.2.2.2.2.1 _ ok.2.1, S.2.2.2.2.1 _ ok.2.2.1⟩ ⟨pc_blind, va_recv S.2.2.2.2.2.1 h.1 (ci := ci) (q0 := q) hcl hq, fun U hU hW => pc_in S h hU hW⟩ rfl hn hz.1 hs (lv_room hcat) d (ce_in S)
end CA
