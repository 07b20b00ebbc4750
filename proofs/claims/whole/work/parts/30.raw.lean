/-! raw worlds: r ++ l, l a list of cells; cells c and slots n so far (constructors, what makes cells) -/
theorem oi_1 : Cond.instanceMethod objectInit ∈ lw_g := lg_mem 18 (by decide +kernel) rfl
set_option maxRecDepth 100000 in
theorem oi_2 : Cond.code objectInit ⟨#[0xb1]⟩ 1 none ∈ lw_g := lg_mem 19 rfl rfl
theorem ac_I : Cond.arrayClass .int ∈ lw_g := lg_mem 33 (by decide +kernel) rfl
theorem ac_Z : Cond.arrayClass .boolean ∈ lw_g := lg_mem 72 (by decide +kernel) rfl
def GoW (K : KK) (c n nL : Nat) (ws : va_W) (pc : Nat) (lv : List (Nat × Value)) (st : List Value) : Prop := ∀ (H : Heap) (locs : List Loc) (ls : Array Slot), (va_P (Gd (kG K)) vwCl ws H ∧ va_D (kF K) ws ∧ va_S (kF K) (kS K).heap H locs) → lv_has ls nL lv → W (kP K) (kL K) (kE K) (kR K) (kS K) (kM K) (kA K) (kB K) (kT K) (kC K) H locs c n (kQ K) (F0 (kM K) pc ls st)
section SW
variable {K : KK} {own : String} {cc : ByteArray} {nL c n0 : Nat} {rm : Room} {ws : va_W} {pc : Nat} {lv : List (Nat × Value)} {st : List Value}
theorem w_iconst {n : Int} {v : Int32} (S : Sx K own cc nL rm) (d : decode cc pc = .ok (.iconst n, 1)) (hv : Int32.ofInt n = v) (k : GoW K c n0 nL ws (pc + 1) lv (.int v :: st)) : GoW K c n0 nL ws pc lv st := fun H locs ls h1 h2 => lv_iconst S.1 S.2.1 d hv (k H locs ls h1 h2)
theorem w_bipush {n : Int} {v : Int32} (S : Sx K own cc nL rm) (d : decode cc pc = .ok (.bipush n, 2)) (hv : (Int8.ofInt n).toInt32 = v) (k : GoW K c n0 nL ws (pc + 2) lv (.int v :: st)) : GoW K c n0 nL ws pc lv st := fun H locs ls h1 h2 => lv_bipush S.1 S.2.1 d hv (k H locs ls h1 h2)
theorem w_sipush {n : Int} {v : Int32} (S : Sx K own cc nL rm) (d : decode cc pc = .ok (.sipush n, 3)) (hv : (Int16.ofInt n).toInt32 = v) (k : GoW K c n0 nL ws (pc + 3) lv (.int v :: st)) : GoW K c n0 nL ws pc lv st := fun H locs ls h1 h2 => lv_sipush S.1 S.2.1 d hv (k H locs ls h1 h2)
theorem w_iload_n {k0 : Fin 4} {x : Int32} (q : Nat) (S : Sx K own cc nL rm) (d : decode cc pc = .ok (.iload_n k0, 1)) (hq : lv[q]? = some ((k0 : Nat), .int x)) (k : GoW K c n0 nL ws (pc + 1) lv (.int x :: st)) : GoW K c n0 nL ws pc lv st := fun H locs ls h1 h2 => lv_iload_n S.1 S.2.1 d rfl (lv_at h2 q hq) (k H locs ls h1 h2)
theorem w_iload {i : Nat} {x : Int32} (q : Nat) (S : Sx K own cc nL rm) (d : decode cc pc = .ok (.iload i, 2)) (hq : lv[q]? = some (i, .int x)) (k : GoW K c n0 nL ws (pc + 2) lv (.int x :: st)) : GoW K c n0 nL ws pc lv st := fun H locs ls h1 h2 => lv_iload S.1 S.2.1 d (lv_at h2 q hq) (k H locs ls h1 h2)
theorem w_aload_n {k0 : Fin 4} {x : Nat} (q : Nat) (S : Sx K own cc nL rm) (d : decode cc pc = .ok (.aload_n k0, 1)) (hq : lv[q]? = some ((k0 : Nat), .ref x)) (k : GoW K c n0 nL ws (pc + 1) lv (.ref x :: st)) : GoW K c n0 nL ws pc lv st := fun H locs ls h1 h2 => lv_aload_n S.1 S.2.1 d rfl (lv_at h2 q hq) (k H locs ls h1 h2)
theorem w_aload {i : Nat} {x : Nat} (q : Nat) (S : Sx K own cc nL rm) (d : decode cc pc = .ok (.aload i, 2)) (hq : lv[q]? = some (i, .ref x)) (k : GoW K c n0 nL ws (pc + 2) lv (.ref x :: st)) : GoW K c n0 nL ws pc lv st := fun H locs ls h1 h2 => lv_aload S.1 S.2.1 d (lv_at h2 q hq) (k H locs ls h1 h2)
theorem w_istore_n {k0 : Fin 4} {x : Int32} {lv' : List (Nat × Value)} (S : Sx K own cc nL rm) (d : decode cc pc = .ok (.istore_n k0, 1)) (hn : (k0 : Nat) < nL) (hl : ((k0 : Nat), Value.int x) :: lv.filter (fun q => !(q.1 == (k0 : Nat)) && !(q.1 + 1 == (k0 : Nat) && q.2.category == 2)) = lv') (k : GoW K c n0 nL ws (pc + 1) lv' st) : GoW K c n0 nL ws pc lv (.int x :: st) := fun H locs ls h1 h2 => lv_istore_n S.1 S.2.1 d rfl h2 hn hl (fun ls' h => k H locs ls' h1 h)
theorem w_istore {i : Nat} {x : Int32} {lv' : List (Nat × Value)} (S : Sx K own cc nL rm) (d : decode cc pc = .ok (.istore i, 2)) (hn : i < nL) (hl : (i, Value.int x) :: lv.filter (fun q => !(q.1 == i) && !(q.1 + 1 == i && q.2.category == 2)) = lv') (k : GoW K c n0 nL ws (pc + 2) lv' st) : GoW K c n0 nL ws pc lv (.int x :: st) := fun H locs ls h1 h2 => lv_istore S.1 S.2.1 d h2 hn hl (fun ls' h => k H locs ls' h1 h)
theorem w_astore_n {k0 : Fin 4} {x : Nat} {lv' : List (Nat × Value)} (S : Sx K own cc nL rm) (d : decode cc pc = .ok (.astore_n k0, 1)) (hn : (k0 : Nat) < nL) (hl : ((k0 : Nat), Value.ref x) :: lv.filter (fun q => !(q.1 == (k0 : Nat)) && !(q.1 + 1 == (k0 : Nat) && q.2.category == 2)) = lv') (k : GoW K c n0 nL ws (pc + 1) lv' st) : GoW K c n0 nL ws pc lv (.ref x :: st) := fun H locs ls h1 h2 => lv_astore_n S.1 S.2.1 d rfl h2 hn hl (fun ls' h => k H locs ls' h1 h)
theorem w_iinc {i : Nat} {n : Int} {x v : Int32} {lv' : List (Nat × Value)} (q : Nat) (S : Sx K own cc nL rm) (d : decode cc pc = .ok (.iinc i n, 3)) (hq : lv[q]? = some (i, .int x)) (hv : x + Int32.ofInt n = v) (hn : i < nL) (hl : (i, Value.int v) :: lv.filter (fun q => !(q.1 == i) && !(q.1 + 1 == i && q.2.category == 2)) = lv') (k : GoW K c n0 nL ws (pc + 3) lv' st) : GoW K c n0 nL ws pc lv st := fun H locs ls h1 h2 => lv_iinc S.1 S.2.1 d h2 hq hv hn hl (fun ls' h => k H locs ls' h1 h)
theorem w_iadd {x y : Int32} (S : Sx K own cc nL rm) (d : decode cc pc = .ok (.iadd, 1)) (k : GoW K c n0 nL ws (pc + 1) lv (.int (x + y) :: st)) : GoW K c n0 nL ws pc lv (.int y :: .int x :: st) := fun H locs ls h1 h2 => lv_iadd S.1 S.2.1 d (k H locs ls h1 h2)
theorem w_isub {x y : Int32} (S : Sx K own cc nL rm) (d : decode cc pc = .ok (.isub, 1)) (k : GoW K c n0 nL ws (pc + 1) lv (.int (x - y) :: st)) : GoW K c n0 nL ws pc lv (.int y :: .int x :: st) := fun H locs ls h1 h2 => lv_isub S.1 S.2.1 d (k H locs ls h1 h2)
theorem w_imul {x y : Int32} (S : Sx K own cc nL rm) (d : decode cc pc = .ok (.imul, 1)) (k : GoW K c n0 nL ws (pc + 1) lv (.int (x * y) :: st)) : GoW K c n0 nL ws pc lv (.int y :: .int x :: st) := fun H locs ls h1 h2 => lv_imul S.1 S.2.1 d (k H locs ls h1 h2)
theorem w_dup {v : Value} (S : Sx K own cc nL rm) (d : decode cc pc = .ok (.dup, 1)) (hv : v.category = 1) (k : GoW K c n0 nL ws (pc + 1) lv (v :: v :: st)) : GoW K c n0 nL ws pc lv (v :: st) := fun H locs ls h1 h2 => lv_dup S.1 S.2.1 d hv (k H locs ls h1 h2)
theorem w_goto {off : Int} {tgt : Nat} (S : Sx K own cc nL rm) (d : decode cc pc = .ok (.goto off, 3)) (ht : (pc : Int) + off = (tgt : Int)) (k : GoW K c n0 nL ws tgt lv st) : GoW K c n0 nL ws pc lv st := fun H locs ls h1 h2 => lv_goto S.1 S.2.1 d ht (k H locs ls h1 h2)
theorem w_icmp_ge {x y : Int32} {off : Int} {tgt : Nat} (S : Sx K own cc nL rm) (d : decode cc pc = .ok (.if_icmp .ge off, 3)) (ht : (pc : Int) + off = (tgt : Int)) (k1 : y ≤ x → GoW K c n0 nL ws tgt lv st) (k2 : ¬ y ≤ x → GoW K c n0 nL ws (pc + 3) lv st) : GoW K c n0 nL ws pc lv (.int y :: .int x :: st) := fun H locs ls h1 h2 => lv_icmp_ge S.1 S.2.1 d ht (fun q => k1 q H locs ls h1 h2) (fun q => k2 q H locs ls h1 h2)
theorem w_icmp_gt {x y : Int32} {off : Int} {tgt : Nat} (S : Sx K own cc nL rm) (d : decode cc pc = .ok (.if_icmp .gt off, 3)) (ht : (pc : Int) + off = (tgt : Int)) (k1 : y < x → GoW K c n0 nL ws tgt lv st) (k2 : ¬ y < x → GoW K c n0 nL ws (pc + 3) lv st) : GoW K c n0 nL ws pc lv (.int y :: .int x :: st) := fun H locs ls h1 h2 => lv_icmp_gt S.1 S.2.1 d ht (fun q => k1 q H locs ls h1 h2) (fun q => k2 q H locs ls h1 h2)
theorem GoW.sub {lv' : List (Nat × Value)} (ks : List Nat) (hl : lv_pick lv ks = lv') (k : GoW K c n0 nL ws pc lv' st) : GoW K c n0 nL ws pc lv st := fun H locs ls h1 h2 => k H locs ls h1 (lv_sub h2 ks hl)
theorem GoW.wd {ws' : va_W} (h : ws = ws') (k : GoW K c n0 nL ws' pc lv st) : GoW K c n0 nL ws pc lv st := h ▸ k
theorem GoW.widen {c' n' : Nat} (h1 : c ≤ c') (h2 : n0 ≤ n') (k : GoW K c' n' nL ws pc lv st) : GoW K c n0 nL ws pc lv st := fun H locs ls w1 w2 => W.widen h1 h2 (k H locs ls w1 w2)
theorem ap_get {r l : va_W} {j : Nat} {x : Nat × va_E} (h : l[j]? = some x) : (r ++ l)[r.length + j]? = some x := by
  rw [List.getElem?_append_right (Nat.le_add_right _ _), Nat.add_sub_cancel_left]
  exact h
theorem ap_set {r l : va_W} {j : Nat} {x : Nat × va_E} : (r ++ l).set (r.length + j) x = r ++ l.set j x := by
  rw [List.set_append_right _ _ (Nat.le_add_right _ _), Nat.add_sub_cancel_left]
theorem rm_c (S : Sx K own cc nL rm) {m : Nat} (h : m ≤ rm.cells) : m ≤ (kR K).cells := by rw [S.2.2.2.2.2.2.2.2.1]; exact h
theorem rm_s (S : Sx K own cc nL rm) {m : Nat} (h : m ≤ rm.slots) : m ≤ (kR K).slots := by rw [S.2.2.2.2.2.2.2.2.1]; exact h
variable {r l l' : va_W} {h : Nat}
theorem w_objInit {idx : Nat} (S : Sx K own cc nL rm) (hl : Cond.methodLink own idx objectInit ∈ lw_g) (h1 : 1 ≤ rm.frames) (h2 : 2 * (F0 (kM K) pc #[] st).monitorRoom + (st.map fun v => v.category).sum + 12 ≤ rm.locals) (d : decode cc pc = .ok (.invokespecial idx, 3)) (k : GoW K c n0 nL ws (pc + 3) lv st) : GoW K c n0 nL ws pc lv (.ref h :: st) := fun H locs ls w1 w2 => W.objInit S.1 S.2.1 S.2.2.2.1 (S.2.2.2.2.1 _ hl) (S.2.2.2.2.1 _ oi_1) (S.2.2.2.2.1 _ oi_2) rfl (w2.1.trans S.2.2.1.symm) rfl d (fr_1 S h1) (lo_1 S h2) (k H locs ls w1 w2)
theorem w_get {ci index N k : Nat} {fs : List Value} {C : String} {T : u_T} {v : Value} (j : Nat) (S : Sx K own cc nL rm) (he : l[j]? = some (h, .inr (ci, fs))) (hc : vwCl[ci]? = some (C, T, N)) (hin : ∀ w ∈ u_ws C T N, w ∈ lw_g) (hk : k < N) (hlink : Cond.fieldLink own index (T k).1 (T k).2.1 (T k).2.2.1 ∈ lw_g) (hv : fs[k]? = some v) (d : decode cc pc = .ok (.getfield index, 3)) (kk : GoW K c n0 nL (r ++ l) (pc + 3) lv (v :: st)) : GoW K c n0 nL (r ++ l) pc lv (.ref h :: st) := fun H locs ls h1 h2 => va_get S.1 S.2.1 S.2.2.2.2.1 hin S.2.2.2.1 S.2.2.2.2.2.1 h1.1 (r.length + j) (ap_get he) hc k hk (S.2.2.2.2.1 _ hlink) (fun _ h9 => h9) hv d (kk H locs ls h1 h2)
theorem w_put {ci index N k : Nat} {fs : List Value} {C : String} {T : u_T} {x : Value} {ty : FieldType} {ty0 : Nat → FieldType} (j : Nat) (S : Sx K own cc nL rm) (he : l[j]? = some (h, .inr (ci, fs))) (hc : vwCl[ci]? = some (C, T, N)) (hin : ∀ w ∈ u_ws C T N, w ∈ lw_g) (hty : ∀ k, k < N → parseFieldDescriptor (T k).2.2.1 = some (ty0 k)) (hnm : ∀ a, a < N → ∀ b, b < N → a ≠ b → (T a).2.1 ≠ (T b).2.1) (hk : k < N) (hlink : Cond.fieldLink own index (T k).1 (T k).2.1 (T k).2.2.1 ∈ lw_g) (hfin : (T k).2.2.2 = false) (hd : parseFieldDescriptor (T k).2.2.1 = some ty) (hx : narrow ty x = x) (hfit : fits ty x = true) (hl : k < fs.length) (hs : l.set j (h, .inr (ci, fs.set k x)) = l') (d : decode cc pc = .ok (.putfield index, 3)) (kk : GoW K c n0 nL (r ++ l') (pc + 3) lv st) : GoW K c n0 nL (r ++ l) pc lv (x :: .ref h :: st) := fun H locs ls h1 h2 => by
  refine va_put S.1 S.2.1 S.2.2.2.2.1 hin ty0 hty hnm S.2.2.2.1 S.2.2.2.2.2.1 h1.1 h1.2.1 h1.2.2 (r.length + j) (ap_get he) hc k hk (S.2.2.2.2.1 _ hlink) (fun _ h9 => h9) hfin hd hx hfit hl d (fun H1 locs1 p1 p2 p3 => ?_)
  rw [ap_set, hs] at p1 p2
  exact kk H1 locs1 ls ⟨p1, p2, p3⟩ h2
theorem w_putF {ci index N k : Nat} {fs : List Value} {C : String} {T : u_T} {x : Value} {ty : FieldType} {ty0 : Nat → FieldType} (j : Nat) (S : Sx K own cc nL rm) (hi : (kT K).name = "<init>") (he : l[j]? = some (h, .inr (ci, fs))) (hc : vwCl[ci]? = some (C, T, N)) (hin : ∀ w ∈ u_ws C T N, w ∈ lw_g) (hty : ∀ k, k < N → parseFieldDescriptor (T k).2.2.1 = some (ty0 k)) (hnm : ∀ a, a < N → ∀ b, b < N → a ≠ b → (T a).2.1 ≠ (T b).2.1) (hk : k < N) (hlink : Cond.fieldLink own index (T k).1 (T k).2.1 (T k).2.2.1 ∈ lw_g) (hfin : (T k).2.2.2 = true) (hdecl : (T k).1 = own) (hd : parseFieldDescriptor (T k).2.2.1 = some ty) (hx : narrow ty x = x) (hfit : fits ty x = true) (hl : k < fs.length) (hs : l.set j (h, .inr (ci, fs.set k x)) = l') (d : decode cc pc = .ok (.putfield index, 3)) (kk : GoW K c n0 nL (r ++ l') (pc + 3) lv st) : GoW K c n0 nL (r ++ l) pc lv (x :: .ref h :: st) := fun H locs ls h1 h2 => by
  refine va_putF S.1 S.2.1 S.2.2.2.2.1 hin ty0 hty hnm S.2.2.2.1 S.2.2.2.2.2.1 h1.1 h1.2.1 h1.2.2 (r.length + j) (ap_get he) hc k hk (S.2.2.2.2.1 _ hlink) (fun _ h9 => h9) hfin hi hdecl hd hx hfit hl d (fun H1 locs1 p1 p2 p3 => ?_)
  rw [ap_set, hs] at p1 p2
  exact kk H1 locs1 ls ⟨p1, p2, p3⟩ h2
theorem w_new {ci index N : Nat} {fs : List Value} {C : String} {T : u_T} {ty0 : Nat → FieldType} (S : Sx K own cc nL rm) (hc : vwCl[ci]? = some (C, T, N)) (hin : ∀ w ∈ u_ws C T N, w ∈ lw_g) (hty : ∀ k, k < N → parseFieldDescriptor (T k).2.2.1 = some (ty0 k)) (hcl : Cond.classLink own index C ∈ lw_g) (hinst : Cond.instantiable C N ∈ lw_g) (hini : Cond.initialized C ∈ lw_g) (hfs : ∀ j, j < N → defaultValue (ty0 j) = vp_V fs j) (hcells : c + 1 ≤ rm.cells) (hslots : n0 + N ≤ rm.slots) (d : decode cc pc = .ok (.new index, 3)) (kk : ∀ q : Nat, GoW K (c + 1) (n0 + N) nL (r ++ (l ++ [(q, .inr (ci, fs))])) (pc + 3) lv (.ref q :: st)) : GoW K c n0 nL (r ++ l) pc lv st := fun H locs ls h1 h2 => by
  refine va_new S.1 S.2.1 S.2.2.2.2.1 hin ty0 hty S.2.2.2.1 (S.2.2.2.2.1 _ hcl) (S.2.2.2.2.1 _ hinst) (S.2.2.2.2.1 _ hini) S.2.2.2.2.2.1 h1.1 h1.2.1 h1.2.2 S.2.2.2.2.2.2.2.1 hc hfs (rm_c S hcells) (rm_s S hslots) d (fun q H1 p1 p2 p3 => ?_)
  rw [List.append_assoc] at p1 p2
  exact kk q H1 locs ls ⟨p1, p2, p3⟩ h2
theorem cy_I {G : GG} {U : State} {cA : ClassId} (h : va_K (Gd G) vwCl (tyG G ++ [(cA, .int)]) U) : cA = G.2.2.1 := by
  have h1 := (h.2 5 (cA, .int) rfl).2
  have h2 := (h.2 0 (G.2.2.1, .int) rfl).2
  exact Option.some.inj (h1.symm.trans h2)
theorem cy_Z {G : GG} {U : State} {cA : ClassId} (h : va_K (Gd G) vwCl (tyG G ++ [(cA, .boolean)]) U) : cA = G.2.2.2.1 := by
  have h1 := (h.2 5 (cA, .boolean) rfl).2
  have h2 := (h.2 1 (G.2.2.2.1, .boolean) rfl).2
  exact Option.some.inj (h1.symm.trans h2)
theorem cy_Q {G : GG} {U : State} {cA cB : ClassId} {C : String} (t : Nat) (ht : (tyG G)[t]? = some (cB, .object C)) (h : va_K (Gd G) vwCl (tyG G ++ [(cA, .object C)]) U) : cA = cB := by
  obtain ⟨_, _, -, -, -, h1⟩ := (h.2 5 (cA, .object C) rfl).2
  obtain ⟨_, _, -, -, -, h2⟩ := (h.2 t (cB, .object C) (by rw [List.getElem?_append_left (List.getElem?_eq_some_iff.mp ht).1]; exact ht)).2
  exact Option.some.inj (h1.symm.trans h2)
theorem w_newI {x : Int32} {N : Nat} (S : Sx K own cc nL rm) (harr : Cond.arrayClass .int ∈ lw_g) (hn : ¬ x < 0) (hN : x.toNatClampNeg = N) (hb : N * componentBytes .int ≤ 536870912) (hcells : c + 1 ≤ rm.cells) (hslots : n0 + N ≤ rm.slots) (d : decode cc pc = .ok (.newarray .int, 2)) (kk : ∀ q : Nat, GoW K (c + 1) (n0 + N) nL (r ++ (l ++ [(q, .inl ((kG K).2.2.1, N, .inl (fun _ => 0)))])) (pc + 2) lv (.ref q :: st)) : GoW K c n0 nL (r ++ l) pc lv (.int x :: st) := fun H locs ls h1 h2 => by
  refine va_newa S.1 S.2.1 (atype := .int) (S.2.2.2.2.1 _ harr) (ty := .int) rfl S.2.2.2.2.2.1 h1.1 h1.2.1 h1.2.2 S.2.2.2.2.2.2.2.1 (a0 := (N, .inl (fun _ => 0))) (fun cA => rfl) hn hN hb (rm_c S hcells) (rm_s S hslots) d (fun q cA H1 p0 p1 p2 p3 => ?_)
  have e := cy_I p0
  subst e
  rw [List.append_assoc] at p1 p2
  exact kk q H1 locs ls ⟨p1, p2, p3⟩ h2
theorem w_newZ {x : Int32} {N : Nat} (S : Sx K own cc nL rm) (harr : Cond.arrayClass .boolean ∈ lw_g) (hn : ¬ x < 0) (hN : x.toNatClampNeg = N) (hb : N * componentBytes .boolean ≤ 536870912) (hcells : c + 1 ≤ rm.cells) (hslots : n0 + N ≤ rm.slots) (d : decode cc pc = .ok (.newarray .boolean, 2)) (kk : ∀ q : Nat, GoW K (c + 1) (n0 + N) nL (r ++ (l ++ [(q, .inl ((kG K).2.2.2.1, N, .inl (fun _ => 0)))])) (pc + 2) lv (.ref q :: st)) : GoW K c n0 nL (r ++ l) pc lv (.int x :: st) := fun H locs ls h1 h2 => by
  refine va_newa S.1 S.2.1 (atype := .boolean) (S.2.2.2.2.1 _ harr) (ty := .boolean) rfl S.2.2.2.2.2.1 h1.1 h1.2.1 h1.2.2 S.2.2.2.2.2.2.2.1 (a0 := (N, .inl (fun _ => 0))) (fun cA => rfl) hn hN hb (rm_c S hcells) (rm_s S hslots) d (fun q cA H1 p0 p1 p2 p3 => ?_)
  have e := cy_Z p0
  subst e
  rw [List.append_assoc] at p1 p2
  exact kk q H1 locs ls ⟨p1, p2, p3⟩ h2
theorem w_newQ {index : Nat} {C : String} {cB : ClassId} {x : Int32} {N : Nat} (t : Nat) (S : Sx K own cc nL rm) (hcl : Cond.classLink own index C ∈ lw_g) (ho : va_AO C (kS K)) (ht : (tyG (kG K))[t]? = some (cB, .object C)) (hn : ¬ x < 0) (hN : x.toNatClampNeg = N) (hb : N * 4 ≤ 536870912) (hcells : c + 1 ≤ rm.cells) (hslots : n0 + N ≤ rm.slots) (d : decode cc pc = .ok (.anewarray index, 3)) (kk : ∀ q : Nat, GoW K (c + 1) (n0 + N) nL (r ++ (l ++ [(q, .inl (cB, N, .inr (.inr (.inr (.inr (fun _ => none))))))])) (pc + 3) lv (.ref q :: st)) : GoW K c n0 nL (r ++ l) pc lv (.int x :: st) := fun H locs ls h1 h2 => by
  refine va_newq S.1 S.2.1 S.2.2.2.1 (S.2.2.2.2.1 _ hcl) ho S.2.2.2.2.2.1 h1.1 h1.2.1 h1.2.2 S.2.2.2.2.2.2.2.1 hn hN hb (rm_c S hcells) (rm_s S hslots) d (fun q cA H1 p0 p1 p2 p3 => ?_)
  have e := cy_Q t ht p0
  subst e
  rw [List.append_assoc] at p1 p2
  exact kk q H1 locs ls ⟨p1, p2, p3⟩ h2
theorem w_iast {len : Nat} {f : Nat → Int32} {i x : Int32} (j : Nat) (S : Sx K own cc nL rm) (he : l[j]? = some (h, .inl ((kG K).2.2.1, len, .inl f))) (hi : vp_in i len) (hs : l.set j (h, .inl ((kG K).2.2.1, len, .inl (upd f i.toNatClampNeg x))) = l') (d : decode cc pc = .ok (.iastore, 1)) (kk : GoW K c n0 nL (r ++ l') (pc + 1) lv st) : GoW K c n0 nL (r ++ l) pc lv (.int x :: .int i :: .ref h :: st) := fun H locs ls h1 h2 => by
  refine va_iast S.1 S.2.1 S.2.2.2.2.2.1 h1.1 h1.2.1 h1.2.2 (r.length + j) 0 (ap_get he) rfl hi d (fun H1 locs1 p1 p2 p3 => ?_)
  rw [ap_set, hs] at p1 p2
  exact kk H1 locs1 ls ⟨p1, p2, p3⟩ h2
theorem w_alen {len : Nat} {f : Nat → Int32} {v : Int32} (j : Nat) (S : Sx K own cc nL rm) (he : l[j]? = some (h, .inl ((kG K).2.2.1, len, .inl f))) (hv : Int32.ofNat len = v) (d : decode cc pc = .ok (.arraylength, 1)) (k : GoW K c n0 nL (r ++ l) (pc + 1) lv (.int v :: st)) : GoW K c n0 nL (r ++ l) pc lv (.ref h :: st) := fun H locs ls h1 h2 => va_alen S.1 S.2.1 S.2.2.2.2.2.1 h1.1 (r.length + j) 0 (ap_get he) (ty := .int) rfl hv d (k H locs ls h1 h2)
end SW
