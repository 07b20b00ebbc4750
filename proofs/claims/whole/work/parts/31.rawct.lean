/-! contracts of constructors, over raw worlds -/
def Pr0 (G : GG) (ws : va_W) (sz : Nat) (U : State) : Prop := U.heap.size = sz ∧ va_P (Gd G) vwCl ws U.heap ∧ va_K (Gd G) vwCl (tyG G) U ∧ va_D (fun _ => True) ws ∧ NN U
def CtR {T : Type} (l : Launch) (G : GG) (y : MethodName) (cc : ByteArray) (mL : Nat) (rm : Room) (av : List Value) (ws : va_W) (P : T → Prop) (post : T → va_W) (mc ms : Nat) : Prop := ∀ sz : Nat, Met l y (.code y cc mL none :: lw_g) rm (va_Pc av (Pr0 G ws sz)) (va_Qv P (fun u t => va_P (Gd G) vwCl (post u) t.heap ∧ va_D (va_A ws sz) (post u)) (va_A ws sz)) mc ms (va_A ws sz)
def RtR {T : Type} (K : KK) (cc : ByteArray) (P : T → Prop) (post : T → va_W) (mc ms : Nat) : Prop := ∀ (u : T) (pc : Nat) (H : Heap) (locs : List Loc) (ls : Array Slot), P u → decode cc pc = .ok (.return_, 1) → (va_P (Gd (kG K)) vwCl (post u) H ∧ va_D (kF K) (post u) ∧ va_S (kF K) (kS K).heap H locs) → W (kP K) (kL K) (kE K) (kR K) (kS K) (kM K) (kA K) (kB K) (kT K) (kC K) H locs mc ms (kQ K) (F0 (kM K) pc ls [])
theorem pr_blind {av : List Value} {G : GG} {ws : va_W} {sz : Nat} : FrameBlind (va_Pc av (Pr0 G ws sz)) := by
  intro b U g mk q
  obtain ⟨q0, q1, qP, qK, qD, qN⟩ := q
  exact ⟨q0, q1, qP, va_K.moved (u := U) (U := U.calling g mk b) (Vm.Alike.refl U.vm) qK, qD, NN.same rfl qN⟩
theorem ct_R {T : Type} {l : Launch} {G : GG} {y : MethodName} {cc : ByteArray} {mL : Nat} {rm : Room} {av : List Value} {ws : va_W} {P : T → Prop} {post : T → va_W} {mc ms : Nat} {own : String} (hy : plainName y.cls = true) (hown : y.cls = own) (hlen : (lg_sl av).length ≤ mL) (body : ∀ K : KK, kL K = l → kG K = G → Sx K own cc mL rm → (kT K).name = y.name → RtR K cc P post mc ms → GoW K 0 0 mL ws 0 (lv_args 0 av) []) : CtR l G y cc mL rm av ws P post mc ms := by
  intro sz
  refine Met.ofW (cc := cc) (maxL := mL) (ret := none) hy rfl ?_
  intro p e s m args below meth c s₁ B hml hv
  obtain ⟨rfl, hsz, hP, hK, hD0, hN⟩ := hv
  have hts := atoms_spec (ws := .code y cc mL none :: lw_g) B.pre
  have hf : s.vm.findClass y.cls = some m.cls := findClass_of_methodNamed B.named
  have hin : meth.name = y.name := (name_of_methodNamed B.named B.method).1
  rw [hown] at hf
  subst hsz
  have hD := hD0.self (sz := s.heap.size)
  rw [lg_entry_eq]
  have hl := lv_entry av hlen
  have hlocks := B.notSynchronized
  exact body (p, l, e, rm, s, m, av.toArray, below, meth, c, MQ below (va_Qv P (fun u t => va_P (Gd G) vwCl (post u) t.heap ∧ va_D (va_A ws s.heap.size) (post u)) (va_A ws s.heap.size)) av.toArray s mc ms (va_A ws s.heap.size), va_A ws s.heap.size, G, 0, 0) rfl rfl ⟨B.exec, B.bytes, hml, hf, fun w hw => hts w (List.mem_cons_of_mem _ hw), hK, hN, fun q hq => Or.inr hq, rfl, Nat.zero_le _, Nat.zero_le _⟩ hin (fun u pc H locs ls hp d h => W.vret B.exec B.bytes B.returns (fun t ht hW => ⟨⟨u, rfl, hp, by rw [ht]; exact h.1, h.2.1⟩, h.2.2.F ht⟩) h.2.2.2.2 d hlocks) s.heap [] _ ⟨hP, hD, va_S.rf⟩ hl
section CR
variable {T : Type} {K : KK} {own : String} {cc : ByteArray} {nL c n0 : Nat} {rm : Room} {ws : va_W} {pc : Nat} {lv : List (Nat × Value)} {st stk : List Value} {y : MethodName} {bytes : ByteArray} {maxL n index : Nat} {rmc : Room} {As : List Value} {P : T → Prop} {post : T → va_W} {mc ms : Nat} {H : Heap} {locs : List Loc} {ls : Array Slot}
theorem w_ret (rt : RtR K cc P post mc ms) (u : T) (hu : P u) (hp : post u = ws) (hc : c ≤ mc) (hn : n0 ≤ ms) (d : decode cc pc = .ok (.return_, 1)) : GoW K c n0 nL ws pc lv [] := fun H locs ls h1 _ => by
  subst hp
  exact W.widen hc hn (rt u pc H locs ls hu d h1)
theorem pr_in (S : Sx K own cc nL rm) (h : va_P (Gd (kG K)) vwCl ws H ∧ va_D (kF K) ws ∧ va_S (kF K) (kS K).heap H locs) {U : State} (hU : U.heap = H) (hW : (kS K).WarmedH U.vm) : va_Pc As (Pr0 (kG K) ws H.size) As.toArray U := ⟨rfl, by rw [hU], by rw [hU]; exact h.1, va_K.moved hW.alike S.2.2.2.2.2.1, h.2.1.weaken (fun _ _ _ _ => trivial), NN.warm hW S.2.2.2.2.2.2.1⟩
theorem fw_in (S : Sx K own cc nL rm) (h : va_P (Gd (kG K)) vwCl ws H ∧ va_D (kF K) ws ∧ va_S (kF K) (kS K).heap H locs) : ∀ q, va_A ws H.size q → kF K q := by
  intro q hq
  rcases hq with ⟨k, e, hk⟩ | hq
  · exact h.2.1.2 k _ hk
  · exact S.2.2.2.2.2.2.2.1 q (Nat.le_trans h.2.2.1 hq)
/-- what a call of a constructor needs of it -/
def OkI (y : MethodName) (bytes : ByteArray) (maxL : Nat) (n : Nat) : Prop := Cond.code y bytes maxL none ∈ lw_g ∧ Cond.instanceMethod y ∈ lw_g ∧ Cond.initialized y.cls ∈ lw_g ∧ (y.cls ≠ "java/lang/invoke/MethodHandle" ∧ y.cls ≠ "java/lang/invoke/VarHandle" ∧ (parseMethodDescriptor y.desc).map (fun d => d.parameters.length) = some n)
theorem w_after {a1 : Array Value} (S : Sx K own cc nL rm) (run : va_Run (kP K) (kL K) (kE K) (kR K) (kS K) (kM K) (kA K) (kB K) (kT K) (kC K) H locs c n0 mc ms (F0 (kM K) pc ls stk) st (va_Qv P (fun u t => va_P (Gd (kG K)) vwCl (post u) t.heap ∧ va_D (va_A ws H.size) (post u)) (va_A ws H.size) a1) (va_A ws H.size)) (h1 : va_P (Gd (kG K)) vwCl ws H ∧ va_D (kF K) ws ∧ va_S (kF K) (kS K).heap H locs) (h2 : lv_has ls nL lv) (k : ∀ u : T, P u → GoW K (c + mc) (n0 + ms) nL (post u) (pc + 3) lv st) : W (kP K) (kL K) (kE K) (kR K) (kS K) (kM K) (kA K) (kB K) (kT K) (kC K) H locs c n0 (kQ K) (F0 (kM K) pc ls stk) := by
  refine va_callv run h1.2.2 (fun q _ h => fw_in S h1 q h) (fw_in S h1) (fun u t H1 locs1 e1 _ e3 e4 _ _ e7 => ?_)
  obtain ⟨p1, p2⟩ := e4
  rw [e1] at p1
  exact k u e3 H1 locs1 ls ⟨p1, p2.weaken (fun _ q _ h => fw_in S h1 q.1 h), e7⟩ h2
theorem w_cI {b : Nat} (S : Sx K own cc nL rm) (ok : OkI y bytes maxL n) (hi : y.name = "<init>") (hl : Cond.methodLink own index y ∈ lw_g) (ct : CtR (kL K) (kG K) y bytes maxL rmc (.ref b :: As) ws P post mc ms) (hn : As.length = n) (hs : stk = As.reverse ++ .ref b :: st) (hR : rmc.frames + 1 ≤ rm.frames ∧ 8 + (maxL + 11) + rmc.locals ≤ rm.locals) (hrc : rmc.cells = mc ∧ rmc.slots = ms) (hf : c + mc ≤ rm.cells ∧ n0 + ms ≤ rm.slots) (hcat : (st.map fun v => v.category).sum ≤ 8) (d : decode cc pc = .ok (.invokespecial index, 3)) (k : ∀ u : T, P u → GoW K (c + mc) (n0 + ms) nL (post u) (pc + 3) lv st) : GoW K c n0 nL ws pc lv stk := fun H locs ls h1 h2 =>
  w_after S (va_runI (As := As) (rest := st) ⟨S.1, S.2.1, S.2.2.1, S.2.2.2.1, S.2.2.2.2.1⟩ (ct H.size) ⟨callB_of n S.2.2.2.2.1 (lg_goodIn ok.1) rfl hrc.1 hrc.2 (S.2.2.2.2.1 _ ok.2.2.1) (S.2.2.2.2.1 _ hl) ok.2.2.2 (rm_in S hR), hi, S.2.2.2.2.1 _ ok.2.1⟩ ⟨pr_blind, fun U hU hW => pr_in S h1 hU hW⟩ rfl hn h2.1 hs (lv_room hcat) d ⟨rm_c S hf.1, rm_s S hf.2⟩) h1 h2 k
theorem w_cIN {host : String} {b : Nat} (S : Sx K own cc nL rm) (ok : OkI y bytes maxL n) (hi : y.name = "<init>") (hl : (own, index, y, host) ∈ nn_l) (ct : CtR (kL K) (kG K) y bytes maxL rmc (.ref b :: As) ws P post mc ms) (hn : As.length = n) (hs : stk = As.reverse ++ .ref b :: st) (hR : rmc.frames + 1 ≤ rm.frames ∧ 8 + (maxL + 11) + rmc.locals ≤ rm.locals) (hrc : rmc.cells = mc ∧ rmc.slots = ms) (hf : c + mc ≤ rm.cells ∧ n0 + ms ≤ rm.slots) (hcat : (st.map fun v => v.category).sum ≤ 8) (d : decode cc pc = .ok (.invokespecial index, 3)) (k : ∀ u : T, P u → GoW K (c + mc) (n0 + ms) nL (post u) (pc + 3) lv st) : GoW K c n0 nL ws pc lv stk := fun H locs ls h1 h2 =>
  w_after S (va_runIN (As := As) (rest := st) ⟨S.1, S.2.1, S.2.2.1, S.2.2.2.1, S.2.2.2.2.1⟩ (ct H.size) ⟨va_cnB n S.2.2.2.2.1 (lg_goodIn ok.1) rfl hrc.1 hrc.2 (S.2.2.2.2.2.2.1.1 _ hl) (S.2.2.2.2.1 _ ok.2.2.1) ok.2.2.2 (rm_in S hR), hi, S.2.2.2.2.1 _ ok.2.1⟩ ⟨pr_blind, fun U hU hW => pr_in S h1 hU hW⟩ rfl hn h2.1 hs (lv_room hcat) d ⟨rm_c S hf.1, rm_s S hf.2⟩) h1 h2 k
theorem w_cS (S : Sx K own cc nL rm) (ok : OkS y bytes maxL none n) (hl : Cond.methodLink own index y ∈ lw_g) (ct : CtR (kL K) (kG K) y bytes maxL rmc As ws P post mc ms) (hn : As.length = n) (hs : stk = As.reverse ++ st) (hR : rmc.frames + 1 ≤ rm.frames ∧ 8 + (maxL + 11) + rmc.locals ≤ rm.locals) (hrc : rmc.cells = mc ∧ rmc.slots = ms) (hf : c + mc ≤ rm.cells ∧ n0 + ms ≤ rm.slots) (hcat : (st.map fun v => v.category).sum ≤ 8) (d : decode cc pc = .ok (.invokestatic index, 3)) (k : ∀ u : T, P u → GoW K (c + mc) (n0 + ms) nL (post u) (pc + 3) lv st) : GoW K c n0 nL ws pc lv stk := fun H locs ls h1 h2 =>
  w_after S (va_runS (As := As) (rest := st) ⟨S.1, S.2.1, S.2.2.1, S.2.2.2.1, S.2.2.2.2.1⟩ (ct H.size) ⟨callB_of n S.2.2.2.2.1 (lg_goodIn ok.1) rfl hrc.1 hrc.2 (S.2.2.2.2.1 _ ok.2.2.1) (S.2.2.2.2.1 _ hl) ok.2.2.2 (rm_in S hR), S.2.2.2.2.1 _ ok.2.1⟩ ⟨pr_blind, fun U hU hW => pr_in S h1 hU hW⟩ rfl hn h2.1 hs (lv_room hcat) d ⟨rm_c S hf.1, rm_s S hf.2⟩) h1 h2 k
end CR
