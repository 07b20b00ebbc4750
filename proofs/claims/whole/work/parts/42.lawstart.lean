/-! the law's start: the machine's numbers, the two objects -/
def R_law : String := "BridleBookLaw"
def lw_P (b : Addr) (xs : List Int32) (args : Array Value) (s : State) : Prop := args = #[.ref b] ∧ s.IntsAt b xs ∧ xs.length ≤ 2560 ∧ (Jvm.Cond.and given_1 narrow_1).before args s = true
def lw_Q (_ : Array Value) (s : State) (o : Outcome) (t : State) : Prop := o = .returned (some (.int 1)) ∧ Framed s o t [] 600000 7302250
def lw_Z (below : List Frame) (a : Array Value) (s : State) : State → Prop := fun t => ∃ o, t.status = .running ∧ Ended t below o ∧ lw_Q a s o t
/-- the law's own end, with 1 on the stack, nothing written that was there before, its room as the claim has it -/
theorem lw_ret {p : Program} {l : Launch} {e : Env} {s : State} {m : MethodId} {below : List Frame} {meth : Method} {c : Code} {b : Nat} (hx : p.tables.exec = Jvm.exec) (hb : c.code = code) (hr : meth.sig.returnType = ret) (hlocks : meth.locks = false) {pc : Nat} {H : Heap} {ls : Array Slot} (hdg : decode code pc = .ok (.ireturn, 1)) : W p l e room_1 s m #[Value.ref b] below meth c H [] 600000 7302250 (lw_Z below #[Value.ref b] s) (F0 m pc ls [.int 1]) := by
  intro T hT X
  obtain ⟨fs, hret, hrun, hended, hW, hframe⟩ := X.leave (v := some (.int 1)) (hlocks := hlocks) (fun h => by rw [hr] at h; cases h)
  have hmeth' : T.vm.method? m = some meth := X.method'
  refine ⟨T.setFrames fs, ?_, .returned (some (.int 1)), hrun, hended, rfl, ⟨_, rfl⟩, hW, hframe⟩
  jvm_step X.here [X.here.top, hx, hb, hdg, hmeth', hr, ret, narrow_b1]
  (try refine ⟨rfl, ?_⟩); (try refine ⟨rfl, ?_⟩)
  first | (intro acts; rw [hret _ acts rfl rfl rfl]) | rw [hret _ _ rfl rfl rfl]
  exact Steps.refl _
/-- what holds at the law's entry: the machine, the code, the tables' words (any of lw_tbl by 'hts w (by decide +kernel)'), the script of L ints xs at the cell b, what the Statement gives of the start (any of its parts by flat_of_before) -/
def lw_At (p : Program) (s : State) (m : MethodId) (meth : Method) (c : Code) (b L : Nat) (xs : Nat → Int32) : Prop :=
  p.tables.exec = Jvm.exec ∧ c.code = code ∧ meth.sig.returnType = ret ∧ c.maxLocals = 4 ∧ s.vm.findClass R_law = some m.cls ∧ (∀ w ∈ lw_tbl, w.before #[Value.ref b] s = true) ∧ va_X b L xs s s.heap ∧ b < s.heap.size ∧ meth.locks = false ∧ (Jvm.Cond.and given_1 narrow_1).before #[Value.ref b] s = true
def ad0 (um ub : Nat → Nat) : Nat → Nat := fun n => if n < 50 then um n else ub n
def M00 : Mem := fun n => if n < 50 then mM n else mB n
theorem k_I {args : Array Value} {s : State} {ty : FieldType} (h : (Cond.arrayClass ty).before args s = true) : ∃ cA : ClassId, ArrOfT s cA ty ∧ s.vm.findClass ("[" ++ ty.toString) = some cA := by
  obtain ⟨c, k, comp, h1, h2, h3⟩ := Cond.arrayClass_spec h
  exact ⟨c, fun n z => ⟨fun k h => (by cases h), k, h2, comp, h3⟩, h1⟩
theorem k_Q {s : State} {C : String} (h : va_AO C s) : ∃ cA : ClassId, ArrOfT s cA (.object C) ∧ va_RA s cA (.object C) := by
  obtain ⟨comp, c, k, h1, -, h3, h4, h5⟩ := Cond.arrayOver_spec h
  exact ⟨c, fun n z => ⟨fun k h => (by cases h), k, h3, comp, h4⟩, k, comp, h3, h4, h1, h5⟩
theorem nn_all : ∀ q ∈ nn_l, Cond.methodLinkNest q.1 q.2.1 q.2.2.1 q.2.2.2 ∈ tables_1 := by decide +kernel

theorem nn_of {args : Array Value} {s : State} (hts : ∀ w ∈ lw_tbl, w.before args s = true) : NN s := by
  refine ⟨fun q hq => va_Nw.of rfl (hts _ (List.mem_append_right _ (nn_all q hq))), ?_, ?_, ?_⟩
  · exact va_AO.of (hts (.arrayOver (.object "BridleBook$Kite")) (List.mem_append_right _ (List.mem_of_getElem? (i := 35) (by decide +kernel))))
  · exact va_AO.of (hts (.arrayOver (.object "BridleBook$Line")) (List.mem_append_right _ (List.mem_of_getElem? (i := 37) (by decide +kernel))))
  · exact va_AO.of (hts (.arrayOver (.object "BridleBook$Flyer")) (List.mem_append_right _ (List.mem_of_getElem? (i := 52) (by decide +kernel))))

theorem k_all {args : Array Value} {s : State} (hts : ∀ w ∈ lw_tbl, w.before args s = true) : ∃ G : GG, va_K (Gd G) vwCl (tyG G) s := by
  obtain ⟨c0, i0, h0⟩ := u_known (C := RX0) (T := TX0) (N := 4) (n := 4) hts (fun w hw => lg_sub (gi_X0 w hw)) (hts _ (lg_sub li_X0))
  obtain ⟨c1, i1, h1⟩ := u_known (C := RX1) (T := TX1) (N := 4) (n := 4) hts (fun w hw => lg_sub (gi_X1 w hw)) (hts _ (lg_sub li_X1))
  obtain ⟨c2, i2, h2⟩ := u_known (C := RX2) (T := TX2) (N := 7) (n := 7) hts (fun w hw => lg_sub (gi_X2 w hw)) (hts _ (lg_sub li_X2))
  obtain ⟨c3, i3, h3⟩ := u_known (C := RX3) (T := TX3) (N := 5) (n := 5) hts (fun w hw => lg_sub (gi_X3 w hw)) (hts _ (lg_sub li_X3))
  obtain ⟨c4, i4, h4⟩ := u_known (C := RX4) (T := TX4) (N := 2) (n := 2) hts (fun w hw => lg_sub (gi_X4 w hw)) (hts _ (lg_sub li_X4))
  obtain ⟨c5, i5, h5⟩ := u_known (C := RX5) (T := TX5) (N := 2) (n := 2) hts (fun w hw => lg_sub (gi_X5 w hw)) (hts _ (lg_sub li_X5))
  obtain ⟨c6, i6, h6⟩ := u_known (C := RX6) (T := TX6) (N := 2) (n := 2) hts (fun w hw => lg_sub (gi_X6 w hw)) (hts _ (lg_sub li_X6))
  obtain ⟨c7, i7, h7⟩ := u_known (C := RX7) (T := TX7) (N := 17) (n := 17) hts (fun w hw => lg_sub (gi_X7 w hw)) (hts _ (lg_sub li_X7))
  obtain ⟨c8, i8, h8⟩ := u_known (C := RX8) (T := TX8) (N := 38) (n := 38) hts (fun w hw => lg_sub (gi_X8 w hw)) (hts _ (lg_sub li_X8))
  obtain ⟨cI, a1, a2⟩ := k_I (hts _ (lg_sub ac_I))
  obtain ⟨cZ, b1, b2⟩ := k_I (hts _ (lg_sub ac_Z))
  have hN := nn_of hts
  obtain ⟨cK, d1, d2⟩ := k_Q hN.2.1
  obtain ⟨cL, e1, e2⟩ := k_Q hN.2.2.1
  obtain ⟨cF, f1, f2⟩ := k_Q hN.2.2.2
  refine ⟨(fun k => if k = 0 then c0 else if k = 1 then c1 else if k = 2 then c2 else if k = 3 then c3 else if k = 4 then c4 else if k = 5 then c5 else if k = 6 then c6 else if k = 7 then c7 else c8, fun k => if k = 0 then i0 else if k = 1 then i1 else if k = 2 then i2 else if k = 3 then i3 else if k = 4 then i4 else if k = 5 then i5 else if k = 6 then i6 else if k = 7 then i7 else i8, cI, cZ, cK, cL, cF), ?_, ?_⟩
  · intro k q hq
    match k, hq with
    | 0, hq => cases hq; exact h0
    | 1, hq => cases hq; exact h1
    | 2, hq => cases hq; exact h2
    | 3, hq => cases hq; exact h3
    | 4, hq => cases hq; exact h4
    | 5, hq => cases hq; exact h5
    | 6, hq => cases hq; exact h6
    | 7, hq => cases hq; exact h7
    | 8, hq => cases hq; exact h8
    | k + 9, hq => simp [vwCl] at hq
  · intro k q hq
    match k, hq with
    | 0, hq => cases hq; exact ⟨a1, a2⟩
    | 1, hq => cases hq; exact ⟨b1, b2⟩
    | 2, hq => cases hq; exact ⟨d1, d2⟩
    | 3, hq => cases hq; exact ⟨e1, e2⟩
    | 4, hq => cases hq; exact ⟨f1, f2⟩
    | k + 5, hq => simp [tyG] at hq
theorem lx_L_7 : Cond.classLink RL 7 "BridleBook" ∈ lw_g := lg_mem 12 (by decide +kernel) rfl
theorem lx_L_10 : Cond.classLink RL 10 "BridleBookModel" ∈ lw_g := lg_mem 599 (by decide +kernel) rfl
theorem lk_L_9 : Cond.methodLink RL 9 yX7_init ∈ lw_g := lg_mem 14 (by decide +kernel) rfl
theorem lk_L_12 : Cond.methodLink RL 12 yX8_init ∈ lw_g := lg_mem 601 (by decide +kernel) rfl
theorem GoW.pm {K : KK} {c n0 nL : Nat} {ws ws' : va_W} {pc : Nat} {lv : List (Nat × Value)} {st : List Value} (p : ws.Perm ws') (k : GoW K c n0 nL ws' pc lv st) : GoW K c n0 nL ws pc lv st := fun H locs ls h1 h2 => k H locs ls ⟨vp_perm p h1.1, vd_perm p h1.2.1, h1.2.2⟩ h2
set_option maxRecDepth 100000 in
theorem pm_m {G : GG} {um ub : Nat → Nat} : wd_mN.map (fun n => (um n, wd_cell G z0 um mM n)) = wd_mN.map (fun n => (ad0 um ub n, wd_cell G z0 (ad0 um ub) M00 n)) := rfl
set_option maxRecDepth 100000 in
theorem pm_b {G : GG} {um ub : Nat → Nat} : wd_bO.map (fun n => (ub n, wd_cell G z0 ub mB n)) = wd_bO.map (fun n => (ad0 um ub n, wd_cell G z0 (ad0 um ub) M00 n)) := rfl
theorem pm_0 {G : GG} {um ub : Nat → Nat} : (([] ++ wd_bO.map (fun n => (ub n, wd_cell G z0 ub mB n))) ++ wd_mN.map (fun n => (um n, wd_cell G z0 um mM n))).Perm (wd_W G z0 (ad0 um ub) M00) := by
  rw [List.nil_append, pm_m (ub := ub), pm_b (um := um), ← List.map_append]
  refine List.Perm.map _ ?_
  show (wd_bO ++ wd_mN).Perm (wd_f0 ++ ([] ++ ([] ++ [])))
  decide
set_option maxRecDepth 20000 in
theorem law_start {Inv : (Nat → Nat) → Mem → Prop} (HA : HIall Inv) (H0 : Inv z0 M00) {p : Program} {e : Env} {s : State} {m : MethodId} {below : List Frame} {meth : Method} {c : Code} (l : Launch) {b L : Nat} {xs : Nat → Int32} (hL : L ≤ 2560) (C0 : lw_At p s m meth c b L xs) : W p l e room_1 s m #[Value.ref b] below meth c s.heap [] 0 0 (lw_Z below #[Value.ref b] s) (entryFrame m ([Value.ref b] : List Value).toArray 4) := by
  obtain ⟨hx, hb, hr, hml, hown, hts, hX, hbl, hlocks, hgv⟩ := C0
  obtain ⟨G, hK⟩ := k_all hts
  have hN := nn_of hts
  rw [lg_entry_eq]
  have hl := lv_entry [Value.ref b] (n := 4) (Nat.le_of_ble_eq_true rfl)
  obtain ⟨K, hKe⟩ : ∃ K : KK, K = (p, l, e, room_1, s, m, #[Value.ref b], below, meth, c, lw_Z below #[Value.ref b] s, (fun q => s.heap.size ≤ q), G, 0, 0) := ⟨_, rfl⟩
  have S : Sx K RL cL_law 4 room_1 := by
    subst hKe
    exact ⟨hx, hb, hml, hown, fun w hw => hts w (lg_sub hw), hK, hN, fun q hq => hq, rfl, Nat.zero_le _, Nat.zero_le _⟩
  have X : Xs K b L xs := by
    subst hKe
    exact ⟨hX, hbl, Nat.not_le.mpr hbl⟩
  have rt : RtF K := by
    subst hKe
    intro c1 n pc H locs ls q1 q2 d hS
    exact va_forget hS.2.2 (W.widen q1 q2 (lw_ret hx hb hr hlocks d))
  suffices h : GoW K 0 0 4 ([] ++ []) 0 [(0, .ref b)] [] by
    subst hKe
    exact h s.heap [] _ ⟨fun k q h => by simp at h, ⟨fun i j p q h => by simp at h, fun k q h => by simp at h⟩, va_S.rf⟩ hl
  refine w_new (ci := 7) (fs := [.null, .null, .int 0, .null, .null, .int 0, .null, .null, .int 0, .null, .null, .int 0, .int 0, .int 0, .null, .null, .null]) S rfl gi_X7 tyX7_ok lx_L_7 li_X7 ln_X7 (fun j hj => by rcases (show j = 0 ∨ j = 1 ∨ j = 2 ∨ j = 3 ∨ j = 4 ∨ j = 5 ∨ j = 6 ∨ j = 7 ∨ j = 8 ∨ j = 9 ∨ j = 10 ∨ j = 11 ∨ j = 12 ∨ j = 13 ∨ j = 14 ∨ j = 15 ∨ j = 16 by omega) with rfl | rfl | rfl | rfl | rfl | rfl | rfl | rfl | rfl | rfl | rfl | rfl | rfl | rfl | rfl | rfl | rfl <;> rfl) (by decide) (by decide) dL_law_0 (fun q => ?_)
  refine GoW.wd (ws' := [] ++ [(q, .inr (7, [.null, .null, .int 0, .null, .null, .int 0, .null, .null, .int 0, .null, .null, .int 0, .int 0, .int 0, .null, .null, .null]))]) rfl ?_
  refine w_dup S dL_law_3 rfl ?_
  refine w_cI (st := [.ref q]) S ok_X7_init rfl lk_L_9 (c_X7_init (r := [])) rfl rfl ⟨by decide, by decide⟩ ⟨rfl, rfl⟩ ⟨by decide, by decide⟩ (Nat.le_of_ble_eq_true rfl) dL_law_4 (fun ub hu => ?_)
  refine w_astore_n (lv' := [(1, .ref q), (0, .ref b)]) S dL_law_7 (by decide) rfl ?_
  refine GoW.wd (ws' := ([] ++ wd_bO.map (fun n => (ub n, wd_cell (kG K) z0 ub mB n))) ++ []) (List.append_nil _).symm ?_
  refine w_new (ci := 8) (fs := [.int 0, .int 0, .null, .null, .null, .null, .null, .null, .null, .null, .null, .null, .int 0, .null, .null, .null, .null, .null, .null, .null, .null, .null, .null, .int 0, .null, .null, .null, .null, .null, .null, .int 0, .int 0, .int 0, .null, .int 0, .null, .null, .null]) S rfl gi_X8 tyX8_ok lx_L_10 li_X8 ln_X8 (fun j hj => by rcases (show j = 0 ∨ j = 1 ∨ j = 2 ∨ j = 3 ∨ j = 4 ∨ j = 5 ∨ j = 6 ∨ j = 7 ∨ j = 8 ∨ j = 9 ∨ j = 10 ∨ j = 11 ∨ j = 12 ∨ j = 13 ∨ j = 14 ∨ j = 15 ∨ j = 16 ∨ j = 17 ∨ j = 18 ∨ j = 19 ∨ j = 20 ∨ j = 21 ∨ j = 22 ∨ j = 23 ∨ j = 24 ∨ j = 25 ∨ j = 26 ∨ j = 27 ∨ j = 28 ∨ j = 29 ∨ j = 30 ∨ j = 31 ∨ j = 32 ∨ j = 33 ∨ j = 34 ∨ j = 35 ∨ j = 36 ∨ j = 37 by omega) with rfl | rfl | rfl | rfl | rfl | rfl | rfl | rfl | rfl | rfl | rfl | rfl | rfl | rfl | rfl | rfl | rfl | rfl | rfl | rfl | rfl | rfl | rfl | rfl | rfl | rfl | rfl | rfl | rfl | rfl | rfl | rfl | rfl | rfl | rfl | rfl | rfl | rfl <;> rfl) (by decide) (by decide) dL_law_8 (fun q2 => ?_)
  refine GoW.wd (ws' := ([] ++ wd_bO.map (fun n => (ub n, wd_cell (kG K) z0 ub mB n))) ++ [(q2, .inr (8, [.int 0, .int 0, .null, .null, .null, .null, .null, .null, .null, .null, .null, .null, .int 0, .null, .null, .null, .null, .null, .null, .null, .null, .null, .null, .int 0, .null, .null, .null, .null, .null, .null, .int 0, .int 0, .int 0, .null, .int 0, .null, .null, .null]))]) rfl ?_
  refine w_dup S dL_law_11 rfl ?_
  refine w_cI (st := [.ref q2]) S ok_X8_init rfl lk_L_12 (c_X8_init (r := [] ++ wd_bO.map (fun n => (ub n, wd_cell (kG K) z0 ub mB n)))) rfl rfl ⟨by decide, by decide⟩ ⟨rfl, rfl⟩ ⟨by decide, by decide⟩ (Nat.le_of_ble_eq_true rfl) dL_law_12 (fun um hm => ?_)
  refine w_astore_n (lv' := [(2, .ref q2), (1, .ref q), (0, .ref b)]) S dL_law_15 (by decide) rfl ?_
  refine w_iconst (v := 0) S dL_law_16 rfl ?_
  refine w_istore_n (lv' := [(3, .int 0), (2, .ref q2), (1, .ref q), (0, .ref b)]) S dL_law_17 (by decide) rfl ?_
  refine GoW.pm pm_0 ?_
  refine GoW.up (a := (z0, ad0 um ub)) ?_
  subst hu
  subst hm
  refine Go.sub [3, 2, 1, 0] rfl ?_
  exact law_loop HA hL 513 0 _ (z0, ad0 um ub) M00 (by omega) (by omega) (Nat.le_of_ble_eq_true rfl) (Nat.le_of_ble_eq_true rfl) (Sx.up S (by decide) (by decide)) X rt H0
