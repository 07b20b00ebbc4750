/-! the constructors that have no loop -/
def rmC (d mc ms : Nat) : Room := { frames := d, cells := mc, slots := ms, locals := 40 * d }
theorem lf_X1_7 : Cond.fieldLink RX1 7 (TX1 3).1 (TX1 3).2.1 (TX1 3).2.2.1 ∈ lw_g := lg_mem 462 (by decide +kernel) rfl
theorem lf_X1_13 : Cond.fieldLink RX1 13 (TX1 0).1 (TX1 0).2.1 (TX1 0).2.2.1 ∈ lw_g := lg_mem 456 (by decide +kernel) rfl
theorem lf_X1_17 : Cond.fieldLink RX1 17 (TX1 1).1 (TX1 1).2.1 (TX1 1).2.2.1 ∈ lw_g := lg_mem 458 (by decide +kernel) rfl
theorem lf_X1_20 : Cond.fieldLink RX1 20 (TX1 2).1 (TX1 2).2.1 (TX1 2).2.2.1 ∈ lw_g := lg_mem 460 (by decide +kernel) rfl
theorem lf_X2_25 : Cond.fieldLink RX2 25 (TX2 4).1 (TX2 4).2.1 (TX2 4).2.2.1 ∈ lw_g := lg_mem 155 (by decide +kernel) rfl
theorem lf_X2_28 : Cond.fieldLink RX2 28 (TX2 5).1 (TX2 5).2.1 (TX2 5).2.2.1 ∈ lw_g := lg_mem 157 (by decide +kernel) rfl
theorem lf_X2_31 : Cond.fieldLink RX2 31 (TX2 6).1 (TX2 6).2.1 (TX2 6).2.2.1 ∈ lw_g := lg_mem 159 (by decide +kernel) rfl
theorem lf_X3_25 : Cond.fieldLink RX3 25 (TX3 2).1 (TX3 2).2.1 (TX3 2).2.2.1 ∈ lw_g := lg_mem 295 (by decide +kernel) rfl
theorem lo_X0_3 : Cond.methodLink RX0 3 objectInit ∈ lw_g := lg_mem 58 (by decide +kernel) rfl
theorem lo_X1_1 : Cond.methodLink RX1 1 objectInit ∈ lw_g := lg_mem 455 (by decide +kernel) rfl
theorem lo_X2_3 : Cond.methodLink RX2 3 objectInit ∈ lw_g := lg_mem 150 (by decide +kernel) rfl
theorem lo_X3_3 : Cond.methodLink RX3 3 objectInit ∈ lw_g := lg_mem 291 (by decide +kernel) rfl
theorem lo_X5_3 : Cond.methodLink RX5 3 objectInit ∈ lw_g := lg_mem 43 (by decide +kernel) rfl
theorem lo_X6_3 : Cond.methodLink RX6 3 objectInit ∈ lw_g := lg_mem 78 (by decide +kernel) rfl
theorem li_X0 : Cond.instantiable RX0 4 ∈ lw_g := lg_mem 54 (by decide +kernel) rfl
theorem ln_X0 : Cond.initialized RX0 ∈ lw_g := lg_mem 4 (by decide +kernel) rfl
theorem li_X1 : Cond.instantiable RX1 4 ∈ lw_g := lg_mem 451 (by decide +kernel) rfl
theorem ln_X1 : Cond.initialized RX1 ∈ lw_g := lg_mem 11 (by decide +kernel) rfl
theorem li_X2 : Cond.instantiable RX2 7 ∈ lw_g := lg_mem 146 (by decide +kernel) rfl
theorem ln_X2 : Cond.initialized RX2 ∈ lw_g := lg_mem 8 (by decide +kernel) rfl
theorem li_X3 : Cond.instantiable RX3 5 ∈ lw_g := lg_mem 287 (by decide +kernel) rfl
theorem ln_X3 : Cond.initialized RX3 ∈ lw_g := lg_mem 10 (by decide +kernel) rfl
theorem li_X4 : Cond.instantiable RX4 2 ∈ lw_g := lg_mem 21 (by decide +kernel) rfl
theorem ln_X4 : Cond.initialized RX4 ∈ lw_g := lg_mem 2 (by decide +kernel) rfl
theorem li_X5 : Cond.instantiable RX5 2 ∈ lw_g := lg_mem 39 (by decide +kernel) rfl
theorem ln_X5 : Cond.initialized RX5 ∈ lw_g := lg_mem 3 (by decide +kernel) rfl
theorem li_X6 : Cond.instantiable RX6 2 ∈ lw_g := lg_mem 74 (by decide +kernel) rfl
theorem ln_X6 : Cond.initialized RX6 ∈ lw_g := lg_mem 5 (by decide +kernel) rfl
theorem li_X7 : Cond.instantiable RX7 17 ∈ lw_g := lg_mem 13 (by decide +kernel) rfl
theorem ln_X7 : Cond.initialized RX7 ∈ lw_g := lg_mem 1 (by decide +kernel) rfl
theorem li_X8 : Cond.instantiable RX8 38 ∈ lw_g := lg_mem 600 (by decide +kernel) rfl
theorem ln_X8 : Cond.initialized RX8 ∈ lw_g := lg_mem 7 (by decide +kernel) rfl
theorem dX0_init_0 : decode cX0_init 0 = .ok (.aload_n 0, 1) := by decide +kernel
theorem dX0_init_1 : decode cX0_init 1 = .ok (.invokespecial 3, 3) := by decide +kernel
theorem dX0_init_4 : decode cX0_init 4 = .ok (.aload_n 0, 1) := by decide +kernel
theorem dX0_init_5 : decode cX0_init 5 = .ok (.iconst 0, 1) := by decide +kernel
theorem dX0_init_6 : decode cX0_init 6 = .ok (.putfield 9, 3) := by decide +kernel
theorem dX0_init_9 : decode cX0_init 9 = .ok (.aload_n 0, 1) := by decide +kernel
theorem dX0_init_10 : decode cX0_init 10 = .ok (.iconst 0, 1) := by decide +kernel
theorem dX0_init_11 : decode cX0_init 11 = .ok (.putfield 15, 3) := by decide +kernel
theorem dX0_init_14 : decode cX0_init 14 = .ok (.aload_n 0, 1) := by decide +kernel
theorem dX0_init_15 : decode cX0_init 15 = .ok (.iconst 0, 1) := by decide +kernel
theorem dX0_init_16 : decode cX0_init 16 = .ok (.putfield 18, 3) := by decide +kernel
theorem dX0_init_19 : decode cX0_init 19 = .ok (.aload_n 0, 1) := by decide +kernel
theorem dX0_init_20 : decode cX0_init 20 = .ok (.iconst 0, 1) := by decide +kernel
theorem dX0_init_21 : decode cX0_init 21 = .ok (.putfield 21, 3) := by decide +kernel
theorem dX0_init_24 : decode cX0_init 24 = .ok (.return_, 1) := by decide +kernel
theorem c_X0_init {l : Launch} {G : GG} {r : va_W} {h : Nat} : CtR (T := Unit) l G yX0_init cX0_init 1 (rmC 1 0 0) [.ref h] (r ++ [(h, .inr (0, [.int 0, .int 0, .int 0, .int 0]))]) (fun _ => True) (fun u => r ++ [(h, .inr (0, [.int 0, .int 0, .int 0, .int 0]))]) 0 0 := by
  refine ct_R (by decide) rfl (own := RX0) (Nat.le_of_ble_eq_true rfl) (fun K hl hg S hi rt => ?_)
  subst hl; subst hg
  show GoW K 0 0 1 (r ++ [(h, .inr (0, [.int 0, .int 0, .int 0, .int 0]))]) 0 [(0, .ref h)] []
  refine w_aload_n 0 S dX0_init_0 rfl ?_
  refine w_objInit S lo_X0_3 (by decide) (Nat.le_of_ble_eq_true rfl) dX0_init_1 ?_
  refine w_aload_n 0 S dX0_init_4 rfl ?_
  refine w_iconst (v := 0) S dX0_init_5 rfl ?_
  refine w_put (ty := .int) (l' := [(h, .inr (0, [.int 0, .int 0, .int 0, .int 0]))]) 0 S rfl rfl gi_X0 tyX0_ok nmX0 (by decide) lf_X0_9 rfl (by decide +kernel) rfl rfl (Nat.le_of_ble_eq_true rfl) rfl dX0_init_6 ?_
  refine w_aload_n 0 S dX0_init_9 rfl ?_
  refine w_iconst (v := 0) S dX0_init_10 rfl ?_
  refine w_put (ty := .int) (l' := [(h, .inr (0, [.int 0, .int 0, .int 0, .int 0]))]) 0 S rfl rfl gi_X0 tyX0_ok nmX0 (by decide) lf_X0_15 rfl (by decide +kernel) rfl rfl (Nat.le_of_ble_eq_true rfl) rfl dX0_init_11 ?_
  refine w_aload_n 0 S dX0_init_14 rfl ?_
  refine w_iconst (v := 0) S dX0_init_15 rfl ?_
  refine w_put (ty := .int) (l' := [(h, .inr (0, [.int 0, .int 0, .int 0, .int 0]))]) 0 S rfl rfl gi_X0 tyX0_ok nmX0 (by decide) lf_X0_18 rfl (by decide +kernel) rfl rfl (Nat.le_of_ble_eq_true rfl) rfl dX0_init_16 ?_
  refine w_aload_n 0 S dX0_init_19 rfl ?_
  refine w_iconst (v := 0) S dX0_init_20 rfl ?_
  refine w_put (ty := .int) (l' := [(h, .inr (0, [.int 0, .int 0, .int 0, .int 0]))]) 0 S rfl rfl gi_X0 tyX0_ok nmX0 (by decide) lf_X0_21 rfl (by decide +kernel) rfl rfl (Nat.le_of_ble_eq_true rfl) rfl dX0_init_21 ?_
  exact w_ret rt () trivial rfl (Nat.le_of_ble_eq_true rfl) (Nat.le_of_ble_eq_true rfl) dX0_init_24
theorem dX1_init_0 : decode cX1_init 0 = .ok (.aload_n 0, 1) := by decide +kernel
theorem dX1_init_1 : decode cX1_init 1 = .ok (.invokespecial 1, 3) := by decide +kernel
theorem dX1_init_4 : decode cX1_init 4 = .ok (.aload_n 0, 1) := by decide +kernel
theorem dX1_init_5 : decode cX1_init 5 = .ok (.iconst 0, 1) := by decide +kernel
theorem dX1_init_6 : decode cX1_init 6 = .ok (.putfield 7, 3) := by decide +kernel
theorem dX1_init_9 : decode cX1_init 9 = .ok (.aload_n 0, 1) := by decide +kernel
theorem dX1_init_10 : decode cX1_init 10 = .ok (.iload_n 1, 1) := by decide +kernel
theorem dX1_init_11 : decode cX1_init 11 = .ok (.putfield 13, 3) := by decide +kernel
theorem dX1_init_14 : decode cX1_init 14 = .ok (.aload_n 0, 1) := by decide +kernel
theorem dX1_init_15 : decode cX1_init 15 = .ok (.iload_n 2, 1) := by decide +kernel
theorem dX1_init_16 : decode cX1_init 16 = .ok (.putfield 17, 3) := by decide +kernel
theorem dX1_init_19 : decode cX1_init 19 = .ok (.aload_n 0, 1) := by decide +kernel
theorem dX1_init_20 : decode cX1_init 20 = .ok (.iload_n 3, 1) := by decide +kernel
theorem dX1_init_21 : decode cX1_init 21 = .ok (.putfield 20, 3) := by decide +kernel
theorem dX1_init_24 : decode cX1_init 24 = .ok (.return_, 1) := by decide +kernel
theorem c_X1_init {l : Launch} {G : GG} {r : va_W} {h : Nat} {p1 : Int32} {p2 : Int32} {p3 : Int32} : CtR (T := Unit) l G yX1_init cX1_init 4 (rmC 1 0 0) [.ref h, .int p1, .int p2, .int p3] (r ++ [(h, .inr (1, [.int 0, .int 0, .int 0, .int 0]))]) (fun _ => True) (fun u => r ++ [(h, .inr (1, [.int p1, .int p2, .int p3, .int 0]))]) 0 0 := by
  refine ct_R (by decide) rfl (own := RX1) (Nat.le_of_ble_eq_true rfl) (fun K hl hg S hi rt => ?_)
  subst hl; subst hg
  show GoW K 0 0 4 (r ++ [(h, .inr (1, [.int 0, .int 0, .int 0, .int 0]))]) 0 [(0, .ref h), (1, .int p1), (2, .int p2), (3, .int p3)] []
  refine w_aload_n 0 S dX1_init_0 rfl ?_
  refine w_objInit S lo_X1_1 (by decide) (Nat.le_of_ble_eq_true rfl) dX1_init_1 ?_
  refine w_aload_n 0 S dX1_init_4 rfl ?_
  refine w_iconst (v := 0) S dX1_init_5 rfl ?_
  refine w_put (ty := .boolean) (l' := [(h, .inr (1, [.int 0, .int 0, .int 0, .int 0]))]) 0 S rfl rfl gi_X1 tyX1_ok nmX1 (by decide) lf_X1_7 rfl (by decide +kernel) rfl rfl (Nat.le_of_ble_eq_true rfl) rfl dX1_init_6 ?_
  refine w_aload_n 0 S dX1_init_9 rfl ?_
  refine w_iload_n 1 S dX1_init_10 rfl ?_
  refine w_putF (ty := .int) (l' := [(h, .inr (1, [.int p1, .int 0, .int 0, .int 0]))]) 0 S hi rfl rfl gi_X1 tyX1_ok nmX1 (by decide) lf_X1_13 rfl rfl (by decide +kernel) rfl rfl (Nat.le_of_ble_eq_true rfl) rfl dX1_init_11 ?_
  refine w_aload_n 0 S dX1_init_14 rfl ?_
  refine w_iload_n 2 S dX1_init_15 rfl ?_
  refine w_putF (ty := .int) (l' := [(h, .inr (1, [.int p1, .int p2, .int 0, .int 0]))]) 0 S hi rfl rfl gi_X1 tyX1_ok nmX1 (by decide) lf_X1_17 rfl rfl (by decide +kernel) rfl rfl (Nat.le_of_ble_eq_true rfl) rfl dX1_init_16 ?_
  refine w_aload_n 0 S dX1_init_19 rfl ?_
  refine w_iload_n 3 S dX1_init_20 rfl ?_
  refine w_putF (ty := .int) (l' := [(h, .inr (1, [.int p1, .int p2, .int p3, .int 0]))]) 0 S hi rfl rfl gi_X1 tyX1_ok nmX1 (by decide) lf_X1_20 rfl rfl (by decide +kernel) rfl rfl (Nat.le_of_ble_eq_true rfl) rfl dX1_init_21 ?_
  exact w_ret rt () trivial rfl (Nat.le_of_ble_eq_true rfl) (Nat.le_of_ble_eq_true rfl) dX1_init_24
theorem dX2_init_0 : decode cX2_init 0 = .ok (.aload_n 0, 1) := by decide +kernel
theorem dX2_init_1 : decode cX2_init 1 = .ok (.invokespecial 3, 3) := by decide +kernel
theorem dX2_init_4 : decode cX2_init 4 = .ok (.aload_n 0, 1) := by decide +kernel
theorem dX2_init_5 : decode cX2_init 5 = .ok (.bipush 6, 2) := by decide +kernel
theorem dX2_init_7 : decode cX2_init 7 = .ok (.newarray .int, 2) := by decide +kernel
theorem dX2_init_9 : decode cX2_init 9 = .ok (.putfield 9, 3) := by decide +kernel
theorem dX2_init_12 : decode cX2_init 12 = .ok (.aload_n 0, 1) := by decide +kernel
theorem dX2_init_13 : decode cX2_init 13 = .ok (.bipush 6, 2) := by decide +kernel
theorem dX2_init_15 : decode cX2_init 15 = .ok (.newarray .int, 2) := by decide +kernel
theorem dX2_init_17 : decode cX2_init 17 = .ok (.putfield 15, 3) := by decide +kernel
theorem dX2_init_20 : decode cX2_init 20 = .ok (.aload_n 0, 1) := by decide +kernel
theorem dX2_init_21 : decode cX2_init 21 = .ok (.bipush 6, 2) := by decide +kernel
theorem dX2_init_23 : decode cX2_init 23 = .ok (.newarray .int, 2) := by decide +kernel
theorem dX2_init_25 : decode cX2_init 25 = .ok (.putfield 18, 3) := by decide +kernel
theorem dX2_init_28 : decode cX2_init 28 = .ok (.aload_n 0, 1) := by decide +kernel
theorem dX2_init_29 : decode cX2_init 29 = .ok (.iconst 0, 1) := by decide +kernel
theorem dX2_init_30 : decode cX2_init 30 = .ok (.putfield 21, 3) := by decide +kernel
theorem dX2_init_33 : decode cX2_init 33 = .ok (.aload_n 0, 1) := by decide +kernel
theorem dX2_init_34 : decode cX2_init 34 = .ok (.iconst 0, 1) := by decide +kernel
theorem dX2_init_35 : decode cX2_init 35 = .ok (.putfield 25, 3) := by decide +kernel
theorem dX2_init_38 : decode cX2_init 38 = .ok (.aload_n 0, 1) := by decide +kernel
theorem dX2_init_39 : decode cX2_init 39 = .ok (.iconst (-1), 1) := by decide +kernel
theorem dX2_init_40 : decode cX2_init 40 = .ok (.putfield 28, 3) := by decide +kernel
theorem dX2_init_43 : decode cX2_init 43 = .ok (.aload_n 0, 1) := by decide +kernel
theorem dX2_init_44 : decode cX2_init 44 = .ok (.iconst 0, 1) := by decide +kernel
theorem dX2_init_45 : decode cX2_init 45 = .ok (.putfield 31, 3) := by decide +kernel
theorem dX2_init_48 : decode cX2_init 48 = .ok (.return_, 1) := by decide +kernel
theorem c_X2_init {l : Launch} {G : GG} {r : va_W} {h : Nat} : CtR (T := Nat × Nat × Nat) l G yX2_init cX2_init 1 (rmC 1 3 18) [.ref h] (r ++ [(h, .inr (2, [.null, .null, .null, .int 0, .int 0, .int 0, .int 0]))]) (fun _ => True) (fun u => r ++ [(h, .inr (2, [.ref u.1, .ref u.2.1, .ref u.2.2, .int 0, .int 0, .int (-1), .int 0])), (u.1, .inl (G.2.2.1, 6, .inl (fun _ => 0))), (u.2.1, .inl (G.2.2.1, 6, .inl (fun _ => 0))), (u.2.2, .inl (G.2.2.1, 6, .inl (fun _ => 0)))]) 3 18 := by
  refine ct_R (by decide) rfl (own := RX2) (Nat.le_of_ble_eq_true rfl) (fun K hl hg S hi rt => ?_)
  subst hl; subst hg
  show GoW K 0 0 1 (r ++ [(h, .inr (2, [.null, .null, .null, .int 0, .int 0, .int 0, .int 0]))]) 0 [(0, .ref h)] []
  refine w_aload_n 0 S dX2_init_0 rfl ?_
  refine w_objInit S lo_X2_3 (by decide) (Nat.le_of_ble_eq_true rfl) dX2_init_1 ?_
  refine w_aload_n 0 S dX2_init_4 rfl ?_
  refine w_bipush (v := 6) S dX2_init_5 rfl ?_
  refine w_newI (N := 6) S ac_I (by decide) (by decide) (by decide) (Nat.le_of_ble_eq_true rfl) (Nat.le_of_ble_eq_true rfl) dX2_init_7 (fun q1 => ?_)
  refine GoW.wd (ws' := r ++ [(h, .inr (2, [.null, .null, .null, .int 0, .int 0, .int 0, .int 0])), (q1, .inl ((kG K).2.2.1, 6, .inl (fun _ => 0)))]) rfl ?_
  refine w_putF (ty := .array .int) (l' := [(h, .inr (2, [.ref q1, .null, .null, .int 0, .int 0, .int 0, .int 0])), (q1, .inl ((kG K).2.2.1, 6, .inl (fun _ => 0)))]) 0 S hi rfl rfl gi_X2 tyX2_ok nmX2 (by decide) lf_X2_9 rfl rfl (by decide +kernel) rfl rfl (Nat.le_of_ble_eq_true rfl) rfl dX2_init_9 ?_
  refine w_aload_n 0 S dX2_init_12 rfl ?_
  refine w_bipush (v := 6) S dX2_init_13 rfl ?_
  refine w_newI (N := 6) S ac_I (by decide) (by decide) (by decide) (Nat.le_of_ble_eq_true rfl) (Nat.le_of_ble_eq_true rfl) dX2_init_15 (fun q2 => ?_)
  refine GoW.wd (ws' := r ++ [(h, .inr (2, [.ref q1, .null, .null, .int 0, .int 0, .int 0, .int 0])), (q1, .inl ((kG K).2.2.1, 6, .inl (fun _ => 0))), (q2, .inl ((kG K).2.2.1, 6, .inl (fun _ => 0)))]) rfl ?_
  refine w_putF (ty := .array .int) (l' := [(h, .inr (2, [.ref q1, .ref q2, .null, .int 0, .int 0, .int 0, .int 0])), (q1, .inl ((kG K).2.2.1, 6, .inl (fun _ => 0))), (q2, .inl ((kG K).2.2.1, 6, .inl (fun _ => 0)))]) 0 S hi rfl rfl gi_X2 tyX2_ok nmX2 (by decide) lf_X2_15 rfl rfl (by decide +kernel) rfl rfl (Nat.le_of_ble_eq_true rfl) rfl dX2_init_17 ?_
  refine w_aload_n 0 S dX2_init_20 rfl ?_
  refine w_bipush (v := 6) S dX2_init_21 rfl ?_
  refine w_newI (N := 6) S ac_I (by decide) (by decide) (by decide) (Nat.le_of_ble_eq_true rfl) (Nat.le_of_ble_eq_true rfl) dX2_init_23 (fun q3 => ?_)
  refine GoW.wd (ws' := r ++ [(h, .inr (2, [.ref q1, .ref q2, .null, .int 0, .int 0, .int 0, .int 0])), (q1, .inl ((kG K).2.2.1, 6, .inl (fun _ => 0))), (q2, .inl ((kG K).2.2.1, 6, .inl (fun _ => 0))), (q3, .inl ((kG K).2.2.1, 6, .inl (fun _ => 0)))]) rfl ?_
  refine w_putF (ty := .array .int) (l' := [(h, .inr (2, [.ref q1, .ref q2, .ref q3, .int 0, .int 0, .int 0, .int 0])), (q1, .inl ((kG K).2.2.1, 6, .inl (fun _ => 0))), (q2, .inl ((kG K).2.2.1, 6, .inl (fun _ => 0))), (q3, .inl ((kG K).2.2.1, 6, .inl (fun _ => 0)))]) 0 S hi rfl rfl gi_X2 tyX2_ok nmX2 (by decide) lf_X2_18 rfl rfl (by decide +kernel) rfl rfl (Nat.le_of_ble_eq_true rfl) rfl dX2_init_25 ?_
  refine w_aload_n 0 S dX2_init_28 rfl ?_
  refine w_iconst (v := 0) S dX2_init_29 rfl ?_
  refine w_put (ty := .int) (l' := [(h, .inr (2, [.ref q1, .ref q2, .ref q3, .int 0, .int 0, .int 0, .int 0])), (q1, .inl ((kG K).2.2.1, 6, .inl (fun _ => 0))), (q2, .inl ((kG K).2.2.1, 6, .inl (fun _ => 0))), (q3, .inl ((kG K).2.2.1, 6, .inl (fun _ => 0)))]) 0 S rfl rfl gi_X2 tyX2_ok nmX2 (by decide) lf_X2_21 rfl (by decide +kernel) rfl rfl (Nat.le_of_ble_eq_true rfl) rfl dX2_init_30 ?_
  refine w_aload_n 0 S dX2_init_33 rfl ?_
  refine w_iconst (v := 0) S dX2_init_34 rfl ?_
  refine w_put (ty := .int) (l' := [(h, .inr (2, [.ref q1, .ref q2, .ref q3, .int 0, .int 0, .int 0, .int 0])), (q1, .inl ((kG K).2.2.1, 6, .inl (fun _ => 0))), (q2, .inl ((kG K).2.2.1, 6, .inl (fun _ => 0))), (q3, .inl ((kG K).2.2.1, 6, .inl (fun _ => 0)))]) 0 S rfl rfl gi_X2 tyX2_ok nmX2 (by decide) lf_X2_25 rfl (by decide +kernel) rfl rfl (Nat.le_of_ble_eq_true rfl) rfl dX2_init_35 ?_
  refine w_aload_n 0 S dX2_init_38 rfl ?_
  refine w_iconst (v := (-1)) S dX2_init_39 rfl ?_
  refine w_put (ty := .int) (l' := [(h, .inr (2, [.ref q1, .ref q2, .ref q3, .int 0, .int 0, .int (-1), .int 0])), (q1, .inl ((kG K).2.2.1, 6, .inl (fun _ => 0))), (q2, .inl ((kG K).2.2.1, 6, .inl (fun _ => 0))), (q3, .inl ((kG K).2.2.1, 6, .inl (fun _ => 0)))]) 0 S rfl rfl gi_X2 tyX2_ok nmX2 (by decide) lf_X2_28 rfl (by decide +kernel) rfl rfl (Nat.le_of_ble_eq_true rfl) rfl dX2_init_40 ?_
  refine w_aload_n 0 S dX2_init_43 rfl ?_
  refine w_iconst (v := 0) S dX2_init_44 rfl ?_
  refine w_put (ty := .int) (l' := [(h, .inr (2, [.ref q1, .ref q2, .ref q3, .int 0, .int 0, .int (-1), .int 0])), (q1, .inl ((kG K).2.2.1, 6, .inl (fun _ => 0))), (q2, .inl ((kG K).2.2.1, 6, .inl (fun _ => 0))), (q3, .inl ((kG K).2.2.1, 6, .inl (fun _ => 0)))]) 0 S rfl rfl gi_X2 tyX2_ok nmX2 (by decide) lf_X2_31 rfl (by decide +kernel) rfl rfl (Nat.le_of_ble_eq_true rfl) rfl dX2_init_45 ?_
  exact w_ret rt (q1, q2, q3) trivial rfl (Nat.le_of_ble_eq_true rfl) (Nat.le_of_ble_eq_true rfl) dX2_init_48
theorem dX3_init_0 : decode cX3_init 0 = .ok (.aload_n 0, 1) := by decide +kernel
theorem dX3_init_1 : decode cX3_init 1 = .ok (.invokespecial 3, 3) := by decide +kernel
theorem dX3_init_4 : decode cX3_init 4 = .ok (.aload_n 0, 1) := by decide +kernel
theorem dX3_init_5 : decode cX3_init 5 = .ok (.bipush 10, 2) := by decide +kernel
theorem dX3_init_7 : decode cX3_init 7 = .ok (.newarray .int, 2) := by decide +kernel
theorem dX3_init_9 : decode cX3_init 9 = .ok (.putfield 9, 3) := by decide +kernel
theorem dX3_init_12 : decode cX3_init 12 = .ok (.aload_n 0, 1) := by decide +kernel
theorem dX3_init_13 : decode cX3_init 13 = .ok (.iconst 0, 1) := by decide +kernel
theorem dX3_init_14 : decode cX3_init 14 = .ok (.putfield 15, 3) := by decide +kernel
theorem dX3_init_17 : decode cX3_init 17 = .ok (.aload_n 0, 1) := by decide +kernel
theorem dX3_init_18 : decode cX3_init 18 = .ok (.iload_n 1, 1) := by decide +kernel
theorem dX3_init_19 : decode cX3_init 19 = .ok (.putfield 19, 3) := by decide +kernel
theorem dX3_init_22 : decode cX3_init 22 = .ok (.aload_n 0, 1) := by decide +kernel
theorem dX3_init_23 : decode cX3_init 23 = .ok (.iload_n 2, 1) := by decide +kernel
theorem dX3_init_24 : decode cX3_init 24 = .ok (.putfield 22, 3) := by decide +kernel
theorem dX3_init_27 : decode cX3_init 27 = .ok (.aload_n 0, 1) := by decide +kernel
theorem dX3_init_28 : decode cX3_init 28 = .ok (.iload_n 3, 1) := by decide +kernel
theorem dX3_init_29 : decode cX3_init 29 = .ok (.putfield 25, 3) := by decide +kernel
theorem dX3_init_32 : decode cX3_init 32 = .ok (.return_, 1) := by decide +kernel
theorem c_X3_init {l : Launch} {G : GG} {r : va_W} {h : Nat} {p1 : Int32} {p2 : Int32} {p3 : Int32} : CtR (T := Nat) l G yX3_init cX3_init 4 (rmC 1 1 10) [.ref h, .int p1, .int p2, .int p3] (r ++ [(h, .inr (3, [.int 0, .int 0, .int 0, .null, .int 0]))]) (fun _ => True) (fun u => r ++ [(h, .inr (3, [.int p1, .int p2, .int p3, .ref u, .int 0])), (u, .inl (G.2.2.1, 10, .inl (fun _ => 0)))]) 1 10 := by
  refine ct_R (by decide) rfl (own := RX3) (Nat.le_of_ble_eq_true rfl) (fun K hl hg S hi rt => ?_)
  subst hl; subst hg
  show GoW K 0 0 4 (r ++ [(h, .inr (3, [.int 0, .int 0, .int 0, .null, .int 0]))]) 0 [(0, .ref h), (1, .int p1), (2, .int p2), (3, .int p3)] []
  refine w_aload_n 0 S dX3_init_0 rfl ?_
  refine w_objInit S lo_X3_3 (by decide) (Nat.le_of_ble_eq_true rfl) dX3_init_1 ?_
  refine w_aload_n 0 S dX3_init_4 rfl ?_
  refine w_bipush (v := 10) S dX3_init_5 rfl ?_
  refine w_newI (N := 10) S ac_I (by decide) (by decide) (by decide) (Nat.le_of_ble_eq_true rfl) (Nat.le_of_ble_eq_true rfl) dX3_init_7 (fun q1 => ?_)
  refine GoW.wd (ws' := r ++ [(h, .inr (3, [.int 0, .int 0, .int 0, .null, .int 0])), (q1, .inl ((kG K).2.2.1, 10, .inl (fun _ => 0)))]) rfl ?_
  refine w_putF (ty := .array .int) (l' := [(h, .inr (3, [.int 0, .int 0, .int 0, .ref q1, .int 0])), (q1, .inl ((kG K).2.2.1, 10, .inl (fun _ => 0)))]) 0 S hi rfl rfl gi_X3 tyX3_ok nmX3 (by decide) lf_X3_9 rfl rfl (by decide +kernel) rfl rfl (Nat.le_of_ble_eq_true rfl) rfl dX3_init_9 ?_
  refine w_aload_n 0 S dX3_init_12 rfl ?_
  refine w_iconst (v := 0) S dX3_init_13 rfl ?_
  refine w_put (ty := .int) (l' := [(h, .inr (3, [.int 0, .int 0, .int 0, .ref q1, .int 0])), (q1, .inl ((kG K).2.2.1, 10, .inl (fun _ => 0)))]) 0 S rfl rfl gi_X3 tyX3_ok nmX3 (by decide) lf_X3_15 rfl (by decide +kernel) rfl rfl (Nat.le_of_ble_eq_true rfl) rfl dX3_init_14 ?_
  refine w_aload_n 0 S dX3_init_17 rfl ?_
  refine w_iload_n 1 S dX3_init_18 rfl ?_
  refine w_put (ty := .int) (l' := [(h, .inr (3, [.int p1, .int 0, .int 0, .ref q1, .int 0])), (q1, .inl ((kG K).2.2.1, 10, .inl (fun _ => 0)))]) 0 S rfl rfl gi_X3 tyX3_ok nmX3 (by decide) lf_X3_19 rfl (by decide +kernel) rfl rfl (Nat.le_of_ble_eq_true rfl) rfl dX3_init_19 ?_
  refine w_aload_n 0 S dX3_init_22 rfl ?_
  refine w_iload_n 2 S dX3_init_23 rfl ?_
  refine w_putF (ty := .int) (l' := [(h, .inr (3, [.int p1, .int p2, .int 0, .ref q1, .int 0])), (q1, .inl ((kG K).2.2.1, 10, .inl (fun _ => 0)))]) 0 S hi rfl rfl gi_X3 tyX3_ok nmX3 (by decide) lf_X3_22 rfl rfl (by decide +kernel) rfl rfl (Nat.le_of_ble_eq_true rfl) rfl dX3_init_24 ?_
  refine w_aload_n 0 S dX3_init_27 rfl ?_
  refine w_iload_n 3 S dX3_init_28 rfl ?_
  refine w_putF (ty := .int) (l' := [(h, .inr (3, [.int p1, .int p2, .int p3, .ref q1, .int 0])), (q1, .inl ((kG K).2.2.1, 10, .inl (fun _ => 0)))]) 0 S hi rfl rfl gi_X3 tyX3_ok nmX3 (by decide) lf_X3_25 rfl rfl (by decide +kernel) rfl rfl (Nat.le_of_ble_eq_true rfl) rfl dX3_init_29 ?_
  exact w_ret rt q1 trivial rfl (Nat.le_of_ble_eq_true rfl) (Nat.le_of_ble_eq_true rfl) dX3_init_32
theorem dX5_init_0 : decode cX5_init 0 = .ok (.aload_n 0, 1) := by decide +kernel
theorem dX5_init_1 : decode cX5_init 1 = .ok (.invokespecial 3, 3) := by decide +kernel
theorem dX5_init_4 : decode cX5_init 4 = .ok (.aload_n 0, 1) := by decide +kernel
theorem dX5_init_5 : decode cX5_init 5 = .ok (.sipush 202, 3) := by decide +kernel
theorem dX5_init_8 : decode cX5_init 8 = .ok (.newarray .int, 2) := by decide +kernel
theorem dX5_init_10 : decode cX5_init 10 = .ok (.putfield 9, 3) := by decide +kernel
theorem dX5_init_13 : decode cX5_init 13 = .ok (.aload_n 0, 1) := by decide +kernel
theorem dX5_init_14 : decode cX5_init 14 = .ok (.sipush 202, 3) := by decide +kernel
theorem dX5_init_17 : decode cX5_init 17 = .ok (.newarray .int, 2) := by decide +kernel
theorem dX5_init_19 : decode cX5_init 19 = .ok (.putfield 15, 3) := by decide +kernel
theorem dX5_init_22 : decode cX5_init 22 = .ok (.return_, 1) := by decide +kernel
theorem c_X5_init {l : Launch} {G : GG} {r : va_W} {h : Nat} : CtR (T := Nat × Nat) l G yX5_init cX5_init 1 (rmC 1 2 404) [.ref h] (r ++ [(h, .inr (5, [.null, .null]))]) (fun _ => True) (fun u => r ++ [(h, .inr (5, [.ref u.1, .ref u.2])), (u.1, .inl (G.2.2.1, 202, .inl (fun _ => 0))), (u.2, .inl (G.2.2.1, 202, .inl (fun _ => 0)))]) 2 404 := by
  refine ct_R (by decide) rfl (own := RX5) (Nat.le_of_ble_eq_true rfl) (fun K hl hg S hi rt => ?_)
  subst hl; subst hg
  show GoW K 0 0 1 (r ++ [(h, .inr (5, [.null, .null]))]) 0 [(0, .ref h)] []
  refine w_aload_n 0 S dX5_init_0 rfl ?_
  refine w_objInit S lo_X5_3 (by decide) (Nat.le_of_ble_eq_true rfl) dX5_init_1 ?_
  refine w_aload_n 0 S dX5_init_4 rfl ?_
  refine w_sipush (v := 202) S dX5_init_5 rfl ?_
  refine w_newI (N := 202) S ac_I (by decide) (by decide) (by decide) (Nat.le_of_ble_eq_true rfl) (Nat.le_of_ble_eq_true rfl) dX5_init_8 (fun q1 => ?_)
  refine GoW.wd (ws' := r ++ [(h, .inr (5, [.null, .null])), (q1, .inl ((kG K).2.2.1, 202, .inl (fun _ => 0)))]) rfl ?_
  refine w_putF (ty := .array .int) (l' := [(h, .inr (5, [.ref q1, .null])), (q1, .inl ((kG K).2.2.1, 202, .inl (fun _ => 0)))]) 0 S hi rfl rfl gi_X5 tyX5_ok nmX5 (by decide) lf_X5_9 rfl rfl (by decide +kernel) rfl rfl (Nat.le_of_ble_eq_true rfl) rfl dX5_init_10 ?_
  refine w_aload_n 0 S dX5_init_13 rfl ?_
  refine w_sipush (v := 202) S dX5_init_14 rfl ?_
  refine w_newI (N := 202) S ac_I (by decide) (by decide) (by decide) (Nat.le_of_ble_eq_true rfl) (Nat.le_of_ble_eq_true rfl) dX5_init_17 (fun q2 => ?_)
  refine GoW.wd (ws' := r ++ [(h, .inr (5, [.ref q1, .null])), (q1, .inl ((kG K).2.2.1, 202, .inl (fun _ => 0))), (q2, .inl ((kG K).2.2.1, 202, .inl (fun _ => 0)))]) rfl ?_
  refine w_putF (ty := .array .int) (l' := [(h, .inr (5, [.ref q1, .ref q2])), (q1, .inl ((kG K).2.2.1, 202, .inl (fun _ => 0))), (q2, .inl ((kG K).2.2.1, 202, .inl (fun _ => 0)))]) 0 S hi rfl rfl gi_X5 tyX5_ok nmX5 (by decide) lf_X5_15 rfl rfl (by decide +kernel) rfl rfl (Nat.le_of_ble_eq_true rfl) rfl dX5_init_19 ?_
  exact w_ret rt (q1, q2) trivial rfl (Nat.le_of_ble_eq_true rfl) (Nat.le_of_ble_eq_true rfl) dX5_init_22
theorem dX6_init_0 : decode cX6_init 0 = .ok (.aload_n 0, 1) := by decide +kernel
theorem dX6_init_1 : decode cX6_init 1 = .ok (.invokespecial 3, 3) := by decide +kernel
theorem dX6_init_4 : decode cX6_init 4 = .ok (.aload_n 0, 1) := by decide +kernel
theorem dX6_init_5 : decode cX6_init 5 = .ok (.sipush 200, 3) := by decide +kernel
theorem dX6_init_8 : decode cX6_init 8 = .ok (.newarray .int, 2) := by decide +kernel
theorem dX6_init_10 : decode cX6_init 10 = .ok (.putfield 9, 3) := by decide +kernel
theorem dX6_init_13 : decode cX6_init 13 = .ok (.aload_n 0, 1) := by decide +kernel
theorem dX6_init_14 : decode cX6_init 14 = .ok (.iconst 0, 1) := by decide +kernel
theorem dX6_init_15 : decode cX6_init 15 = .ok (.putfield 15, 3) := by decide +kernel
theorem dX6_init_18 : decode cX6_init 18 = .ok (.return_, 1) := by decide +kernel
theorem c_X6_init {l : Launch} {G : GG} {r : va_W} {h : Nat} : CtR (T := Nat) l G yX6_init cX6_init 1 (rmC 1 1 200) [.ref h] (r ++ [(h, .inr (6, [.null, .int 0]))]) (fun _ => True) (fun u => r ++ [(h, .inr (6, [.ref u, .int 0])), (u, .inl (G.2.2.1, 200, .inl (fun _ => 0)))]) 1 200 := by
  refine ct_R (by decide) rfl (own := RX6) (Nat.le_of_ble_eq_true rfl) (fun K hl hg S hi rt => ?_)
  subst hl; subst hg
  show GoW K 0 0 1 (r ++ [(h, .inr (6, [.null, .int 0]))]) 0 [(0, .ref h)] []
  refine w_aload_n 0 S dX6_init_0 rfl ?_
  refine w_objInit S lo_X6_3 (by decide) (Nat.le_of_ble_eq_true rfl) dX6_init_1 ?_
  refine w_aload_n 0 S dX6_init_4 rfl ?_
  refine w_sipush (v := 200) S dX6_init_5 rfl ?_
  refine w_newI (N := 200) S ac_I (by decide) (by decide) (by decide) (Nat.le_of_ble_eq_true rfl) (Nat.le_of_ble_eq_true rfl) dX6_init_8 (fun q1 => ?_)
  refine GoW.wd (ws' := r ++ [(h, .inr (6, [.null, .int 0])), (q1, .inl ((kG K).2.2.1, 200, .inl (fun _ => 0)))]) rfl ?_
  refine w_putF (ty := .array .int) (l' := [(h, .inr (6, [.ref q1, .int 0])), (q1, .inl ((kG K).2.2.1, 200, .inl (fun _ => 0)))]) 0 S hi rfl rfl gi_X6 tyX6_ok nmX6 (by decide) lf_X6_9 rfl rfl (by decide +kernel) rfl rfl (Nat.le_of_ble_eq_true rfl) rfl dX6_init_10 ?_
  refine w_aload_n 0 S dX6_init_13 rfl ?_
  refine w_iconst (v := 0) S dX6_init_14 rfl ?_
  refine w_put (ty := .int) (l' := [(h, .inr (6, [.ref q1, .int 0])), (q1, .inl ((kG K).2.2.1, 200, .inl (fun _ => 0)))]) 0 S rfl rfl gi_X6 tyX6_ok nmX6 (by decide) lf_X6_15 rfl (by decide +kernel) rfl rfl (Nat.le_of_ble_eq_true rfl) rfl dX6_init_15 ?_
  exact w_ret rt q1 trivial rfl (Nat.le_of_ble_eq_true rfl) (Nat.le_of_ble_eq_true rfl) dX6_init_18
