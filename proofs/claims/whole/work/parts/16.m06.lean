-- BridleBook.turn(III)I
theorem dX7_turn_0 : decode cX7_turn 0 = .ok (.aload_n 0, 1) := by decide +kernel
theorem dX7_turn_1 : decode cX7_turn 1 = .ok (.iload_n 1, 1) := by decide +kernel
theorem dX7_turn_2 : decode cX7_turn 2 = .ok (.iload_n 2, 1) := by decide +kernel
theorem dX7_turn_3 : decode cX7_turn 3 = .ok (.invokevirtual 238, 3) := by decide +kernel
theorem dX7_turn_6 : decode cX7_turn 6 = .ok (.ifCond .eq 13, 3) := by decide +kernel
theorem dX7_turn_9 : decode cX7_turn 9 = .ok (.iload_n 3, 1) := by decide +kernel
theorem dX7_turn_10 : decode cX7_turn 10 = .ok (.iconst 1, 1) := by decide +kernel
theorem dX7_turn_11 : decode cX7_turn 11 = .ok (.if_icmp .eq 10, 3) := by decide +kernel
theorem dX7_turn_14 : decode cX7_turn 14 = .ok (.iload_n 3, 1) := by decide +kernel
theorem dX7_turn_15 : decode cX7_turn 15 = .ok (.iconst (-1), 1) := by decide +kernel
theorem dX7_turn_16 : decode cX7_turn 16 = .ok (.if_icmp .eq 5, 3) := by decide +kernel
theorem dX7_turn_19 : decode cX7_turn 19 = .ok (.iconst (-1), 1) := by decide +kernel
theorem dX7_turn_20 : decode cX7_turn 20 = .ok (.ireturn, 1) := by decide +kernel
theorem dX7_turn_21 : decode cX7_turn 21 = .ok (.aload_n 0, 1) := by decide +kernel
theorem dX7_turn_22 : decode cX7_turn 22 = .ok (.getfield 84, 3) := by decide +kernel
theorem dX7_turn_25 : decode cX7_turn 25 = .ok (.iload_n 1, 1) := by decide +kernel
theorem dX7_turn_26 : decode cX7_turn 26 = .ok (.iload_n 2, 1) := by decide +kernel
theorem dX7_turn_27 : decode cX7_turn 27 = .ok (.iload_n 3, 1) := by decide +kernel
theorem dX7_turn_28 : decode cX7_turn 28 = .ok (.invokestatic 242, 3) := by decide +kernel
theorem dX7_turn_31 : decode cX7_turn 31 = .ok (.invokevirtual 245, 3) := by decide +kernel
theorem dX7_turn_34 : decode cX7_turn 34 = .ok (.ifCond .eq 13, 3) := by decide +kernel
theorem dX7_turn_37 : decode cX7_turn 37 = .ok (.aload_n 0, 1) := by decide +kernel
theorem dX7_turn_38 : decode cX7_turn 38 = .ok (.getfield 84, 3) := by decide +kernel
theorem dX7_turn_41 : decode cX7_turn 41 = .ok (.getfield 248, 3) := by decide +kernel
theorem dX7_turn_44 : decode cX7_turn 44 = .ok (.goto 5, 3) := by decide +kernel
theorem dX7_turn_47 : decode cX7_turn 47 = .ok (.bipush (-3), 2) := by decide +kernel
theorem dX7_turn_49 : decode cX7_turn 49 = .ok (.ireturn, 1) := by decide +kernel
def f_X7_turn_21 (z : Nat → Nat) (M : Mem) (x1 : Int32) (x2 : Int32) (x3 : Int32) : Option (Int32 × Mem) := bd1 (f_X6_codeOf z M x1 x2 x3) (fun r2 => bd2 (f_X6_push z M r2) (fun r3 M4 => if r3 = true then some ((M4 67 1), M4) else some ((-3), M4)))
theorem t_X7_turn_21 {K : KK} {a : AA} (S : Sx K RX7 cX7_turn 4 (rmD 3)) {r : Int32} {M' : Mem} (rt : RtI K a cX7_turn r M') (M : Mem) (x1 : Int32) (x2 : Int32) (x3 : Int32) (hf : f_X7_turn_21 a.1 M x1 x2 x3 = some (r, M')) : Go K 4 a M 21 [(0, .ref (a.2 50)), (1, .int x1), (2, .int x2), (3, .int x3)] [] := by
  unfold f_X7_turn_21 at hf
  refine g_aload_n 0 S dX7_turn_21 rfl ?_
  refine g_get (v := .ref (a.2 67)) S ob_50 rfl gi_X7 (by decide) lf_X7_84 rfl dX7_turn_22 ?_
  refine g_iload_n 1 S dX7_turn_25 rfl ?_
  refine g_iload_n 2 S dX7_turn_26 rfl ?_
  refine g_iload_n 3 S dX7_turn_27 rfl ?_
  obtain ⟨r2, hr2, hf⟩ := bd1_some hf
  refine g_cSI (st := [.ref (a.2 67)]) S ok_X6_codeOf lk_X7_242 (c_X6_codeOf hr2) rfl rfl ⟨by decide, by decide⟩ (rmD_z _) (Nat.le_of_ble_eq_true rfl) dX7_turn_28 ?_
  obtain ⟨r3, M4, hr3, hf⟩ := bd2_some hf
  refine g_cVI (st := []) S ob_67 rfl ok_X6_push lk_X7_245 (c_X6_push hr3) rfl rfl ⟨by decide, by decide⟩ (rmD_z _) (Nat.le_of_ble_eq_true rfl) dX7_turn_31 ?_
  refine g_if_eqB (tgt := 47) S dX7_turn_34 (by decide) hf (fun c hf => ?_) (fun c hf => ?_)
  · refine g_aload_n 0 S dX7_turn_37 rfl ?_
    refine g_get (v := .ref (a.2 67)) S ob_50 rfl gi_X7 (by decide) lf_X7_84 rfl dX7_turn_38 ?_
    refine g_get (v := .int (M4 67 1)) S ob_67 rfl gi_X6 (by decide) lf_X7_248 rfl dX7_turn_41 ?_
    refine g_goto (tgt := 49) S dX7_turn_44 (by decide) ?_
    exact g_iretM rt hf dX7_turn_49
  · refine g_bipush (v := (-3)) S dX7_turn_47 rfl ?_
    exact g_iretM rt hf dX7_turn_49
def f_X7_turn (z : Nat → Nat) (M : Mem) (p1 : Int32) (p2 : Int32) (p3 : Int32) : Option (Int32 × Mem) := bd1 (f_X7_areTwoLines z M p1 p2) (fun r1 => if r1 = true then if p3 = 1 then f_X7_turn_21 z M p1 p2 p3 else if p3 = (-1) then f_X7_turn_21 z M p1 p2 p3 else some ((-1), M) else some ((-1), M))
theorem c_X7_turn {l : Launch} {G : GG} {a : AA} {M : Mem} {p1 : Int32} {p2 : Int32} {p3 : Int32} {r : Int32} {M' : Mem} (hf : f_X7_turn a.1 M p1 p2 p3 = some (r, M')) : CtI l G a yX7_turn cX7_turn 4 .int (rmD 3) [.ref (a.2 50), .int p1, .int p2, .int p3] M r M' := by
  refine ct_I (by decide) rfl rfl (own := RX7) (Nat.le_of_ble_eq_true rfl) (fun K hl hg S rt => ?_)
  subst hl; subst hg
  unfold f_X7_turn at hf
  show Go K 4 a M 0 [(0, .ref (a.2 50)), (1, .int p1), (2, .int p2), (3, .int p3)] []
  refine g_aload_n 0 S dX7_turn_0 rfl ?_
  refine g_iload_n 1 S dX7_turn_1 rfl ?_
  refine g_iload_n 2 S dX7_turn_2 rfl ?_
  obtain ⟨r1, hr1, hf⟩ := bd1_some hf
  refine g_cVI (st := []) S ob_50 rfl ok_X7_areTwoLines lk_X7_238 (c_X7_areTwoLines hr1) rfl rfl ⟨by decide, by decide⟩ (rmD_z _) (Nat.le_of_ble_eq_true rfl) dX7_turn_3 ?_
  refine g_if_eqB (tgt := 19) S dX7_turn_6 (by decide) hf (fun c hf => ?_) (fun c hf => ?_)
  · refine g_iload_n 3 S dX7_turn_9 rfl ?_
    refine g_iconst (v := 1) S dX7_turn_10 rfl ?_
    refine g_icmp_eq (tgt := 21) S dX7_turn_11 (by decide) hf (fun c hf => ?_) (fun c hf => ?_)
    · exact t_X7_turn_21  S rt _ _ _ _ hf
    · refine g_iload_n 3 S dX7_turn_14 rfl ?_
      refine g_iconst (v := (-1)) S dX7_turn_15 rfl ?_
      refine g_icmp_eq (tgt := 21) S dX7_turn_16 (by decide) hf (fun c hf => ?_) (fun c hf => ?_)
      · exact t_X7_turn_21  S rt _ _ _ _ hf
      · refine g_iconst (v := (-1)) S dX7_turn_19 rfl ?_
        exact g_iretM rt hf dX7_turn_20
  · refine g_iconst (v := (-1)) S dX7_turn_19 rfl ?_
    exact g_iretM rt hf dX7_turn_20
-- BridleBook.tangled(II)I
theorem dX7_tangled_0 : decode cX7_tangled 0 = .ok (.aload_n 0, 1) := by decide +kernel
theorem dX7_tangled_1 : decode cX7_tangled 1 = .ok (.iload_n 1, 1) := by decide +kernel
theorem dX7_tangled_2 : decode cX7_tangled 2 = .ok (.iload_n 2, 1) := by decide +kernel
theorem dX7_tangled_3 : decode cX7_tangled 3 = .ok (.invokevirtual 238, 3) := by decide +kernel
theorem dX7_tangled_6 : decode cX7_tangled 6 = .ok (.ifCond .eq 15, 3) := by decide +kernel
theorem dX7_tangled_9 : decode cX7_tangled 9 = .ok (.aload_n 0, 1) := by decide +kernel
theorem dX7_tangled_10 : decode cX7_tangled 10 = .ok (.getfield 84, 3) := by decide +kernel
theorem dX7_tangled_13 : decode cX7_tangled 13 = .ok (.iload_n 1, 1) := by decide +kernel
theorem dX7_tangled_14 : decode cX7_tangled 14 = .ok (.iload_n 2, 1) := by decide +kernel
theorem dX7_tangled_15 : decode cX7_tangled 15 = .ok (.invokevirtual 251, 3) := by decide +kernel
theorem dX7_tangled_18 : decode cX7_tangled 18 = .ok (.goto 4, 3) := by decide +kernel
theorem dX7_tangled_21 : decode cX7_tangled 21 = .ok (.iconst (-1), 1) := by decide +kernel
theorem dX7_tangled_22 : decode cX7_tangled 22 = .ok (.ireturn, 1) := by decide +kernel
def f_X7_tangled (z : Nat → Nat) (M : Mem) (p1 : Int32) (p2 : Int32) : Option Int32 := bd1 (f_X7_areTwoLines z M p1 p2) (fun r1 => if r1 = true then bd1 (f_X6_turnsOf z M p1 p2) (fun r2 => some r2) else some (-1))
theorem c_X7_tangled {l : Launch} {G : GG} {a : AA} {M : Mem} {p1 : Int32} {p2 : Int32} {r : Int32} (hf : f_X7_tangled a.1 M p1 p2 = some r) : CtI l G a yX7_tangled cX7_tangled 3 .int (rmD 3) [.ref (a.2 50), .int p1, .int p2] M r M := by
  refine ct_I (by decide) rfl rfl (own := RX7) (Nat.le_of_ble_eq_true rfl) (fun K hl hg S rt => ?_)
  subst hl; subst hg
  unfold f_X7_tangled at hf
  show Go K 3 a M 0 [(0, .ref (a.2 50)), (1, .int p1), (2, .int p2)] []
  refine g_aload_n 0 S dX7_tangled_0 rfl ?_
  refine g_iload_n 1 S dX7_tangled_1 rfl ?_
  refine g_iload_n 2 S dX7_tangled_2 rfl ?_
  obtain ⟨r1, hr1, hf⟩ := bd1_some hf
  refine g_cVI (st := []) S ob_50 rfl ok_X7_areTwoLines lk_X7_238 (c_X7_areTwoLines hr1) rfl rfl ⟨by decide, by decide⟩ (rmD_z _) (Nat.le_of_ble_eq_true rfl) dX7_tangled_3 ?_
  refine g_if_eqB (tgt := 21) S dX7_tangled_6 (by decide) hf (fun c hf => ?_) (fun c hf => ?_)
  · refine g_aload_n 0 S dX7_tangled_9 rfl ?_
    refine g_get (v := .ref (a.2 67)) S ob_50 rfl gi_X7 (by decide) lf_X7_84 rfl dX7_tangled_10 ?_
    refine g_iload_n 1 S dX7_tangled_13 rfl ?_
    refine g_iload_n 2 S dX7_tangled_14 rfl ?_
    obtain ⟨r2, hr2, hf⟩ := bd1_some hf
    refine g_cVI (st := []) S ob_67 rfl ok_X6_turnsOf lk_X7_251 (c_X6_turnsOf hr2) rfl rfl ⟨by decide, by decide⟩ (rmD_z _) (Nat.le_of_ble_eq_true rfl) dX7_tangled_15 ?_
    refine g_goto (tgt := 22) S dX7_tangled_18 (by decide) ?_
    exact g_iretP rt hf dX7_tangled_22
  · refine g_iconst (v := (-1)) S dX7_tangled_21 rfl ?_
    exact g_iretP rt hf dX7_tangled_22
-- BridleBook.undo(I)I
theorem dX7_undo_0 : decode cX7_undo 0 = .ok (.aload_n 0, 1) := by decide +kernel
theorem dX7_undo_1 : decode cX7_undo 1 = .ok (.iload_n 1, 1) := by decide +kernel
theorem dX7_undo_2 : decode cX7_undo 2 = .ok (.invokevirtual 150, 3) := by decide +kernel
theorem dX7_undo_5 : decode cX7_undo 5 = .ok (.ifnonnull 7, 3) := by decide +kernel
theorem dX7_undo_8 : decode cX7_undo 8 = .ok (.iconst (-1), 1) := by decide +kernel
theorem dX7_undo_9 : decode cX7_undo 9 = .ok (.goto 11, 3) := by decide +kernel
theorem dX7_undo_12 : decode cX7_undo 12 = .ok (.aload_n 0, 1) := by decide +kernel
theorem dX7_undo_13 : decode cX7_undo 13 = .ok (.getfield 84, 3) := by decide +kernel
theorem dX7_undo_16 : decode cX7_undo 16 = .ok (.iload_n 1, 1) := by decide +kernel
theorem dX7_undo_17 : decode cX7_undo 17 = .ok (.invokevirtual 254, 3) := by decide +kernel
theorem dX7_undo_20 : decode cX7_undo 20 = .ok (.ireturn, 1) := by decide +kernel
def f_X7_undo (z : Nat → Nat) (M : Mem) (p1 : Int32) : Option Int32 := bd1 (f_X7_lineAt z M p1) (fun r1 => mq r1 (some (-1)) (fun n2 => bd1 (f_X6_undoneFor z M p1) (fun r3 => some r3)))
theorem c_X7_undo {l : Launch} {G : GG} {a : AA} {M : Mem} {p1 : Int32} {r : Int32} (hf : f_X7_undo a.1 M p1 = some r) : CtI l G a yX7_undo cX7_undo 2 .int (rmD 3) [.ref (a.2 50), .int p1] M r M := by
  refine ct_I (by decide) rfl rfl (own := RX7) (Nat.le_of_ble_eq_true rfl) (fun K hl hg S rt => ?_)
  subst hl; subst hg
  unfold f_X7_undo at hf
  show Go K 2 a M 0 [(0, .ref (a.2 50)), (1, .int p1)] []
  refine g_aload_n 0 S dX7_undo_0 rfl ?_
  refine g_iload_n 1 S dX7_undo_1 rfl ?_
  obtain ⟨r1, hr1, hf⟩ := bd1_some hf
  refine g_cVQ (st := []) S ob_50 rfl ok_X7_lineAt lk_X7_150 (c_X7_lineAt hr1) rfl rfl ⟨by decide, by decide⟩ (rmD_z _) (Nat.le_of_ble_eq_true rfl) dX7_undo_2 ?_
  rcases r1 with _ | n2
  · have hf := mq_n hf
    refine Go.st (st' := [.null]) rfl ?_
    refine g_ifnonnullN S dX7_undo_5 ?_
    refine g_iconst (v := (-1)) S dX7_undo_8 rfl ?_
    refine g_goto (tgt := 20) S dX7_undo_9 (by decide) ?_
    exact g_iretP rt hf dX7_undo_20
  · have hn2 := vd_X7_lineAt hr1
    have hf := mq_s hf
    refine Go.st (st' := [.ref (a.2 n2)]) rfl ?_
    refine g_ifnonnull (tgt := 12) S dX7_undo_5 (by decide) ?_
    refine g_aload_n 0 S dX7_undo_12 rfl ?_
    refine g_get (v := .ref (a.2 67)) S ob_50 rfl gi_X7 (by decide) lf_X7_84 rfl dX7_undo_13 ?_
    refine g_iload_n 1 S dX7_undo_16 rfl ?_
    obtain ⟨r3, hr3, hf⟩ := bd1_some hf
    refine g_cVI (st := []) S ob_67 rfl ok_X6_undoneFor lk_X7_254 (c_X6_undoneFor hr3) rfl rfl ⟨by decide, by decide⟩ (rmD_z _) (Nat.le_of_ble_eq_true rfl) dX7_undo_17 ?_
    exact g_iretP rt hf dX7_undo_20
-- BridleBook.unwind(I)I
theorem dX7_unwind_0 : decode cX7_unwind 0 = .ok (.iload_n 1, 1) := by decide +kernel
theorem dX7_unwind_1 : decode cX7_unwind 1 = .ok (.iconst 1, 1) := by decide +kernel
theorem dX7_unwind_2 : decode cX7_unwind 2 = .ok (.aload_n 0, 1) := by decide +kernel
theorem dX7_unwind_3 : decode cX7_unwind 3 = .ok (.getfield 84, 3) := by decide +kernel
theorem dX7_unwind_6 : decode cX7_unwind 6 = .ok (.getfield 248, 3) := by decide +kernel
theorem dX7_unwind_9 : decode cX7_unwind 9 = .ok (.invokestatic 99, 3) := by decide +kernel
theorem dX7_unwind_12 : decode cX7_unwind 12 = .ok (.ifCond .ne 5, 3) := by decide +kernel
theorem dX7_unwind_15 : decode cX7_unwind 15 = .ok (.iconst (-1), 1) := by decide +kernel
theorem dX7_unwind_16 : decode cX7_unwind 16 = .ok (.ireturn, 1) := by decide +kernel
theorem dX7_unwind_17 : decode cX7_unwind 17 = .ok (.aload_n 0, 1) := by decide +kernel
theorem dX7_unwind_18 : decode cX7_unwind 18 = .ok (.getfield 84, 3) := by decide +kernel
theorem dX7_unwind_21 : decode cX7_unwind 21 = .ok (.dup, 1) := by decide +kernel
theorem dX7_unwind_22 : decode cX7_unwind 22 = .ok (.getfield 248, 3) := by decide +kernel
theorem dX7_unwind_25 : decode cX7_unwind 25 = .ok (.iload_n 1, 1) := by decide +kernel
theorem dX7_unwind_26 : decode cX7_unwind 26 = .ok (.isub, 1) := by decide +kernel
theorem dX7_unwind_27 : decode cX7_unwind 27 = .ok (.putfield 248, 3) := by decide +kernel
theorem dX7_unwind_30 : decode cX7_unwind 30 = .ok (.aload_n 0, 1) := by decide +kernel
theorem dX7_unwind_31 : decode cX7_unwind 31 = .ok (.getfield 84, 3) := by decide +kernel
theorem dX7_unwind_34 : decode cX7_unwind 34 = .ok (.getfield 248, 3) := by decide +kernel
theorem dX7_unwind_37 : decode cX7_unwind 37 = .ok (.ireturn, 1) := by decide +kernel
def f_X7_unwind (z : Nat → Nat) (M : Mem) (p1 : Int32) : Option (Int32 × Mem) := bd1 (f_X7_within z M p1 1 (M 67 1)) (fun r1 => if r1 = true then some (((mu M 67 1 ((M 67 1) - p1)) 67 1), (mu M 67 1 ((M 67 1) - p1))) else some ((-1), M))
theorem c_X7_unwind {l : Launch} {G : GG} {a : AA} {M : Mem} {p1 : Int32} {r : Int32} {M' : Mem} (hf : f_X7_unwind a.1 M p1 = some (r, M')) : CtI l G a yX7_unwind cX7_unwind 2 .int (rmD 1) [.ref (a.2 50), .int p1] M r M' := by
  refine ct_I (by decide) rfl rfl (own := RX7) (Nat.le_of_ble_eq_true rfl) (fun K hl hg S rt => ?_)
  subst hl; subst hg
  unfold f_X7_unwind at hf
  show Go K 2 a M 0 [(0, .ref (a.2 50)), (1, .int p1)] []
  refine g_iload_n 1 S dX7_unwind_0 rfl ?_
  refine g_iconst (v := 1) S dX7_unwind_1 rfl ?_
  refine g_aload_n 0 S dX7_unwind_2 rfl ?_
  refine g_get (v := .ref (a.2 67)) S ob_50 rfl gi_X7 (by decide) lf_X7_84 rfl dX7_unwind_3 ?_
  refine g_get (v := .int (M 67 1)) S ob_67 rfl gi_X6 (by decide) lf_X7_248 rfl dX7_unwind_6 ?_
  obtain ⟨r1, hr1, hf⟩ := bd1_some hf
  refine g_cSI (st := []) S ok_X7_within lk_X7_99 (c_X7_within hr1) rfl rfl ⟨by decide, by decide⟩ (rmD_z _) (Nat.le_of_ble_eq_true rfl) dX7_unwind_9 ?_
  refine g_if_neB (tgt := 17) S dX7_unwind_12 (by decide) hf (fun c hf => ?_) (fun c hf => ?_)
  · refine g_aload_n 0 S dX7_unwind_17 rfl ?_
    refine g_get (v := .ref (a.2 67)) S ob_50 rfl gi_X7 (by decide) lf_X7_84 rfl dX7_unwind_18 ?_
    refine g_dup S dX7_unwind_21 rfl ?_
    refine g_get (v := .int (M 67 1)) S ob_67 rfl gi_X6 (by decide) lf_X7_248 rfl dX7_unwind_22 ?_
    refine g_iload_n 1 S dX7_unwind_25 rfl ?_
    refine g_isub S dX7_unwind_26 ?_
    refine g_put (ty := .int) S ob_67 rfl gi_X6 tyX6_ok nmX6 (by decide) lf_X7_248 rfl (by decide +kernel) rfl rfl (Nat.le_of_ble_eq_true rfl) rfl dX7_unwind_27 ?_
    refine g_aload_n 0 S dX7_unwind_30 rfl ?_
    refine g_get (v := .ref (a.2 67)) S ob_50 rfl gi_X7 (by decide) lf_X7_84 rfl dX7_unwind_31 ?_
    refine g_get (v := .int ((mu M 67 1 ((M 67 1) - p1)) 67 1)) S ob_67 rfl gi_X6 (by decide) lf_X7_248 rfl dX7_unwind_34 ?_
    exact g_iretM rt hf dX7_unwind_37
  · refine g_iconst (v := (-1)) S dX7_unwind_15 rfl ?_
    exact g_iretM rt hf dX7_unwind_16
-- BridleBook.cut(III)I
theorem dX7_cut_0 : decode cX7_cut 0 = .ok (.aload_n 0, 1) := by decide +kernel
theorem dX7_cut_1 : decode cX7_cut 1 = .ok (.iload_n 2, 1) := by decide +kernel
theorem dX7_cut_2 : decode cX7_cut 2 = .ok (.invokevirtual 150, 3) := by decide +kernel
theorem dX7_cut_5 : decode cX7_cut 5 = .ok (.astore 4, 2) := by decide +kernel
theorem dX7_cut_7 : decode cX7_cut 7 = .ok (.aload 4, 2) := by decide +kernel
theorem dX7_cut_9 : decode cX7_cut 9 = .ok (.ifnull 25, 3) := by decide +kernel
theorem dX7_cut_12 : decode cX7_cut 12 = .ok (.aload_n 0, 1) := by decide +kernel
theorem dX7_cut_13 : decode cX7_cut 13 = .ok (.iload_n 1, 1) := by decide +kernel
theorem dX7_cut_14 : decode cX7_cut 14 = .ok (.iload_n 2, 1) := by decide +kernel
theorem dX7_cut_15 : decode cX7_cut 15 = .ok (.invokevirtual 238, 3) := by decide +kernel
theorem dX7_cut_18 : decode cX7_cut 18 = .ok (.ifCond .eq 16, 3) := by decide +kernel
theorem dX7_cut_21 : decode cX7_cut 21 = .ok (.iload_n 3, 1) := by decide +kernel
theorem dX7_cut_22 : decode cX7_cut 22 = .ok (.iconst 1, 1) := by decide +kernel
theorem dX7_cut_23 : decode cX7_cut 23 = .ok (.aload 4, 2) := by decide +kernel
theorem dX7_cut_25 : decode cX7_cut 25 = .ok (.getfield 154, 3) := by decide +kernel
theorem dX7_cut_28 : decode cX7_cut 28 = .ok (.invokestatic 99, 3) := by decide +kernel
theorem dX7_cut_31 : decode cX7_cut 31 = .ok (.ifCond .ne 5, 3) := by decide +kernel
theorem dX7_cut_34 : decode cX7_cut 34 = .ok (.iconst (-1), 1) := by decide +kernel
theorem dX7_cut_35 : decode cX7_cut 35 = .ok (.ireturn, 1) := by decide +kernel
theorem dX7_cut_36 : decode cX7_cut 36 = .ok (.aload_n 0, 1) := by decide +kernel
theorem dX7_cut_37 : decode cX7_cut 37 = .ok (.getfield 84, 3) := by decide +kernel
theorem dX7_cut_40 : decode cX7_cut 40 = .ok (.iload_n 1, 1) := by decide +kernel
theorem dX7_cut_41 : decode cX7_cut 41 = .ok (.iload_n 2, 1) := by decide +kernel
theorem dX7_cut_42 : decode cX7_cut 42 = .ok (.invokevirtual 251, 3) := by decide +kernel
theorem dX7_cut_45 : decode cX7_cut 45 = .ok (.ifCond .ne 6, 3) := by decide +kernel
theorem dX7_cut_48 : decode cX7_cut 48 = .ok (.bipush (-2), 2) := by decide +kernel
theorem dX7_cut_50 : decode cX7_cut 50 = .ok (.ireturn, 1) := by decide +kernel
theorem dX7_cut_51 : decode cX7_cut 51 = .ok (.aload_n 0, 1) := by decide +kernel
theorem dX7_cut_52 : decode cX7_cut 52 = .ok (.iload_n 2, 1) := by decide +kernel
theorem dX7_cut_53 : decode cX7_cut 53 = .ok (.aload 4, 2) := by decide +kernel
theorem dX7_cut_55 : decode cX7_cut 55 = .ok (.iload_n 3, 1) := by decide +kernel
theorem dX7_cut_56 : decode cX7_cut 56 = .ok (.invokevirtual 205, 3) := by decide +kernel
theorem dX7_cut_59 : decode cX7_cut 59 = .ok (.aload_n 0, 1) := by decide +kernel
theorem dX7_cut_60 : decode cX7_cut 60 = .ok (.getfield 84, 3) := by decide +kernel
theorem dX7_cut_63 : decode cX7_cut 63 = .ok (.iload_n 2, 1) := by decide +kernel
theorem dX7_cut_64 : decode cX7_cut 64 = .ok (.invokevirtual 257, 3) := by decide +kernel
theorem dX7_cut_67 : decode cX7_cut 67 = .ok (.aload_n 0, 1) := by decide +kernel
theorem dX7_cut_68 : decode cX7_cut 68 = .ok (.getfield 84, 3) := by decide +kernel
theorem dX7_cut_71 : decode cX7_cut 71 = .ok (.getfield 248, 3) := by decide +kernel
theorem dX7_cut_74 : decode cX7_cut 74 = .ok (.ireturn, 1) := by decide +kernel
def f_X7_cut (z : Nat → Nat) (M : Mem) (p1 : Int32) (p2 : Int32) (p3 : Int32) : Option (Int32 × Mem) := bd1 (f_X7_lineAt z M p2) (fun r1 => mq r1 (some ((-1), M)) (fun n2 => bd1 (f_X7_areTwoLines z M p1 p2) (fun r3 => if r3 = true then bd1 (f_X7_within z M p3 1 (M n2 0)) (fun r4 => if r4 = true then bd1 (f_X6_turnsOf z M p1 p2) (fun r5 => if r5 = 0 then some ((-2), M) else bd1 (f_X7_sever z n2 M p2 p3) (fun M6 => bd1 (f_X6_dropLine z M6 p2) (fun M7 => some ((M7 67 1), M7)))) else some ((-1), M)) else some ((-1), M))))
theorem c_X7_cut {l : Launch} {G : GG} {a : AA} {M : Mem} {p1 : Int32} {p2 : Int32} {p3 : Int32} {r : Int32} {M' : Mem} (hf : f_X7_cut a.1 M p1 p2 p3 = some (r, M')) : CtI l G a yX7_cut cX7_cut 5 .int (rmD 3) [.ref (a.2 50), .int p1, .int p2, .int p3] M r M' := by
  refine ct_I (by decide) rfl rfl (own := RX7) (Nat.le_of_ble_eq_true rfl) (fun K hl hg S rt => ?_)
  subst hl; subst hg
  unfold f_X7_cut at hf
  show Go K 5 a M 0 [(0, .ref (a.2 50)), (1, .int p1), (2, .int p2), (3, .int p3)] []
  refine g_aload_n 0 S dX7_cut_0 rfl ?_
  refine g_iload_n 2 S dX7_cut_1 rfl ?_
  obtain ⟨r1, hr1, hf⟩ := bd1_some hf
  refine g_cVQ (st := []) S ob_50 rfl ok_X7_lineAt lk_X7_150 (c_X7_lineAt hr1) rfl rfl ⟨by decide, by decide⟩ (rmD_z _) (Nat.le_of_ble_eq_true rfl) dX7_cut_2 ?_
  rcases r1 with _ | n2
  · have hf := mq_n hf
    refine Go.st (st' := [.null]) rfl ?_
    refine g_astoreN (lv' := [(4, .null), (0, .ref (a.2 50)), (1, .int p1), (2, .int p2), (3, .int p3)]) S dX7_cut_5 (by decide) rfl ?_
    refine g_aloadN 0 S dX7_cut_7 rfl ?_
    refine g_ifnullN (tgt := 34) S dX7_cut_9 (by decide) ?_
    refine g_iconst (v := (-1)) S dX7_cut_34 rfl ?_
    exact g_iretM rt hf dX7_cut_35
  · have hn2 := vd_X7_lineAt hr1
    have hf := mq_s hf
    refine Go.st (st' := [.ref (a.2 n2)]) rfl ?_
    refine g_astore (lv' := [(4, .ref (a.2 n2)), (0, .ref (a.2 50)), (1, .int p1), (2, .int p2), (3, .int p3)]) S dX7_cut_5 (by decide) rfl ?_
    refine g_aload 0 S dX7_cut_7 rfl ?_
    refine g_ifnull S dX7_cut_9 ?_
    refine g_aload_n 1 S dX7_cut_12 rfl ?_
    refine g_iload_n 2 S dX7_cut_13 rfl ?_
    refine g_iload_n 3 S dX7_cut_14 rfl ?_
    obtain ⟨r3, hr3, hf⟩ := bd1_some hf
    refine g_cVI (st := []) S ob_50 rfl ok_X7_areTwoLines lk_X7_238 (c_X7_areTwoLines hr3) rfl rfl ⟨by decide, by decide⟩ (rmD_z _) (Nat.le_of_ble_eq_true rfl) dX7_cut_15 ?_
    refine g_if_eqB (tgt := 34) S dX7_cut_18 (by decide) hf (fun c hf => ?_) (fun c hf => ?_)
    · refine g_iload_n 4 S dX7_cut_21 rfl ?_
      refine g_iconst (v := 1) S dX7_cut_22 rfl ?_
      refine g_aload 0 S dX7_cut_23 rfl ?_
      refine g_get (v := .int (M n2 0)) S (ob_L hn2) rfl gi_X3 (by decide) lf_X7_154 rfl dX7_cut_25 ?_
      obtain ⟨r4, hr4, hf⟩ := bd1_some hf
      refine g_cSI (st := []) S ok_X7_within lk_X7_99 (c_X7_within hr4) rfl rfl ⟨by decide, by decide⟩ (rmD_z _) (Nat.le_of_ble_eq_true rfl) dX7_cut_28 ?_
      refine g_if_neB (tgt := 36) S dX7_cut_31 (by decide) hf (fun c hf => ?_) (fun c hf => ?_)
      · refine g_aload_n 1 S dX7_cut_36 rfl ?_
        refine g_get (v := .ref (a.2 67)) S ob_50 rfl gi_X7 (by decide) lf_X7_84 rfl dX7_cut_37 ?_
        refine g_iload_n 2 S dX7_cut_40 rfl ?_
        refine g_iload_n 3 S dX7_cut_41 rfl ?_
        obtain ⟨r5, hr5, hf⟩ := bd1_some hf
        refine g_cVI (st := []) S ob_67 rfl ok_X6_turnsOf lk_X7_251 (c_X6_turnsOf hr5) rfl rfl ⟨by decide, by decide⟩ (rmD_z _) (Nat.le_of_ble_eq_true rfl) dX7_cut_42 ?_
        refine g_if_ne (tgt := 51) S dX7_cut_45 (by decide) hf (fun c hf => ?_) (fun c hf => ?_)
        · refine g_bipush (v := (-2)) S dX7_cut_48 rfl ?_
          exact g_iretM rt hf dX7_cut_50
        · refine g_aload_n 1 S dX7_cut_51 rfl ?_
          refine g_iload_n 3 S dX7_cut_52 rfl ?_
          refine g_aload 0 S dX7_cut_53 rfl ?_
          refine g_iload_n 4 S dX7_cut_55 rfl ?_
          obtain ⟨M6, hM6, hf⟩ := bd1_some hf
          refine g_cVV (st := []) S ob_50 rfl ok_X7_sever lk_X7_205 (c_X7_sever hn2 hM6) rfl rfl ⟨by decide, by decide⟩ (rmD_z _) (Nat.le_of_ble_eq_true rfl) dX7_cut_56 ?_
          refine g_aload_n 1 S dX7_cut_59 rfl ?_
          refine g_get (v := .ref (a.2 67)) S ob_50 rfl gi_X7 (by decide) lf_X7_84 rfl dX7_cut_60 ?_
          refine g_iload_n 3 S dX7_cut_63 rfl ?_
          obtain ⟨M7, hM7, hf⟩ := bd1_some hf
          refine g_cVV (st := []) S ob_67 rfl ok_X6_dropLine lk_X7_257 (c_X6_dropLine hM7) rfl rfl ⟨by decide, by decide⟩ (rmD_z _) (Nat.le_of_ble_eq_true rfl) dX7_cut_64 ?_
          refine g_aload_n 1 S dX7_cut_67 rfl ?_
          refine g_get (v := .ref (a.2 67)) S ob_50 rfl gi_X7 (by decide) lf_X7_84 rfl dX7_cut_68 ?_
          refine g_get (v := .int (M7 67 1)) S ob_67 rfl gi_X6 (by decide) lf_X7_248 rfl dX7_cut_71 ?_
          exact g_iretM rt hf dX7_cut_74
      · refine g_iconst (v := (-1)) S dX7_cut_34 rfl ?_
        exact g_iretM rt hf dX7_cut_35
    · refine g_iconst (v := (-1)) S dX7_cut_34 rfl ?_
      exact g_iretM rt hf dX7_cut_35
-- BridleBook.countFlying()I
theorem dX7_countFlying_0 : decode cX7_countFlying 0 = .ok (.iconst 0, 1) := by decide +kernel
theorem dX7_countFlying_1 : decode cX7_countFlying 1 = .ok (.istore_n 1, 1) := by decide +kernel
theorem dX7_countFlying_2 : decode cX7_countFlying 2 = .ok (.iconst 0, 1) := by decide +kernel
theorem dX7_countFlying_3 : decode cX7_countFlying 3 = .ok (.istore_n 2, 1) := by decide +kernel
theorem dX7_countFlying_4 : decode cX7_countFlying 4 = .ok (.iload_n 2, 1) := by decide +kernel
theorem dX7_countFlying_5 : decode cX7_countFlying 5 = .ok (.aload_n 0, 1) := by decide +kernel
theorem dX7_countFlying_6 : decode cX7_countFlying 6 = .ok (.getfield 52, 3) := by decide +kernel
theorem dX7_countFlying_9 : decode cX7_countFlying 9 = .ok (.if_icmp .ge 29, 3) := by decide +kernel
theorem dX7_countFlying_12 : decode cX7_countFlying 12 = .ok (.aload_n 0, 1) := by decide +kernel
theorem dX7_countFlying_13 : decode cX7_countFlying 13 = .ok (.iload_n 2, 1) := by decide +kernel
theorem dX7_countFlying_14 : decode cX7_countFlying 14 = .ok (.invokevirtual 219, 3) := by decide +kernel
theorem dX7_countFlying_17 : decode cX7_countFlying 17 = .ok (.astore_n 3, 1) := by decide +kernel
theorem dX7_countFlying_18 : decode cX7_countFlying 18 = .ok (.aload_n 3, 1) := by decide +kernel
theorem dX7_countFlying_19 : decode cX7_countFlying 19 = .ok (.ifnull 13, 3) := by decide +kernel
theorem dX7_countFlying_22 : decode cX7_countFlying 22 = .ok (.aload_n 3, 1) := by decide +kernel
theorem dX7_countFlying_23 : decode cX7_countFlying 23 = .ok (.getfield 227, 3) := by decide +kernel
theorem dX7_countFlying_26 : decode cX7_countFlying 26 = .ok (.ifCond .eq 6, 3) := by decide +kernel
theorem dX7_countFlying_29 : decode cX7_countFlying 29 = .ok (.iinc 1 1, 3) := by decide +kernel
theorem dX7_countFlying_32 : decode cX7_countFlying 32 = .ok (.iinc 2 1, 3) := by decide +kernel
theorem dX7_countFlying_35 : decode cX7_countFlying 35 = .ok (.goto (-31), 3) := by decide +kernel
theorem dX7_countFlying_38 : decode cX7_countFlying 38 = .ok (.iload_n 1, 1) := by decide +kernel
theorem dX7_countFlying_39 : decode cX7_countFlying 39 = .ok (.ireturn, 1) := by decide +kernel
def f_X7_countFlying_4 (z : Nat → Nat) (M : Mem) : Nat → Int32 → Int32 → Option Int32
  | 0, _, _ => none
  | fu + 1, x1, x2 => if (M 50 8) ≤ x2 then some x1 else bd1 (f_X7_flyerAt z M x2) (fun r1 => mq r1 (f_X7_countFlying_4 z M fu x1 (x2 + 1)) (fun n2 => if (M n2 3) = 0 then f_X7_countFlying_4 z M fu x1 (x2 + 1) else f_X7_countFlying_4 z M fu (x1 + 1) (x2 + 1)))
theorem t_X7_countFlying_4 {K : KK} {a : AA} (S : Sx K RX7 cX7_countFlying 4 (rmD 2)) {r : Int32} {M : Mem} (rt : RtI K a cX7_countFlying r M) : ∀ (fu : Nat) (x1 : Int32) (x2 : Int32), f_X7_countFlying_4 a.1 M fu x1 x2 = some r → Go K 4 a M 4 [(0, .ref (a.2 50)), (1, .int x1), (2, .int x2)] [] := by
  intro fu
  induction fu with
  | zero => intro x1 x2 hf; exact absurd hf (by simp [f_X7_countFlying_4])
  | succ fu ih =>
    intro x1 x2 hf
    rw [f_X7_countFlying_4] at hf
    refine g_iload_n 2 S dX7_countFlying_4 rfl ?_
    refine g_aload_n 0 S dX7_countFlying_5 rfl ?_
    refine g_get (v := .int (M 50 8)) S ob_50 rfl gi_X7 (by decide) lf_X7_52 rfl dX7_countFlying_6 ?_
    refine g_icmp_ge (tgt := 38) S dX7_countFlying_9 (by decide) hf (fun c hf => ?_) (fun c hf => ?_)
    · refine g_iload_n 1 S dX7_countFlying_38 rfl ?_
      exact g_iretP rt hf dX7_countFlying_39
    · refine g_aload_n 0 S dX7_countFlying_12 rfl ?_
      refine g_iload_n 2 S dX7_countFlying_13 rfl ?_
      obtain ⟨r1, hr1, hf⟩ := bd1_some hf
      refine g_cVQ (st := []) S ob_50 rfl ok_X7_flyerAt lk_X7_219 (c_X7_flyerAt hr1) rfl rfl ⟨by decide, by decide⟩ (rmD_z _) (Nat.le_of_ble_eq_true rfl) dX7_countFlying_14 ?_
      rcases r1 with _ | n2
      · have hf := mq_n hf
        refine Go.st (st' := [.null]) rfl ?_
        refine g_astore_nN (lv' := [(3, .null), (0, .ref (a.2 50)), (1, .int x1), (2, .int x2)]) S dX7_countFlying_17 (by decide) rfl ?_
        refine g_aload_nN 0 S dX7_countFlying_18 rfl ?_
        refine g_ifnullN (tgt := 32) S dX7_countFlying_19 (by decide) ?_
        refine g_iinc (v := (x2 + 1)) (lv' := [(2, .int (x2 + 1)), (3, .null), (0, .ref (a.2 50)), (1, .int x1)]) 3 S dX7_countFlying_32 rfl rfl (by decide) rfl ?_
        refine g_goto (tgt := 4) S dX7_countFlying_35 (by decide) ?_
        refine Go.sub [2, 3, 0] rfl ?_
        exact ih _ _ hf
      · have hn2 := vd_X7_flyerAt hr1
        have hf := mq_s hf
        refine Go.st (st' := [.ref (a.2 n2)]) rfl ?_
        refine g_astore_n (lv' := [(3, .ref (a.2 n2)), (0, .ref (a.2 50)), (1, .int x1), (2, .int x2)]) S dX7_countFlying_17 (by decide) rfl ?_
        refine g_aload_n 0 S dX7_countFlying_18 rfl ?_
        refine g_ifnull S dX7_countFlying_19 ?_
        refine g_aload_n 0 S dX7_countFlying_22 rfl ?_
        refine g_get (v := .int (M n2 3)) S (ob_F hn2) rfl gi_X1 (by decide) lf_X7_227 rfl dX7_countFlying_23 ?_
        refine g_if_eq (tgt := 32) S dX7_countFlying_26 (by decide) hf (fun c hf => ?_) (fun c hf => ?_)
        · refine g_iinc (v := (x2 + 1)) (lv' := [(2, .int (x2 + 1)), (3, .ref (a.2 n2)), (0, .ref (a.2 50)), (1, .int x1)]) 3 S dX7_countFlying_32 rfl rfl (by decide) rfl ?_
          refine g_goto (tgt := 4) S dX7_countFlying_35 (by decide) ?_
          refine Go.sub [2, 3, 0] rfl ?_
          exact ih _ _ hf
        · refine g_iinc (v := (x1 + 1)) (lv' := [(1, .int (x1 + 1)), (3, .ref (a.2 n2)), (0, .ref (a.2 50)), (2, .int x2)]) 2 S dX7_countFlying_29 rfl rfl (by decide) rfl ?_
          refine g_iinc (v := (x2 + 1)) (lv' := [(2, .int (x2 + 1)), (1, .int (x1 + 1)), (3, .ref (a.2 n2)), (0, .ref (a.2 50))]) 3 S dX7_countFlying_32 rfl rfl (by decide) rfl ?_
          refine g_goto (tgt := 4) S dX7_countFlying_35 (by decide) ?_
          refine Go.sub [3, 1, 0] rfl ?_
          exact ih _ _ hf
def f_X7_countFlying (z : Nat → Nat) (M : Mem) : Option Int32 := f_X7_countFlying_4 z M 1000 0 0
theorem c_X7_countFlying {l : Launch} {G : GG} {a : AA} {M : Mem} {r : Int32} (hf : f_X7_countFlying a.1 M = some r) : CtI l G a yX7_countFlying cX7_countFlying 4 .int (rmD 2) [.ref (a.2 50)] M r M := by
  refine ct_I (by decide) rfl rfl (own := RX7) (Nat.le_of_ble_eq_true rfl) (fun K hl hg S rt => ?_)
  subst hl; subst hg
  unfold f_X7_countFlying at hf
  show Go K 4 a M 0 [(0, .ref (a.2 50))] []
  refine g_iconst (v := 0) S dX7_countFlying_0 rfl ?_
  refine g_istore_n (lv' := [(1, .int 0), (0, .ref (a.2 50))]) S dX7_countFlying_1 (by decide) rfl ?_
  refine g_iconst (v := 0) S dX7_countFlying_2 rfl ?_
  refine g_istore_n (lv' := [(2, .int 0), (1, .int 0), (0, .ref (a.2 50))]) S dX7_countFlying_3 (by decide) rfl ?_
  refine Go.sub [2, 1, 0] rfl ?_
  exact t_X7_countFlying_4  S rt 1000 _ _ hf
-- BridleBook.countTied()I
theorem dX7_countTied_0 : decode cX7_countTied 0 = .ok (.iconst 0, 1) := by decide +kernel
theorem dX7_countTied_1 : decode cX7_countTied 1 = .ok (.istore_n 1, 1) := by decide +kernel
theorem dX7_countTied_2 : decode cX7_countTied 2 = .ok (.iconst 0, 1) := by decide +kernel
theorem dX7_countTied_3 : decode cX7_countTied 3 = .ok (.istore_n 2, 1) := by decide +kernel
theorem dX7_countTied_4 : decode cX7_countTied 4 = .ok (.iload_n 2, 1) := by decide +kernel
theorem dX7_countTied_5 : decode cX7_countTied 5 = .ok (.aload_n 0, 1) := by decide +kernel
theorem dX7_countTied_6 : decode cX7_countTied 6 = .ok (.getfield 22, 3) := by decide +kernel
theorem dX7_countTied_9 : decode cX7_countTied 9 = .ok (.if_icmp .ge 30, 3) := by decide +kernel
theorem dX7_countTied_12 : decode cX7_countTied 12 = .ok (.aload_n 0, 1) := by decide +kernel
theorem dX7_countTied_13 : decode cX7_countTied 13 = .ok (.iload_n 2, 1) := by decide +kernel
theorem dX7_countTied_14 : decode cX7_countTied 14 = .ok (.invokevirtual 95, 3) := by decide +kernel
theorem dX7_countTied_17 : decode cX7_countTied 17 = .ok (.astore_n 3, 1) := by decide +kernel
theorem dX7_countTied_18 : decode cX7_countTied 18 = .ok (.aload_n 3, 1) := by decide +kernel
theorem dX7_countTied_19 : decode cX7_countTied 19 = .ok (.ifnull 14, 3) := by decide +kernel
theorem dX7_countTied_22 : decode cX7_countTied 22 = .ok (.aload_n 3, 1) := by decide +kernel
theorem dX7_countTied_23 : decode cX7_countTied 23 = .ok (.getfield 157, 3) := by decide +kernel
theorem dX7_countTied_26 : decode cX7_countTied 26 = .ok (.iconst (-1), 1) := by decide +kernel
theorem dX7_countTied_27 : decode cX7_countTied 27 = .ok (.if_icmp .eq 6, 3) := by decide +kernel
theorem dX7_countTied_30 : decode cX7_countTied 30 = .ok (.iinc 1 1, 3) := by decide +kernel
theorem dX7_countTied_33 : decode cX7_countTied 33 = .ok (.iinc 2 1, 3) := by decide +kernel
theorem dX7_countTied_36 : decode cX7_countTied 36 = .ok (.goto (-32), 3) := by decide +kernel
theorem dX7_countTied_39 : decode cX7_countTied 39 = .ok (.iload_n 1, 1) := by decide +kernel
theorem dX7_countTied_40 : decode cX7_countTied 40 = .ok (.ireturn, 1) := by decide +kernel
def f_X7_countTied_4 (z : Nat → Nat) (M : Mem) : Nat → Int32 → Int32 → Option Int32
  | 0, _, _ => none
  | fu + 1, x1, x2 => if (M 50 2) ≤ x2 then some x1 else bd1 (f_X7_kiteAt z M x2) (fun r1 => mq r1 (f_X7_countTied_4 z M fu x1 (x2 + 1)) (fun n2 => if (M n2 5) = (-1) then f_X7_countTied_4 z M fu x1 (x2 + 1) else f_X7_countTied_4 z M fu (x1 + 1) (x2 + 1)))
theorem t_X7_countTied_4 {K : KK} {a : AA} (S : Sx K RX7 cX7_countTied 4 (rmD 2)) {r : Int32} {M : Mem} (rt : RtI K a cX7_countTied r M) : ∀ (fu : Nat) (x1 : Int32) (x2 : Int32), f_X7_countTied_4 a.1 M fu x1 x2 = some r → Go K 4 a M 4 [(0, .ref (a.2 50)), (1, .int x1), (2, .int x2)] [] := by
  intro fu
  induction fu with
  | zero => intro x1 x2 hf; exact absurd hf (by simp [f_X7_countTied_4])
  | succ fu ih =>
    intro x1 x2 hf
    rw [f_X7_countTied_4] at hf
    refine g_iload_n 2 S dX7_countTied_4 rfl ?_
    refine g_aload_n 0 S dX7_countTied_5 rfl ?_
    refine g_get (v := .int (M 50 2)) S ob_50 rfl gi_X7 (by decide) lf_X7_22 rfl dX7_countTied_6 ?_
    refine g_icmp_ge (tgt := 39) S dX7_countTied_9 (by decide) hf (fun c hf => ?_) (fun c hf => ?_)
    · refine g_iload_n 1 S dX7_countTied_39 rfl ?_
      exact g_iretP rt hf dX7_countTied_40
    · refine g_aload_n 0 S dX7_countTied_12 rfl ?_
      refine g_iload_n 2 S dX7_countTied_13 rfl ?_
      obtain ⟨r1, hr1, hf⟩ := bd1_some hf
      refine g_cVQ (st := []) S ob_50 rfl ok_X7_kiteAt lk_X7_95 (c_X7_kiteAt hr1) rfl rfl ⟨by decide, by decide⟩ (rmD_z _) (Nat.le_of_ble_eq_true rfl) dX7_countTied_14 ?_
      rcases r1 with _ | n2
      · have hf := mq_n hf
        refine Go.st (st' := [.null]) rfl ?_
        refine g_astore_nN (lv' := [(3, .null), (0, .ref (a.2 50)), (1, .int x1), (2, .int x2)]) S dX7_countTied_17 (by decide) rfl ?_
        refine g_aload_nN 0 S dX7_countTied_18 rfl ?_
        refine g_ifnullN (tgt := 33) S dX7_countTied_19 (by decide) ?_
        refine g_iinc (v := (x2 + 1)) (lv' := [(2, .int (x2 + 1)), (3, .null), (0, .ref (a.2 50)), (1, .int x1)]) 3 S dX7_countTied_33 rfl rfl (by decide) rfl ?_
        refine g_goto (tgt := 4) S dX7_countTied_36 (by decide) ?_
        refine Go.sub [2, 3, 0] rfl ?_
        exact ih _ _ hf
      · have hn2 := vd_X7_kiteAt hr1
        have hf := mq_s hf
        refine Go.st (st' := [.ref (a.2 n2)]) rfl ?_
        refine g_astore_n (lv' := [(3, .ref (a.2 n2)), (0, .ref (a.2 50)), (1, .int x1), (2, .int x2)]) S dX7_countTied_17 (by decide) rfl ?_
        refine g_aload_n 0 S dX7_countTied_18 rfl ?_
        refine g_ifnull S dX7_countTied_19 ?_
        refine g_aload_n 0 S dX7_countTied_22 rfl ?_
        refine g_get (v := .int (M n2 5)) S (ob_K hn2) rfl gi_X2 (by decide) lf_X7_157 rfl dX7_countTied_23 ?_
        refine g_iconst (v := (-1)) S dX7_countTied_26 rfl ?_
        refine g_icmp_eq (tgt := 33) S dX7_countTied_27 (by decide) hf (fun c hf => ?_) (fun c hf => ?_)
        · refine g_iinc (v := (x2 + 1)) (lv' := [(2, .int (x2 + 1)), (3, .ref (a.2 n2)), (0, .ref (a.2 50)), (1, .int x1)]) 3 S dX7_countTied_33 rfl rfl (by decide) rfl ?_
          refine g_goto (tgt := 4) S dX7_countTied_36 (by decide) ?_
          refine Go.sub [2, 3, 0] rfl ?_
          exact ih _ _ hf
        · refine g_iinc (v := (x1 + 1)) (lv' := [(1, .int (x1 + 1)), (3, .ref (a.2 n2)), (0, .ref (a.2 50)), (2, .int x2)]) 2 S dX7_countTied_30 rfl rfl (by decide) rfl ?_
          refine g_iinc (v := (x2 + 1)) (lv' := [(2, .int (x2 + 1)), (1, .int (x1 + 1)), (3, .ref (a.2 n2)), (0, .ref (a.2 50))]) 3 S dX7_countTied_33 rfl rfl (by decide) rfl ?_
          refine g_goto (tgt := 4) S dX7_countTied_36 (by decide) ?_
          refine Go.sub [3, 1, 0] rfl ?_
          exact ih _ _ hf
def f_X7_countTied (z : Nat → Nat) (M : Mem) : Option Int32 := f_X7_countTied_4 z M 1000 0 0
theorem c_X7_countTied {l : Launch} {G : GG} {a : AA} {M : Mem} {r : Int32} (hf : f_X7_countTied a.1 M = some r) : CtI l G a yX7_countTied cX7_countTied 4 .int (rmD 2) [.ref (a.2 50)] M r M := by
  refine ct_I (by decide) rfl rfl (own := RX7) (Nat.le_of_ble_eq_true rfl) (fun K hl hg S rt => ?_)
  subst hl; subst hg
  unfold f_X7_countTied at hf
  show Go K 4 a M 0 [(0, .ref (a.2 50))] []
  refine g_iconst (v := 0) S dX7_countTied_0 rfl ?_
  refine g_istore_n (lv' := [(1, .int 0), (0, .ref (a.2 50))]) S dX7_countTied_1 (by decide) rfl ?_
  refine g_iconst (v := 0) S dX7_countTied_2 rfl ?_
  refine g_istore_n (lv' := [(2, .int 0), (1, .int 0), (0, .ref (a.2 50))]) S dX7_countTied_3 (by decide) rfl ?_
  refine Go.sub [2, 1, 0] rfl ?_
  exact t_X7_countTied_4  S rt 1000 _ _ hf
-- BridleBook.countFree()I
theorem dX7_countFree_0 : decode cX7_countFree 0 = .ok (.iconst 0, 1) := by decide +kernel
theorem dX7_countFree_1 : decode cX7_countFree 1 = .ok (.istore_n 1, 1) := by decide +kernel
theorem dX7_countFree_2 : decode cX7_countFree 2 = .ok (.iconst 0, 1) := by decide +kernel
theorem dX7_countFree_3 : decode cX7_countFree 3 = .ok (.istore_n 2, 1) := by decide +kernel
theorem dX7_countFree_4 : decode cX7_countFree 4 = .ok (.iload_n 2, 1) := by decide +kernel
theorem dX7_countFree_5 : decode cX7_countFree 5 = .ok (.aload_n 0, 1) := by decide +kernel
theorem dX7_countFree_6 : decode cX7_countFree 6 = .ok (.getfield 36, 3) := by decide +kernel
theorem dX7_countFree_9 : decode cX7_countFree 9 = .ok (.if_icmp .ge 23, 3) := by decide +kernel
theorem dX7_countFree_12 : decode cX7_countFree 12 = .ok (.aload_n 0, 1) := by decide +kernel
theorem dX7_countFree_13 : decode cX7_countFree 13 = .ok (.getfield 84, 3) := by decide +kernel
theorem dX7_countFree_16 : decode cX7_countFree 16 = .ok (.iload_n 2, 1) := by decide +kernel
theorem dX7_countFree_17 : decode cX7_countFree 17 = .ok (.invokevirtual 254, 3) := by decide +kernel
theorem dX7_countFree_20 : decode cX7_countFree 20 = .ok (.ifCond .ne 6, 3) := by decide +kernel
theorem dX7_countFree_23 : decode cX7_countFree 23 = .ok (.iinc 1 1, 3) := by decide +kernel
theorem dX7_countFree_26 : decode cX7_countFree 26 = .ok (.iinc 2 1, 3) := by decide +kernel
theorem dX7_countFree_29 : decode cX7_countFree 29 = .ok (.goto (-25), 3) := by decide +kernel
theorem dX7_countFree_32 : decode cX7_countFree 32 = .ok (.iload_n 1, 1) := by decide +kernel
theorem dX7_countFree_33 : decode cX7_countFree 33 = .ok (.ireturn, 1) := by decide +kernel
def f_X7_countFree_4 (z : Nat → Nat) (M : Mem) : Nat → Int32 → Int32 → Option Int32
  | 0, _, _ => none
  | fu + 1, x1, x2 => if (M 50 5) ≤ x2 then some x1 else bd1 (f_X6_undoneFor z M x2) (fun r1 => if r1 = 0 then f_X7_countFree_4 z M fu (x1 + 1) (x2 + 1) else f_X7_countFree_4 z M fu x1 (x2 + 1))
theorem t_X7_countFree_4 {K : KK} {a : AA} (S : Sx K RX7 cX7_countFree 3 (rmD 3)) {r : Int32} {M : Mem} (rt : RtI K a cX7_countFree r M) : ∀ (fu : Nat) (x1 : Int32) (x2 : Int32), f_X7_countFree_4 a.1 M fu x1 x2 = some r → Go K 3 a M 4 [(0, .ref (a.2 50)), (1, .int x1), (2, .int x2)] [] := by
  intro fu
  induction fu with
  | zero => intro x1 x2 hf; exact absurd hf (by simp [f_X7_countFree_4])
  | succ fu ih =>
    intro x1 x2 hf
    rw [f_X7_countFree_4] at hf
    refine g_iload_n 2 S dX7_countFree_4 rfl ?_
    refine g_aload_n 0 S dX7_countFree_5 rfl ?_
    refine g_get (v := .int (M 50 5)) S ob_50 rfl gi_X7 (by decide) lf_X7_36 rfl dX7_countFree_6 ?_
    refine g_icmp_ge (tgt := 32) S dX7_countFree_9 (by decide) hf (fun c hf => ?_) (fun c hf => ?_)
    · refine g_iload_n 1 S dX7_countFree_32 rfl ?_
      exact g_iretP rt hf dX7_countFree_33
    · refine g_aload_n 0 S dX7_countFree_12 rfl ?_
      refine g_get (v := .ref (a.2 67)) S ob_50 rfl gi_X7 (by decide) lf_X7_84 rfl dX7_countFree_13 ?_
      refine g_iload_n 2 S dX7_countFree_16 rfl ?_
      obtain ⟨r1, hr1, hf⟩ := bd1_some hf
      refine g_cVI (st := []) S ob_67 rfl ok_X6_undoneFor lk_X7_254 (c_X6_undoneFor hr1) rfl rfl ⟨by decide, by decide⟩ (rmD_z _) (Nat.le_of_ble_eq_true rfl) dX7_countFree_17 ?_
      refine g_if_ne (tgt := 26) S dX7_countFree_20 (by decide) hf (fun c hf => ?_) (fun c hf => ?_)
      · refine g_iinc (v := (x1 + 1)) (lv' := [(1, .int (x1 + 1)), (0, .ref (a.2 50)), (2, .int x2)]) 1 S dX7_countFree_23 rfl rfl (by decide) rfl ?_
        refine g_iinc (v := (x2 + 1)) (lv' := [(2, .int (x2 + 1)), (1, .int (x1 + 1)), (0, .ref (a.2 50))]) 2 S dX7_countFree_26 rfl rfl (by decide) rfl ?_
        refine g_goto (tgt := 4) S dX7_countFree_29 (by decide) ?_
        refine Go.sub [2, 1, 0] rfl ?_
        exact ih _ _ hf
      · refine g_iinc (v := (x2 + 1)) (lv' := [(2, .int (x2 + 1)), (0, .ref (a.2 50)), (1, .int x1)]) 2 S dX7_countFree_26 rfl rfl (by decide) rfl ?_
        refine g_goto (tgt := 4) S dX7_countFree_29 (by decide) ?_
        refine Go.sub [1, 2, 0] rfl ?_
        exact ih _ _ hf
def f_X7_countFree (z : Nat → Nat) (M : Mem) : Option Int32 := f_X7_countFree_4 z M 1000 0 0
theorem c_X7_countFree {l : Launch} {G : GG} {a : AA} {M : Mem} {r : Int32} (hf : f_X7_countFree a.1 M = some r) : CtI l G a yX7_countFree cX7_countFree 3 .int (rmD 3) [.ref (a.2 50)] M r M := by
  refine ct_I (by decide) rfl rfl (own := RX7) (Nat.le_of_ble_eq_true rfl) (fun K hl hg S rt => ?_)
  subst hl; subst hg
  unfold f_X7_countFree at hf
  show Go K 3 a M 0 [(0, .ref (a.2 50))] []
  refine g_iconst (v := 0) S dX7_countFree_0 rfl ?_
  refine g_istore_n (lv' := [(1, .int 0), (0, .ref (a.2 50))]) S dX7_countFree_1 (by decide) rfl ?_
  refine g_iconst (v := 0) S dX7_countFree_2 rfl ?_
  refine g_istore_n (lv' := [(2, .int 0), (1, .int 0), (0, .ref (a.2 50))]) S dX7_countFree_3 (by decide) rfl ?_
  refine Go.sub [2, 1, 0] rfl ?_
  exact t_X7_countFree_4  S rt 1000 _ _ hf
-- BridleBook.count(I)I
theorem dX7_count_0 : decode cX7_count 0 = .ok (.iload_n 1, 1) := by decide +kernel
theorem dX7_count_1 : decode cX7_count 1 = .ok (.tableswitch 90 0 7 #[47, 52, 57, 62, 67, 72, 80, 85], 47) := by decide +kernel
theorem dX7_count_48 : decode cX7_count 48 = .ok (.aload_n 0, 1) := by decide +kernel
theorem dX7_count_49 : decode cX7_count 49 = .ok (.getfield 22, 3) := by decide +kernel
theorem dX7_count_52 : decode cX7_count 52 = .ok (.ireturn, 1) := by decide +kernel
theorem dX7_count_53 : decode cX7_count 53 = .ok (.aload_n 0, 1) := by decide +kernel
theorem dX7_count_54 : decode cX7_count 54 = .ok (.getfield 36, 3) := by decide +kernel
theorem dX7_count_57 : decode cX7_count 57 = .ok (.ireturn, 1) := by decide +kernel
theorem dX7_count_58 : decode cX7_count 58 = .ok (.aload_n 0, 1) := by decide +kernel
theorem dX7_count_59 : decode cX7_count 59 = .ok (.getfield 52, 3) := by decide +kernel
theorem dX7_count_62 : decode cX7_count 62 = .ok (.ireturn, 1) := by decide +kernel
theorem dX7_count_63 : decode cX7_count 63 = .ok (.aload_n 0, 1) := by decide +kernel
theorem dX7_count_64 : decode cX7_count 64 = .ok (.invokevirtual 261, 3) := by decide +kernel
theorem dX7_count_67 : decode cX7_count 67 = .ok (.ireturn, 1) := by decide +kernel
theorem dX7_count_68 : decode cX7_count 68 = .ok (.aload_n 0, 1) := by decide +kernel
theorem dX7_count_69 : decode cX7_count 69 = .ok (.getfield 62, 3) := by decide +kernel
theorem dX7_count_72 : decode cX7_count 72 = .ok (.ireturn, 1) := by decide +kernel
theorem dX7_count_73 : decode cX7_count 73 = .ok (.aload_n 0, 1) := by decide +kernel
theorem dX7_count_74 : decode cX7_count 74 = .ok (.getfield 84, 3) := by decide +kernel
theorem dX7_count_77 : decode cX7_count 77 = .ok (.getfield 248, 3) := by decide +kernel
theorem dX7_count_80 : decode cX7_count 80 = .ok (.ireturn, 1) := by decide +kernel
theorem dX7_count_81 : decode cX7_count 81 = .ok (.aload_n 0, 1) := by decide +kernel
theorem dX7_count_82 : decode cX7_count 82 = .ok (.invokevirtual 265, 3) := by decide +kernel
theorem dX7_count_85 : decode cX7_count 85 = .ok (.ireturn, 1) := by decide +kernel
theorem dX7_count_86 : decode cX7_count 86 = .ok (.aload_n 0, 1) := by decide +kernel
theorem dX7_count_87 : decode cX7_count 87 = .ok (.invokevirtual 268, 3) := by decide +kernel
theorem dX7_count_90 : decode cX7_count 90 = .ok (.ireturn, 1) := by decide +kernel
theorem dX7_count_91 : decode cX7_count 91 = .ok (.iconst (-1), 1) := by decide +kernel
theorem dX7_count_92 : decode cX7_count 92 = .ok (.ireturn, 1) := by decide +kernel
def f_X7_count (z : Nat → Nat) (M : Mem) (p1 : Int32) : Option Int32 := if p1 = 0 then some (M 50 2) else if p1 = 1 then some (M 50 5) else if p1 = 2 then some (M 50 8) else if p1 = 3 then bd1 (f_X7_countFlying z M) (fun r1 => some r1) else if p1 = 4 then some (M 50 11) else if p1 = 5 then some (M 67 1) else if p1 = 6 then bd1 (f_X7_countTied z M) (fun r2 => some r2) else if p1 = 7 then bd1 (f_X7_countFree z M) (fun r3 => some r3) else (some (-1))
theorem c_X7_count {l : Launch} {G : GG} {a : AA} {M : Mem} {p1 : Int32} {r : Int32} (hf : f_X7_count a.1 M p1 = some r) : CtI l G a yX7_count cX7_count 2 .int (rmD 4) [.ref (a.2 50), .int p1] M r M := by
  refine ct_I (by decide) rfl rfl (own := RX7) (Nat.le_of_ble_eq_true rfl) (fun K hl hg S rt => ?_)
  subst hl; subst hg
  unfold f_X7_count at hf
  show Go K 2 a M 0 [(0, .ref (a.2 50)), (1, .int p1)] []
  refine g_iload_n 1 S dX7_count_0 rfl ?_
  refine sp_if hf (fun c0 hf => ?_) (fun c0 hf => ?_)
  · refine g_tabIn (tgt := 48) 0 S dX7_count_1 c0 (by decide) (by decide) rfl (by decide) ?_
    refine g_aload_n 0 S dX7_count_48 rfl ?_
    refine g_get (v := .int (M 50 2)) S ob_50 rfl gi_X7 (by decide) lf_X7_22 rfl dX7_count_49 ?_
    exact g_iretP rt hf dX7_count_52
  refine sp_if hf (fun c1 hf => ?_) (fun c1 hf => ?_)
  · refine g_tabIn (tgt := 53) 1 S dX7_count_1 c1 (by decide) (by decide) rfl (by decide) ?_
    refine g_aload_n 0 S dX7_count_53 rfl ?_
    refine g_get (v := .int (M 50 5)) S ob_50 rfl gi_X7 (by decide) lf_X7_36 rfl dX7_count_54 ?_
    exact g_iretP rt hf dX7_count_57
  refine sp_if hf (fun c2 hf => ?_) (fun c2 hf => ?_)
  · refine g_tabIn (tgt := 58) 2 S dX7_count_1 c2 (by decide) (by decide) rfl (by decide) ?_
    refine g_aload_n 0 S dX7_count_58 rfl ?_
    refine g_get (v := .int (M 50 8)) S ob_50 rfl gi_X7 (by decide) lf_X7_52 rfl dX7_count_59 ?_
    exact g_iretP rt hf dX7_count_62
  refine sp_if hf (fun c3 hf => ?_) (fun c3 hf => ?_)
  · refine g_tabIn (tgt := 63) 3 S dX7_count_1 c3 (by decide) (by decide) rfl (by decide) ?_
    refine g_aload_n 0 S dX7_count_63 rfl ?_
    obtain ⟨r1, hr1, hf⟩ := bd1_some hf
    refine g_cVI (st := []) S ob_50 rfl ok_X7_countFlying lk_X7_261 (c_X7_countFlying hr1) rfl rfl ⟨by decide, by decide⟩ (rmD_z _) (Nat.le_of_ble_eq_true rfl) dX7_count_64 ?_
    exact g_iretP rt hf dX7_count_67
  refine sp_if hf (fun c4 hf => ?_) (fun c4 hf => ?_)
  · refine g_tabIn (tgt := 68) 4 S dX7_count_1 c4 (by decide) (by decide) rfl (by decide) ?_
    refine g_aload_n 0 S dX7_count_68 rfl ?_
    refine g_get (v := .int (M 50 11)) S ob_50 rfl gi_X7 (by decide) lf_X7_62 rfl dX7_count_69 ?_
    exact g_iretP rt hf dX7_count_72
  refine sp_if hf (fun c5 hf => ?_) (fun c5 hf => ?_)
  · refine g_tabIn (tgt := 73) 5 S dX7_count_1 c5 (by decide) (by decide) rfl (by decide) ?_
    refine g_aload_n 0 S dX7_count_73 rfl ?_
    refine g_get (v := .ref (a.2 67)) S ob_50 rfl gi_X7 (by decide) lf_X7_84 rfl dX7_count_74 ?_
    refine g_get (v := .int (M 67 1)) S ob_67 rfl gi_X6 (by decide) lf_X7_248 rfl dX7_count_77 ?_
    exact g_iretP rt hf dX7_count_80
  refine sp_if hf (fun c6 hf => ?_) (fun c6 hf => ?_)
  · refine g_tabIn (tgt := 81) 6 S dX7_count_1 c6 (by decide) (by decide) rfl (by decide) ?_
    refine g_aload_n 0 S dX7_count_81 rfl ?_
    obtain ⟨r2, hr2, hf⟩ := bd1_some hf
    refine g_cVI (st := []) S ob_50 rfl ok_X7_countTied lk_X7_265 (c_X7_countTied hr2) rfl rfl ⟨by decide, by decide⟩ (rmD_z _) (Nat.le_of_ble_eq_true rfl) dX7_count_82 ?_
    exact g_iretP rt hf dX7_count_85
  refine sp_if hf (fun c7 hf => ?_) (fun c7 hf => ?_)
  · refine g_tabIn (tgt := 86) 7 S dX7_count_1 c7 (by decide) (by decide) rfl (by decide) ?_
    refine g_aload_n 0 S dX7_count_86 rfl ?_
    obtain ⟨r3, hr3, hf⟩ := bd1_some hf
    refine g_cVI (st := []) S ob_50 rfl ok_X7_countFree lk_X7_268 (c_X7_countFree hr3) rfl rfl ⟨by decide, by decide⟩ (rmD_z _) (Nat.le_of_ble_eq_true rfl) dX7_count_87 ?_
    exact g_iretP rt hf dX7_count_90
  refine g_tabOut (tgt := 91) S dX7_count_1 (by have := sw_ne c0; simp only [show ((0 : Int32).toInt) = 0 from by decide] at this; have := sw_ne c1; simp only [show ((1 : Int32).toInt) = 1 from by decide] at this; have := sw_ne c2; simp only [show ((2 : Int32).toInt) = 2 from by decide] at this; have := sw_ne c3; simp only [show ((3 : Int32).toInt) = 3 from by decide] at this; have := sw_ne c4; simp only [show ((4 : Int32).toInt) = 4 from by decide] at this; have := sw_ne c5; simp only [show ((5 : Int32).toInt) = 5 from by decide] at this; have := sw_ne c6; simp only [show ((6 : Int32).toInt) = 6 from by decide] at this; have := sw_ne c7; simp only [show ((7 : Int32).toInt) = 7 from by decide] at this; omega) (by decide) ?_
  refine g_iconst (v := (-1)) S dX7_count_91 rfl ?_
  exact g_iretP rt hf dX7_count_92
-- BridleBook.hasFlyer(I)Z
theorem dX7_hasFlyer_0 : decode cX7_hasFlyer 0 = .ok (.iconst 0, 1) := by decide +kernel
theorem dX7_hasFlyer_1 : decode cX7_hasFlyer 1 = .ok (.istore_n 2, 1) := by decide +kernel
theorem dX7_hasFlyer_2 : decode cX7_hasFlyer 2 = .ok (.iload_n 2, 1) := by decide +kernel
theorem dX7_hasFlyer_3 : decode cX7_hasFlyer 3 = .ok (.aload_n 0, 1) := by decide +kernel
theorem dX7_hasFlyer_4 : decode cX7_hasFlyer 4 = .ok (.getfield 52, 3) := by decide +kernel
theorem dX7_hasFlyer_7 : decode cX7_hasFlyer 7 = .ok (.if_icmp .ge 29, 3) := by decide +kernel
theorem dX7_hasFlyer_10 : decode cX7_hasFlyer 10 = .ok (.aload_n 0, 1) := by decide +kernel
theorem dX7_hasFlyer_11 : decode cX7_hasFlyer 11 = .ok (.iload_n 2, 1) := by decide +kernel
theorem dX7_hasFlyer_12 : decode cX7_hasFlyer 12 = .ok (.invokevirtual 219, 3) := by decide +kernel
theorem dX7_hasFlyer_15 : decode cX7_hasFlyer 15 = .ok (.astore_n 3, 1) := by decide +kernel
theorem dX7_hasFlyer_16 : decode cX7_hasFlyer 16 = .ok (.aload_n 3, 1) := by decide +kernel
theorem dX7_hasFlyer_17 : decode cX7_hasFlyer 17 = .ok (.ifnull 13, 3) := by decide +kernel
theorem dX7_hasFlyer_20 : decode cX7_hasFlyer 20 = .ok (.aload_n 3, 1) := by decide +kernel
theorem dX7_hasFlyer_21 : decode cX7_hasFlyer 21 = .ok (.getfield 299, 3) := by decide +kernel
theorem dX7_hasFlyer_24 : decode cX7_hasFlyer 24 = .ok (.iload_n 1, 1) := by decide +kernel
theorem dX7_hasFlyer_25 : decode cX7_hasFlyer 25 = .ok (.if_icmp .ne 5, 3) := by decide +kernel
theorem dX7_hasFlyer_28 : decode cX7_hasFlyer 28 = .ok (.iconst 1, 1) := by decide +kernel
theorem dX7_hasFlyer_29 : decode cX7_hasFlyer 29 = .ok (.ireturn, 1) := by decide +kernel
theorem dX7_hasFlyer_30 : decode cX7_hasFlyer 30 = .ok (.iinc 2 1, 3) := by decide +kernel
theorem dX7_hasFlyer_33 : decode cX7_hasFlyer 33 = .ok (.goto (-31), 3) := by decide +kernel
theorem dX7_hasFlyer_36 : decode cX7_hasFlyer 36 = .ok (.iconst 0, 1) := by decide +kernel
theorem dX7_hasFlyer_37 : decode cX7_hasFlyer 37 = .ok (.ireturn, 1) := by decide +kernel
def f_X7_hasFlyer_2 (z : Nat → Nat) (M : Mem) : Nat → Int32 → Int32 → Option Bool
  | 0, _, _ => none
  | fu + 1, x1, x2 => if (M 50 8) ≤ x2 then some false else bd1 (f_X7_flyerAt z M x2) (fun r1 => mq r1 (f_X7_hasFlyer_2 z M fu x1 (x2 + 1)) (fun n2 => if (M n2 2) = x1 then some true else f_X7_hasFlyer_2 z M fu x1 (x2 + 1)))
theorem t_X7_hasFlyer_2 {K : KK} {a : AA} (S : Sx K RX7 cX7_hasFlyer 4 (rmD 2)) {r : Bool} {M : Mem} (rt : RtI K a cX7_hasFlyer (b2i r) M) : ∀ (fu : Nat) (x1 : Int32) (x2 : Int32), f_X7_hasFlyer_2 a.1 M fu x1 x2 = some r → Go K 4 a M 2 [(0, .ref (a.2 50)), (1, .int x1), (2, .int x2)] [] := by
  intro fu
  induction fu with
  | zero => intro x1 x2 hf; exact absurd hf (by simp [f_X7_hasFlyer_2])
  | succ fu ih =>
    intro x1 x2 hf
    rw [f_X7_hasFlyer_2] at hf
    refine g_iload_n 2 S dX7_hasFlyer_2 rfl ?_
    refine g_aload_n 0 S dX7_hasFlyer_3 rfl ?_
    refine g_get (v := .int (M 50 8)) S ob_50 rfl gi_X7 (by decide) lf_X7_52 rfl dX7_hasFlyer_4 ?_
    refine g_icmp_ge (tgt := 36) S dX7_hasFlyer_7 (by decide) hf (fun c hf => ?_) (fun c hf => ?_)
    · refine g_iconst (v := 0) S dX7_hasFlyer_36 rfl ?_
      exact g_zretP rt hf dX7_hasFlyer_37 rfl
    · refine g_aload_n 0 S dX7_hasFlyer_10 rfl ?_
      refine g_iload_n 2 S dX7_hasFlyer_11 rfl ?_
      obtain ⟨r1, hr1, hf⟩ := bd1_some hf
      refine g_cVQ (st := []) S ob_50 rfl ok_X7_flyerAt lk_X7_219 (c_X7_flyerAt hr1) rfl rfl ⟨by decide, by decide⟩ (rmD_z _) (Nat.le_of_ble_eq_true rfl) dX7_hasFlyer_12 ?_
      rcases r1 with _ | n2
      · have hf := mq_n hf
        refine Go.st (st' := [.null]) rfl ?_
        refine g_astore_nN (lv' := [(3, .null), (0, .ref (a.2 50)), (1, .int x1), (2, .int x2)]) S dX7_hasFlyer_15 (by decide) rfl ?_
        refine g_aload_nN 0 S dX7_hasFlyer_16 rfl ?_
        refine g_ifnullN (tgt := 30) S dX7_hasFlyer_17 (by decide) ?_
        refine g_iinc (v := (x2 + 1)) (lv' := [(2, .int (x2 + 1)), (3, .null), (0, .ref (a.2 50)), (1, .int x1)]) 3 S dX7_hasFlyer_30 rfl rfl (by decide) rfl ?_
        refine g_goto (tgt := 2) S dX7_hasFlyer_33 (by decide) ?_
        refine Go.sub [2, 3, 0] rfl ?_
        exact ih _ _ hf
      · have hn2 := vd_X7_flyerAt hr1
        have hf := mq_s hf
        refine Go.st (st' := [.ref (a.2 n2)]) rfl ?_
        refine g_astore_n (lv' := [(3, .ref (a.2 n2)), (0, .ref (a.2 50)), (1, .int x1), (2, .int x2)]) S dX7_hasFlyer_15 (by decide) rfl ?_
        refine g_aload_n 0 S dX7_hasFlyer_16 rfl ?_
        refine g_ifnull S dX7_hasFlyer_17 ?_
        refine g_aload_n 0 S dX7_hasFlyer_20 rfl ?_
        refine g_get (v := .int (M n2 2)) S (ob_F hn2) rfl gi_X1 (by decide) lf_X7_299 rfl dX7_hasFlyer_21 ?_
        refine g_iload_n 2 S dX7_hasFlyer_24 rfl ?_
        refine g_icmp_ne (tgt := 30) S dX7_hasFlyer_25 (by decide) hf (fun c hf => ?_) (fun c hf => ?_)
        · refine g_iconst (v := 1) S dX7_hasFlyer_28 rfl ?_
          exact g_zretP rt hf dX7_hasFlyer_29 rfl
        · refine g_iinc (v := (x2 + 1)) (lv' := [(2, .int (x2 + 1)), (3, .ref (a.2 n2)), (0, .ref (a.2 50)), (1, .int x1)]) 3 S dX7_hasFlyer_30 rfl rfl (by decide) rfl ?_
          refine g_goto (tgt := 2) S dX7_hasFlyer_33 (by decide) ?_
          refine Go.sub [2, 3, 0] rfl ?_
          exact ih _ _ hf
def f_X7_hasFlyer (z : Nat → Nat) (M : Mem) (p1 : Int32) : Option Bool := f_X7_hasFlyer_2 z M 1000 p1 0
theorem c_X7_hasFlyer {l : Launch} {G : GG} {a : AA} {M : Mem} {p1 : Int32} {r : Bool} (hf : f_X7_hasFlyer a.1 M p1 = some r) : CtI l G a yX7_hasFlyer cX7_hasFlyer 4 .boolean (rmD 2) [.ref (a.2 50), .int p1] M (b2i r) M := by
  refine ct_I (by decide) rfl (b2i_n _) (own := RX7) (Nat.le_of_ble_eq_true rfl) (fun K hl hg S rt => ?_)
  subst hl; subst hg
  unfold f_X7_hasFlyer at hf
  show Go K 4 a M 0 [(0, .ref (a.2 50)), (1, .int p1)] []
  refine g_iconst (v := 0) S dX7_hasFlyer_0 rfl ?_
  refine g_istore_n (lv' := [(2, .int 0), (0, .ref (a.2 50)), (1, .int p1)]) S dX7_hasFlyer_1 (by decide) rfl ?_
  refine Go.sub [1, 2, 0] rfl ?_
  exact t_X7_hasFlyer_2  S rt 1000 _ _ hf
-- BridleBookModel.in(III)Z
theorem dX8_in_0 : decode cX8_in 0 = .ok (.iload_n 0, 1) := by decide +kernel
theorem dX8_in_1 : decode cX8_in 1 = .ok (.iload_n 1, 1) := by decide +kernel
theorem dX8_in_2 : decode cX8_in 2 = .ok (.if_icmp .lt 12, 3) := by decide +kernel
theorem dX8_in_5 : decode cX8_in 5 = .ok (.iload_n 0, 1) := by decide +kernel
theorem dX8_in_6 : decode cX8_in 6 = .ok (.iload_n 2, 1) := by decide +kernel
theorem dX8_in_7 : decode cX8_in 7 = .ok (.if_icmp .gt 7, 3) := by decide +kernel
theorem dX8_in_10 : decode cX8_in 10 = .ok (.iconst 1, 1) := by decide +kernel
theorem dX8_in_11 : decode cX8_in 11 = .ok (.goto 4, 3) := by decide +kernel
theorem dX8_in_14 : decode cX8_in 14 = .ok (.iconst 0, 1) := by decide +kernel
theorem dX8_in_15 : decode cX8_in 15 = .ok (.ireturn, 1) := by decide +kernel
def f_X8_in (z : Nat → Nat) (M : Mem) (p1 : Int32) (p2 : Int32) (p3 : Int32) : Option Bool := if p1 < p2 then some false else if p3 < p1 then some false else some true
theorem c_X8_in {l : Launch} {G : GG} {a : AA} {M : Mem} {p1 : Int32} {p2 : Int32} {p3 : Int32} {r : Bool} (hf : f_X8_in a.1 M p1 p2 p3 = some r) : CtI l G a yX8_in cX8_in 3 .boolean (rmD 0) [.int p1, .int p2, .int p3] M (b2i r) M := by
  refine ct_I (by decide) rfl (b2i_n _) (own := RX8) (Nat.le_of_ble_eq_true rfl) (fun K hl hg S rt => ?_)
  subst hl; subst hg
  unfold f_X8_in at hf
  show Go K 3 a M 0 [(0, .int p1), (1, .int p2), (2, .int p3)] []
  refine g_iload_n 0 S dX8_in_0 rfl ?_
  refine g_iload_n 1 S dX8_in_1 rfl ?_
  refine g_icmp_lt (tgt := 14) S dX8_in_2 (by decide) hf (fun c hf => ?_) (fun c hf => ?_)
  · refine g_iconst (v := 0) S dX8_in_14 rfl ?_
    exact g_zretP rt hf dX8_in_15 rfl
  · refine g_iload_n 0 S dX8_in_5 rfl ?_
    refine g_iload_n 2 S dX8_in_6 rfl ?_
    refine g_icmp_gt (tgt := 14) S dX8_in_7 (by decide) hf (fun c hf => ?_) (fun c hf => ?_)
    · refine g_iconst (v := 0) S dX8_in_14 rfl ?_
      exact g_zretP rt hf dX8_in_15 rfl
    · refine g_iconst (v := 1) S dX8_in_10 rfl ?_
      refine g_goto (tgt := 15) S dX8_in_11 (by decide) ?_
      exact g_zretP rt hf dX8_in_15 rfl
-- BridleBookModel.isKite(I)Z
theorem dX8_isKite_0 : decode cX8_isKite 0 = .ok (.iload_n 1, 1) := by decide +kernel
theorem dX8_isKite_1 : decode cX8_isKite 1 = .ok (.iconst 0, 1) := by decide +kernel
theorem dX8_isKite_2 : decode cX8_isKite 2 = .ok (.aload_n 0, 1) := by decide +kernel
theorem dX8_isKite_3 : decode cX8_isKite 3 = .ok (.getfield 108, 3) := by decide +kernel
theorem dX8_isKite_6 : decode cX8_isKite 6 = .ok (.iconst 1, 1) := by decide +kernel
theorem dX8_isKite_7 : decode cX8_isKite 7 = .ok (.isub, 1) := by decide +kernel
theorem dX8_isKite_8 : decode cX8_isKite 8 = .ok (.invokestatic 111, 3) := by decide +kernel
theorem dX8_isKite_11 : decode cX8_isKite 11 = .ok (.ireturn, 1) := by decide +kernel
def f_X8_isKite (z : Nat → Nat) (M : Mem) (p1 : Int32) : Option Bool := bd1 (f_X8_in z M p1 0 ((M 0 1) - 1)) (fun r1 => some r1)
theorem c_X8_isKite {l : Launch} {G : GG} {a : AA} {M : Mem} {p1 : Int32} {r : Bool} (hf : f_X8_isKite a.1 M p1 = some r) : CtI l G a yX8_isKite cX8_isKite 2 .boolean (rmD 1) [.ref (a.2 0), .int p1] M (b2i r) M := by
  refine ct_I (by decide) rfl (b2i_n _) (own := RX8) (Nat.le_of_ble_eq_true rfl) (fun K hl hg S rt => ?_)
  subst hl; subst hg
  unfold f_X8_isKite at hf
  show Go K 2 a M 0 [(0, .ref (a.2 0)), (1, .int p1)] []
  refine g_iload_n 1 S dX8_isKite_0 rfl ?_
  refine g_iconst (v := 0) S dX8_isKite_1 rfl ?_
  refine g_aload_n 0 S dX8_isKite_2 rfl ?_
  refine g_get (v := .int (M 0 1)) S ob_0 rfl gi_X8 (by decide) lf_X8_108 rfl dX8_isKite_3 ?_
  refine g_iconst (v := 1) S dX8_isKite_6 rfl ?_
  refine g_isub S dX8_isKite_7 ?_
  obtain ⟨r1, hr1, hf⟩ := bd1_some hf
  refine g_cSI (st := []) S ok_X8_in lk_X8_111 (c_X8_in hr1) rfl rfl ⟨by decide, by decide⟩ (rmD_z _) (Nat.le_of_ble_eq_true rfl) dX8_isKite_8 ?_
  exact g_zretP rt hf dX8_isKite_11 rfl
-- BridleBookModel.isWind(I)Z
theorem dX8_isWind_0 : decode cX8_isWind 0 = .ok (.iload_n 0, 1) := by decide +kernel
theorem dX8_isWind_1 : decode cX8_isWind 1 = .ok (.iconst 0, 1) := by decide +kernel
theorem dX8_isWind_2 : decode cX8_isWind 2 = .ok (.bipush 99, 2) := by decide +kernel
theorem dX8_isWind_4 : decode cX8_isWind 4 = .ok (.invokestatic 111, 3) := by decide +kernel
theorem dX8_isWind_7 : decode cX8_isWind 7 = .ok (.ireturn, 1) := by decide +kernel
def f_X8_isWind (z : Nat → Nat) (M : Mem) (p1 : Int32) : Option Bool := bd1 (f_X8_in z M p1 0 99) (fun r1 => some r1)
theorem c_X8_isWind {l : Launch} {G : GG} {a : AA} {M : Mem} {p1 : Int32} {r : Bool} (hf : f_X8_isWind a.1 M p1 = some r) : CtI l G a yX8_isWind cX8_isWind 1 .boolean (rmD 1) [.int p1] M (b2i r) M := by
  refine ct_I (by decide) rfl (b2i_n _) (own := RX8) (Nat.le_of_ble_eq_true rfl) (fun K hl hg S rt => ?_)
  subst hl; subst hg
  unfold f_X8_isWind at hf
  show Go K 1 a M 0 [(0, .int p1)] []
  refine g_iload_n 0 S dX8_isWind_0 rfl ?_
  refine g_iconst (v := 0) S dX8_isWind_1 rfl ?_
  refine g_bipush (v := 99) S dX8_isWind_2 rfl ?_
  obtain ⟨r1, hr1, hf⟩ := bd1_some hf
  refine g_cSI (st := []) S ok_X8_in lk_X8_111 (c_X8_in hr1) rfl rfl ⟨by decide, by decide⟩ (rmD_z _) (Nat.le_of_ble_eq_true rfl) dX8_isWind_4 ?_
  exact g_zretP rt hf dX8_isWind_7 rfl
-- BridleBookModel.isAngle(I)Z
theorem dX8_isAngle_0 : decode cX8_isAngle 0 = .ok (.iload_n 0, 1) := by decide +kernel
theorem dX8_isAngle_1 : decode cX8_isAngle 1 = .ok (.iconst 0, 1) := by decide +kernel
theorem dX8_isAngle_2 : decode cX8_isAngle 2 = .ok (.bipush 17, 2) := by decide +kernel
theorem dX8_isAngle_4 : decode cX8_isAngle 4 = .ok (.invokestatic 111, 3) := by decide +kernel
theorem dX8_isAngle_7 : decode cX8_isAngle 7 = .ok (.ireturn, 1) := by decide +kernel
def f_X8_isAngle (z : Nat → Nat) (M : Mem) (p1 : Int32) : Option Bool := bd1 (f_X8_in z M p1 0 17) (fun r1 => some r1)
theorem c_X8_isAngle {l : Launch} {G : GG} {a : AA} {M : Mem} {p1 : Int32} {r : Bool} (hf : f_X8_isAngle a.1 M p1 = some r) : CtI l G a yX8_isAngle cX8_isAngle 1 .boolean (rmD 1) [.int p1] M (b2i r) M := by
  refine ct_I (by decide) rfl (b2i_n _) (own := RX8) (Nat.le_of_ble_eq_true rfl) (fun K hl hg S rt => ?_)
  subst hl; subst hg
  unfold f_X8_isAngle at hf
  show Go K 1 a M 0 [(0, .int p1)] []
  refine g_iload_n 0 S dX8_isAngle_0 rfl ?_
  refine g_iconst (v := 0) S dX8_isAngle_1 rfl ?_
  refine g_bipush (v := 17) S dX8_isAngle_2 rfl ?_
  obtain ⟨r1, hr1, hf⟩ := bd1_some hf
  refine g_cSI (st := []) S ok_X8_in lk_X8_111 (c_X8_in hr1) rfl rfl ⟨by decide, by decide⟩ (rmD_z _) (Nat.le_of_ble_eq_true rfl) dX8_isAngle_4 ?_
  exact g_zretP rt hf dX8_isAngle_7 rfl
-- BridleBookModel.kite()I
theorem dX8_kite_0 : decode cX8_kite 0 = .ok (.aload_n 0, 1) := by decide +kernel
theorem dX8_kite_1 : decode cX8_kite 1 = .ok (.getfield 108, 3) := by decide +kernel
theorem dX8_kite_4 : decode cX8_kite 4 = .ok (.bipush 20, 2) := by decide +kernel
theorem dX8_kite_6 : decode cX8_kite 6 = .ok (.if_icmp .ne 6, 3) := by decide +kernel
theorem dX8_kite_9 : decode cX8_kite 9 = .ok (.bipush (-3), 2) := by decide +kernel
theorem dX8_kite_11 : decode cX8_kite 11 = .ok (.ireturn, 1) := by decide +kernel
theorem dX8_kite_12 : decode cX8_kite 12 = .ok (.aload_n 0, 1) := by decide +kernel
theorem dX8_kite_13 : decode cX8_kite 13 = .ok (.getfield 29, 3) := by decide +kernel
theorem dX8_kite_16 : decode cX8_kite 16 = .ok (.aload_n 0, 1) := by decide +kernel
theorem dX8_kite_17 : decode cX8_kite 17 = .ok (.getfield 108, 3) := by decide +kernel
theorem dX8_kite_20 : decode cX8_kite 20 = .ok (.iconst (-1), 1) := by decide +kernel
theorem dX8_kite_21 : decode cX8_kite 21 = .ok (.iastore, 1) := by decide +kernel
theorem dX8_kite_22 : decode cX8_kite 22 = .ok (.aload_n 0, 1) := by decide +kernel
theorem dX8_kite_23 : decode cX8_kite 23 = .ok (.dup, 1) := by decide +kernel
theorem dX8_kite_24 : decode cX8_kite 24 = .ok (.getfield 108, 3) := by decide +kernel
theorem dX8_kite_27 : decode cX8_kite 27 = .ok (.iconst 1, 1) := by decide +kernel
theorem dX8_kite_28 : decode cX8_kite 28 = .ok (.iadd, 1) := by decide +kernel
theorem dX8_kite_29 : decode cX8_kite 29 = .ok (.putfield 108, 3) := by decide +kernel
theorem dX8_kite_32 : decode cX8_kite 32 = .ok (.aload_n 0, 1) := by decide +kernel
theorem dX8_kite_33 : decode cX8_kite 33 = .ok (.getfield 108, 3) := by decide +kernel
theorem dX8_kite_36 : decode cX8_kite 36 = .ok (.iconst 1, 1) := by decide +kernel
theorem dX8_kite_37 : decode cX8_kite 37 = .ok (.isub, 1) := by decide +kernel
theorem dX8_kite_38 : decode cX8_kite 38 = .ok (.ireturn, 1) := by decide +kernel
def f_X8_kite (z : Nat → Nat) (M : Mem) : Option (Int32 × Mem) := if (M 0 1) = 20 then some ((-3), M) else ck (inb (M 0 1) 20) (lt (mu (mu M 7 (Int32.toNatClampNeg (M 0 1)) (-1)) 0 1 (((mu M 7 (Int32.toNatClampNeg (M 0 1)) (-1)) 0 1) + 1)) (fun M1 => some (((M1 0 1) - 1), M1)))
theorem c_X8_kite {l : Launch} {G : GG} {a : AA} {M : Mem} {r : Int32} {M' : Mem} (hf : f_X8_kite a.1 M = some (r, M')) : CtI l G a yX8_kite cX8_kite 1 .int (rmD 0) [.ref (a.2 0)] M r M' := by
  refine ct_I (by decide) rfl rfl (own := RX8) (Nat.le_of_ble_eq_true rfl) (fun K hl hg S rt => ?_)
  subst hl; subst hg
  unfold f_X8_kite at hf
  show Go K 1 a M 0 [(0, .ref (a.2 0))] []
  refine g_aload_n 0 S dX8_kite_0 rfl ?_
  refine g_get (v := .int (M 0 1)) S ob_0 rfl gi_X8 (by decide) lf_X8_108 rfl dX8_kite_1 ?_
  refine g_bipush (v := 20) S dX8_kite_4 rfl ?_
  refine g_icmp_ne (tgt := 12) S dX8_kite_6 (by decide) hf (fun c hf => ?_) (fun c hf => ?_)
  · refine g_bipush (v := (-3)) S dX8_kite_9 rfl ?_
    exact g_iretM rt hf dX8_kite_11
  · refine g_aload_n 0 S dX8_kite_12 rfl ?_
    refine g_get (v := .ref (a.2 7)) S ob_0 rfl gi_X8 (by decide) lf_X8_29 rfl dX8_kite_13 ?_
    refine g_aload_n 0 S dX8_kite_16 rfl ?_
    refine g_get (v := .int (M 0 1)) S ob_0 rfl gi_X8 (by decide) lf_X8_108 rfl dX8_kite_17 ?_
    refine g_iconst (v := (-1)) S dX8_kite_20 rfl ?_
    refine g_iast S ia_7 dX8_kite_21 hf (fun hf => ?_)
    refine g_aload_n 0 S dX8_kite_22 rfl ?_
    refine g_dup S dX8_kite_23 rfl ?_
    refine g_get (v := .int ((mu M 7 (Int32.toNatClampNeg (M 0 1)) (-1)) 0 1)) S ob_0 rfl gi_X8 (by decide) lf_X8_108 rfl dX8_kite_24 ?_
    refine g_iconst (v := 1) S dX8_kite_27 rfl ?_
    refine g_iadd S dX8_kite_28 ?_
    refine g_put (ty := .int) S ob_0 rfl gi_X8 tyX8_ok nmX8 (by decide) lf_X8_108 rfl (by decide +kernel) rfl rfl (Nat.le_of_ble_eq_true rfl) rfl dX8_kite_29 ?_
    obtain ⟨M1, eM1, hf⟩ := lt_some hf
    refine Go.M eM1 ?_
    refine g_aload_n 0 S dX8_kite_32 rfl ?_
    refine g_get (v := .int (M1 0 1)) S ob_0 rfl gi_X8 (by decide) lf_X8_108 rfl dX8_kite_33 ?_
    refine g_iconst (v := 1) S dX8_kite_36 rfl ?_
    refine g_isub S dX8_kite_37 ?_
    exact g_iretM rt hf dX8_kite_38
-- BridleBookModel.panel(IIII)I
theorem dX8_panel_0 : decode cX8_panel 0 = .ok (.aload_n 0, 1) := by decide +kernel
theorem dX8_panel_1 : decode cX8_panel 1 = .ok (.iload_n 1, 1) := by decide +kernel
theorem dX8_panel_2 : decode cX8_panel 2 = .ok (.invokevirtual 115, 3) := by decide +kernel
theorem dX8_panel_5 : decode cX8_panel 5 = .ok (.ifCond .eq 35, 3) := by decide +kernel
theorem dX8_panel_8 : decode cX8_panel 8 = .ok (.iload_n 2, 1) := by decide +kernel
theorem dX8_panel_9 : decode cX8_panel 9 = .ok (.iconst 1, 1) := by decide +kernel
theorem dX8_panel_10 : decode cX8_panel 10 = .ok (.bipush 99, 2) := by decide +kernel
theorem dX8_panel_12 : decode cX8_panel 12 = .ok (.invokestatic 111, 3) := by decide +kernel
theorem dX8_panel_15 : decode cX8_panel 15 = .ok (.ifCond .eq 25, 3) := by decide +kernel
theorem dX8_panel_18 : decode cX8_panel 18 = .ok (.iload_n 3, 1) := by decide +kernel
theorem dX8_panel_19 : decode cX8_panel 19 = .ok (.bipush (-99), 2) := by decide +kernel
theorem dX8_panel_21 : decode cX8_panel 21 = .ok (.bipush 99, 2) := by decide +kernel
theorem dX8_panel_23 : decode cX8_panel 23 = .ok (.invokestatic 111, 3) := by decide +kernel
theorem dX8_panel_26 : decode cX8_panel 26 = .ok (.ifCond .eq 14, 3) := by decide +kernel
theorem dX8_panel_29 : decode cX8_panel 29 = .ok (.iload 4, 2) := by decide +kernel
theorem dX8_panel_31 : decode cX8_panel 31 = .ok (.iconst 0, 1) := by decide +kernel
theorem dX8_panel_32 : decode cX8_panel 32 = .ok (.bipush 99, 2) := by decide +kernel
theorem dX8_panel_34 : decode cX8_panel 34 = .ok (.invokestatic 111, 3) := by decide +kernel
theorem dX8_panel_37 : decode cX8_panel 37 = .ok (.ifCond .ne 5, 3) := by decide +kernel
theorem dX8_panel_40 : decode cX8_panel 40 = .ok (.iconst (-1), 1) := by decide +kernel
theorem dX8_panel_41 : decode cX8_panel 41 = .ok (.ireturn, 1) := by decide +kernel
theorem dX8_panel_42 : decode cX8_panel 42 = .ok (.aload_n 0, 1) := by decide +kernel
theorem dX8_panel_43 : decode cX8_panel 43 = .ok (.getfield 13, 3) := by decide +kernel
theorem dX8_panel_46 : decode cX8_panel 46 = .ok (.iload_n 1, 1) := by decide +kernel
theorem dX8_panel_47 : decode cX8_panel 47 = .ok (.iaload, 1) := by decide +kernel
theorem dX8_panel_48 : decode cX8_panel 48 = .ok (.bipush 6, 2) := by decide +kernel
theorem dX8_panel_50 : decode cX8_panel 50 = .ok (.if_icmp .ne 6, 3) := by decide +kernel
theorem dX8_panel_53 : decode cX8_panel 53 = .ok (.bipush (-3), 2) := by decide +kernel
theorem dX8_panel_55 : decode cX8_panel 55 = .ok (.ireturn, 1) := by decide +kernel
theorem dX8_panel_56 : decode cX8_panel 56 = .ok (.bipush 6, 2) := by decide +kernel
theorem dX8_panel_58 : decode cX8_panel 58 = .ok (.iload_n 1, 1) := by decide +kernel
theorem dX8_panel_59 : decode cX8_panel 59 = .ok (.imul, 1) := by decide +kernel
theorem dX8_panel_60 : decode cX8_panel 60 = .ok (.aload_n 0, 1) := by decide +kernel
theorem dX8_panel_61 : decode cX8_panel 61 = .ok (.getfield 13, 3) := by decide +kernel
theorem dX8_panel_64 : decode cX8_panel 64 = .ok (.iload_n 1, 1) := by decide +kernel
theorem dX8_panel_65 : decode cX8_panel 65 = .ok (.iaload, 1) := by decide +kernel
theorem dX8_panel_66 : decode cX8_panel 66 = .ok (.iadd, 1) := by decide +kernel
theorem dX8_panel_67 : decode cX8_panel 67 = .ok (.istore 5, 2) := by decide +kernel
theorem dX8_panel_69 : decode cX8_panel 69 = .ok (.aload_n 0, 1) := by decide +kernel
theorem dX8_panel_70 : decode cX8_panel 70 = .ok (.getfield 17, 3) := by decide +kernel
theorem dX8_panel_73 : decode cX8_panel 73 = .ok (.iload 5, 2) := by decide +kernel
theorem dX8_panel_75 : decode cX8_panel 75 = .ok (.iload_n 2, 1) := by decide +kernel
theorem dX8_panel_76 : decode cX8_panel 76 = .ok (.iastore, 1) := by decide +kernel
theorem dX8_panel_77 : decode cX8_panel 77 = .ok (.aload_n 0, 1) := by decide +kernel
theorem dX8_panel_78 : decode cX8_panel 78 = .ok (.getfield 20, 3) := by decide +kernel
theorem dX8_panel_81 : decode cX8_panel 81 = .ok (.iload 5, 2) := by decide +kernel
theorem dX8_panel_83 : decode cX8_panel 83 = .ok (.iload_n 3, 1) := by decide +kernel
theorem dX8_panel_84 : decode cX8_panel 84 = .ok (.iastore, 1) := by decide +kernel
theorem dX8_panel_85 : decode cX8_panel 85 = .ok (.aload_n 0, 1) := by decide +kernel
theorem dX8_panel_86 : decode cX8_panel 86 = .ok (.getfield 23, 3) := by decide +kernel
theorem dX8_panel_89 : decode cX8_panel 89 = .ok (.iload 5, 2) := by decide +kernel
theorem dX8_panel_91 : decode cX8_panel 91 = .ok (.iload 4, 2) := by decide +kernel
theorem dX8_panel_93 : decode cX8_panel 93 = .ok (.iastore, 1) := by decide +kernel
theorem dX8_panel_94 : decode cX8_panel 94 = .ok (.aload_n 0, 1) := by decide +kernel
theorem dX8_panel_95 : decode cX8_panel 95 = .ok (.getfield 13, 3) := by decide +kernel
theorem dX8_panel_98 : decode cX8_panel 98 = .ok (.iload_n 1, 1) := by decide +kernel
theorem dX8_panel_99 : decode cX8_panel 99 = .ok (.dup2, 1) := by decide +kernel
theorem dX8_panel_100 : decode cX8_panel 100 = .ok (.iaload, 1) := by decide +kernel
theorem dX8_panel_101 : decode cX8_panel 101 = .ok (.iconst 1, 1) := by decide +kernel
theorem dX8_panel_102 : decode cX8_panel 102 = .ok (.iadd, 1) := by decide +kernel
theorem dX8_panel_103 : decode cX8_panel 103 = .ok (.iastore, 1) := by decide +kernel
theorem dX8_panel_104 : decode cX8_panel 104 = .ok (.aload_n 0, 1) := by decide +kernel
theorem dX8_panel_105 : decode cX8_panel 105 = .ok (.getfield 13, 3) := by decide +kernel
theorem dX8_panel_108 : decode cX8_panel 108 = .ok (.iload_n 1, 1) := by decide +kernel
theorem dX8_panel_109 : decode cX8_panel 109 = .ok (.iaload, 1) := by decide +kernel
theorem dX8_panel_110 : decode cX8_panel 110 = .ok (.iconst 1, 1) := by decide +kernel
theorem dX8_panel_111 : decode cX8_panel 111 = .ok (.isub, 1) := by decide +kernel
theorem dX8_panel_112 : decode cX8_panel 112 = .ok (.ireturn, 1) := by decide +kernel
def f_X8_panel (z : Nat → Nat) (M : Mem) (p1 : Int32) (p2 : Int32) (p3 : Int32) (p4 : Int32) : Option (Int32 × Mem) := bd1 (f_X8_isKite z M p1) (fun r1 => if r1 = true then bd1 (f_X8_in z M p2 1 99) (fun r2 => if r2 = true then bd1 (f_X8_in z M p3 (-99) 99) (fun r3 => if r3 = true then bd1 (f_X8_in z M p4 0 99) (fun r4 => if r4 = true then ck (inb p1 20) (if (M 2 (Int32.toNatClampNeg p1)) = 6 then some ((-3), M) else ck (inb p1 20) (ck (inb ((6 * p1) + (M 2 (Int32.toNatClampNeg p1))) 120) (lt (mu M 3 (Int32.toNatClampNeg ((6 * p1) + (M 2 (Int32.toNatClampNeg p1)))) p2) (fun M5 => ck (inb ((6 * p1) + (M 2 (Int32.toNatClampNeg p1))) 120) (lt (mu M5 4 (Int32.toNatClampNeg ((6 * p1) + (M 2 (Int32.toNatClampNeg p1)))) p3) (fun M6 => ck (inb ((6 * p1) + (M 2 (Int32.toNatClampNeg p1))) 120) (lt (mu M6 5 (Int32.toNatClampNeg ((6 * p1) + (M 2 (Int32.toNatClampNeg p1)))) p4) (fun M7 => ck (inb p1 20) (ck (inb p1 20) (lt (mu M7 2 (Int32.toNatClampNeg p1) ((M7 2 (Int32.toNatClampNeg p1)) + 1)) (fun M8 => ck (inb p1 20) (some (((M8 2 (Int32.toNatClampNeg p1)) - 1), M8))))))))))))) else some ((-1), M)) else some ((-1), M)) else some ((-1), M)) else some ((-1), M))
theorem c_X8_panel {l : Launch} {G : GG} {a : AA} {M : Mem} {p1 : Int32} {p2 : Int32} {p3 : Int32} {p4 : Int32} {r : Int32} {M' : Mem} (hf : f_X8_panel a.1 M p1 p2 p3 p4 = some (r, M')) : CtI l G a yX8_panel cX8_panel 6 .int (rmD 2) [.ref (a.2 0), .int p1, .int p2, .int p3, .int p4] M r M' := by
  refine ct_I (by decide) rfl rfl (own := RX8) (Nat.le_of_ble_eq_true rfl) (fun K hl hg S rt => ?_)
  subst hl; subst hg
  unfold f_X8_panel at hf
  show Go K 6 a M 0 [(0, .ref (a.2 0)), (1, .int p1), (2, .int p2), (3, .int p3), (4, .int p4)] []
  refine g_aload_n 0 S dX8_panel_0 rfl ?_
  refine g_iload_n 1 S dX8_panel_1 rfl ?_
  obtain ⟨r1, hr1, hf⟩ := bd1_some hf
  refine g_cVI (st := []) S ob_0 rfl ok_X8_isKite lk_X8_115 (c_X8_isKite hr1) rfl rfl ⟨by decide, by decide⟩ (rmD_z _) (Nat.le_of_ble_eq_true rfl) dX8_panel_2 ?_
  refine g_if_eqB (tgt := 40) S dX8_panel_5 (by decide) hf (fun c hf => ?_) (fun c hf => ?_)
  · refine g_iload_n 2 S dX8_panel_8 rfl ?_
    refine g_iconst (v := 1) S dX8_panel_9 rfl ?_
    refine g_bipush (v := 99) S dX8_panel_10 rfl ?_
    obtain ⟨r2, hr2, hf⟩ := bd1_some hf
    refine g_cSI (st := []) S ok_X8_in lk_X8_111 (c_X8_in hr2) rfl rfl ⟨by decide, by decide⟩ (rmD_z _) (Nat.le_of_ble_eq_true rfl) dX8_panel_12 ?_
    refine g_if_eqB (tgt := 40) S dX8_panel_15 (by decide) hf (fun c hf => ?_) (fun c hf => ?_)
    · refine g_iload_n 3 S dX8_panel_18 rfl ?_
      refine g_bipush (v := (-99)) S dX8_panel_19 rfl ?_
      refine g_bipush (v := 99) S dX8_panel_21 rfl ?_
      obtain ⟨r3, hr3, hf⟩ := bd1_some hf
      refine g_cSI (st := []) S ok_X8_in lk_X8_111 (c_X8_in hr3) rfl rfl ⟨by decide, by decide⟩ (rmD_z _) (Nat.le_of_ble_eq_true rfl) dX8_panel_23 ?_
      refine g_if_eqB (tgt := 40) S dX8_panel_26 (by decide) hf (fun c hf => ?_) (fun c hf => ?_)
      · refine g_iload 4 S dX8_panel_29 rfl ?_
        refine g_iconst (v := 0) S dX8_panel_31 rfl ?_
        refine g_bipush (v := 99) S dX8_panel_32 rfl ?_
        obtain ⟨r4, hr4, hf⟩ := bd1_some hf
        refine g_cSI (st := []) S ok_X8_in lk_X8_111 (c_X8_in hr4) rfl rfl ⟨by decide, by decide⟩ (rmD_z _) (Nat.le_of_ble_eq_true rfl) dX8_panel_34 ?_
        refine g_if_neB (tgt := 42) S dX8_panel_37 (by decide) hf (fun c hf => ?_) (fun c hf => ?_)
        · refine g_aload_n 0 S dX8_panel_42 rfl ?_
          refine g_get (v := .ref (a.2 2)) S ob_0 rfl gi_X8 (by decide) lf_X8_13 rfl dX8_panel_43 ?_
          refine g_iload_n 1 S dX8_panel_46 rfl ?_
          refine g_iald S ia_2 dX8_panel_47 hf (fun hf => ?_)
          refine g_bipush (v := 6) S dX8_panel_48 rfl ?_
          refine g_icmp_ne (tgt := 56) S dX8_panel_50 (by decide) hf (fun c hf => ?_) (fun c hf => ?_)
          · refine g_bipush (v := (-3)) S dX8_panel_53 rfl ?_
            exact g_iretM rt hf dX8_panel_55
          · refine g_bipush (v := 6) S dX8_panel_56 rfl ?_
            refine g_iload_n 1 S dX8_panel_58 rfl ?_
            refine g_imul S dX8_panel_59 ?_
            refine g_aload_n 0 S dX8_panel_60 rfl ?_
            refine g_get (v := .ref (a.2 2)) S ob_0 rfl gi_X8 (by decide) lf_X8_13 rfl dX8_panel_61 ?_
            refine g_iload_n 1 S dX8_panel_64 rfl ?_
            refine g_iald S ia_2 dX8_panel_65 hf (fun hf => ?_)
            refine g_iadd S dX8_panel_66 ?_
            refine g_istore (lv' := [(5, .int ((6 * p1) + (M 2 (Int32.toNatClampNeg p1)))), (0, .ref (a.2 0)), (1, .int p1), (2, .int p2), (3, .int p3), (4, .int p4)]) S dX8_panel_67 (by decide) rfl ?_
            refine g_aload_n 1 S dX8_panel_69 rfl ?_
            refine g_get (v := .ref (a.2 3)) S ob_0 rfl gi_X8 (by decide) lf_X8_17 rfl dX8_panel_70 ?_
            refine g_iload 0 S dX8_panel_73 rfl ?_
            refine g_iload_n 3 S dX8_panel_75 rfl ?_
            refine g_iast S ia_3 dX8_panel_76 hf (fun hf => ?_)
            obtain ⟨M5, eM5, hf⟩ := lt_some hf
            refine Go.M eM5 ?_
            refine g_aload_n 1 S dX8_panel_77 rfl ?_
            refine g_get (v := .ref (a.2 4)) S ob_0 rfl gi_X8 (by decide) lf_X8_20 rfl dX8_panel_78 ?_
            refine g_iload 0 S dX8_panel_81 rfl ?_
            refine g_iload_n 4 S dX8_panel_83 rfl ?_
            refine g_iast S ia_4 dX8_panel_84 hf (fun hf => ?_)
            obtain ⟨M6, eM6, hf⟩ := lt_some hf
            refine Go.M eM6 ?_
            refine g_aload_n 1 S dX8_panel_85 rfl ?_
            refine g_get (v := .ref (a.2 5)) S ob_0 rfl gi_X8 (by decide) lf_X8_23 rfl dX8_panel_86 ?_
            refine g_iload 0 S dX8_panel_89 rfl ?_
            refine g_iload 5 S dX8_panel_91 rfl ?_
            refine g_iast S ia_5 dX8_panel_93 hf (fun hf => ?_)
            obtain ⟨M7, eM7, hf⟩ := lt_some hf
            refine Go.M eM7 ?_
            refine g_aload_n 1 S dX8_panel_94 rfl ?_
            refine g_get (v := .ref (a.2 2)) S ob_0 rfl gi_X8 (by decide) lf_X8_13 rfl dX8_panel_95 ?_
            refine g_iload_n 2 S dX8_panel_98 rfl ?_
            refine g_dup2 S dX8_panel_99 rfl rfl ?_
            refine g_iald S ia_2 dX8_panel_100 hf (fun hf => ?_)
            refine g_iconst (v := 1) S dX8_panel_101 rfl ?_
            refine g_iadd S dX8_panel_102 ?_
            refine g_iast S ia_2 dX8_panel_103 hf (fun hf => ?_)
            obtain ⟨M8, eM8, hf⟩ := lt_some hf
            refine Go.M eM8 ?_
            refine g_aload_n 1 S dX8_panel_104 rfl ?_
            refine g_get (v := .ref (a.2 2)) S ob_0 rfl gi_X8 (by decide) lf_X8_13 rfl dX8_panel_105 ?_
            refine g_iload_n 2 S dX8_panel_108 rfl ?_
            refine g_iald S ia_2 dX8_panel_109 hf (fun hf => ?_)
            refine g_iconst (v := 1) S dX8_panel_110 rfl ?_
            refine g_isub S dX8_panel_111 ?_
            exact g_iretM rt hf dX8_panel_112
        · refine g_iconst (v := (-1)) S dX8_panel_40 rfl ?_
          exact g_iretM rt hf dX8_panel_41
      · refine g_iconst (v := (-1)) S dX8_panel_40 rfl ?_
        exact g_iretM rt hf dX8_panel_41
    · refine g_iconst (v := (-1)) S dX8_panel_40 rfl ?_
      exact g_iretM rt hf dX8_panel_41
  · refine g_iconst (v := (-1)) S dX8_panel_40 rfl ?_
    exact g_iretM rt hf dX8_panel_41
