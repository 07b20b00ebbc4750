-- BridleBook$Cone.reach(IIII)I
theorem dX0_reach_0 : decode cX0_reach 0 = .ok (.iload_n 0, 1) := by decide +kernel
theorem dX0_reach_1 : decode cX0_reach 1 = .ok (.iload_n 1, 1) := by decide +kernel
theorem dX0_reach_2 : decode cX0_reach 2 = .ok (.if_icmp .ne 5, 3) := by decide +kernel
theorem dX0_reach_5 : decode cX0_reach 5 = .ok (.iload_n 2, 1) := by decide +kernel
theorem dX0_reach_6 : decode cX0_reach 6 = .ok (.ireturn, 1) := by decide +kernel
theorem dX0_reach_7 : decode cX0_reach 7 = .ok (.iload_n 0, 1) := by decide +kernel
theorem dX0_reach_8 : decode cX0_reach 8 = .ok (.iload_n 1, 1) := by decide +kernel
theorem dX0_reach_9 : decode cX0_reach 9 = .ok (.isub, 1) := by decide +kernel
theorem dX0_reach_10 : decode cX0_reach 10 = .ok (.invokestatic 36, 3) := by decide +kernel
theorem dX0_reach_13 : decode cX0_reach 13 = .ok (.iconst 2, 1) := by decide +kernel
theorem dX0_reach_14 : decode cX0_reach 14 = .ok (.if_icmp .ne 7, 3) := by decide +kernel
theorem dX0_reach_17 : decode cX0_reach 17 = .ok (.iconst 0, 1) := by decide +kernel
theorem dX0_reach_18 : decode cX0_reach 18 = .ok (.goto 4, 3) := by decide +kernel
theorem dX0_reach_21 : decode cX0_reach 21 = .ok (.iload_n 3, 1) := by decide +kernel
theorem dX0_reach_22 : decode cX0_reach 22 = .ok (.ireturn, 1) := by decide +kernel
def f_X0_reach (z : Nat → Nat) (M : Mem) (p1 : Int32) (p2 : Int32) (p3 : Int32) (p4 : Int32) : Option Int32 := if p1 = p2 then some p3 else if (iabs (p1 - p2)) = 2 then some 0 else some p4
theorem c_X0_reach {l : Launch} {G : GG} {a : AA} {M : Mem} {p1 : Int32} {p2 : Int32} {p3 : Int32} {p4 : Int32} {r : Int32} (hf : f_X0_reach a.1 M p1 p2 p3 p4 = some r) : CtI l G a yX0_reach cX0_reach 4 .int (rmD 1) [.int p1, .int p2, .int p3, .int p4] M r M := by
  refine ct_I (by decide) rfl rfl (own := RX0) (Nat.le_of_ble_eq_true rfl) (fun K hl hg S rt => ?_)
  subst hl; subst hg
  unfold f_X0_reach at hf
  show Go K 4 a M 0 [(0, .int p1), (1, .int p2), (2, .int p3), (3, .int p4)] []
  refine g_iload_n 0 S dX0_reach_0 rfl ?_
  refine g_iload_n 1 S dX0_reach_1 rfl ?_
  refine g_icmp_ne (tgt := 7) S dX0_reach_2 (by decide) hf (fun c hf => ?_) (fun c hf => ?_)
  · refine g_iload_n 2 S dX0_reach_5 rfl ?_
    exact g_iretP rt hf dX0_reach_6
  · refine g_iload_n 0 S dX0_reach_7 rfl ?_
    refine g_iload_n 1 S dX0_reach_8 rfl ?_
    refine g_isub S dX0_reach_9 ?_
    refine g_mabs S lk_X0_36 (by decide) (Nat.le_of_ble_eq_true rfl) dX0_reach_10 ?_
    refine g_iconst (v := 2) S dX0_reach_13 rfl ?_
    refine g_icmp_ne (tgt := 21) S dX0_reach_14 (by decide) hf (fun c hf => ?_) (fun c hf => ?_)
    · refine g_iconst (v := 0) S dX0_reach_17 rfl ?_
      refine g_goto (tgt := 22) S dX0_reach_18 (by decide) ?_
      exact g_iretP rt hf dX0_reach_22
    · refine g_iload_n 3 S dX0_reach_21 rfl ?_
      exact g_iretP rt hf dX0_reach_22
-- BridleBook$Cone.spread(LBridleBook$Flyer;III)V
theorem dX0_spread_0 : decode cX0_spread 0 = .ok (.aload_n 0, 1) := by decide +kernel
theorem dX0_spread_1 : decode cX0_spread 1 = .ok (.aload_n 1, 1) := by decide +kernel
theorem dX0_spread_2 : decode cX0_spread 2 = .ok (.getfield 24, 3) := by decide +kernel
theorem dX0_spread_5 : decode cX0_spread 5 = .ok (.iconst 0, 1) := by decide +kernel
theorem dX0_spread_6 : decode cX0_spread 6 = .ok (.iload_n 2, 1) := by decide +kernel
theorem dX0_spread_7 : decode cX0_spread 7 = .ok (.iload_n 3, 1) := by decide +kernel
theorem dX0_spread_8 : decode cX0_spread 8 = .ok (.iload 4, 2) := by decide +kernel
theorem dX0_spread_10 : decode cX0_spread 10 = .ok (.invokestatic 29, 3) := by decide +kernel
theorem dX0_spread_13 : decode cX0_spread 13 = .ok (.iadd, 1) := by decide +kernel
theorem dX0_spread_14 : decode cX0_spread 14 = .ok (.putfield 15, 3) := by decide +kernel
theorem dX0_spread_17 : decode cX0_spread 17 = .ok (.aload_n 0, 1) := by decide +kernel
theorem dX0_spread_18 : decode cX0_spread 18 = .ok (.aload_n 1, 1) := by decide +kernel
theorem dX0_spread_19 : decode cX0_spread 19 = .ok (.getfield 33, 3) := by decide +kernel
theorem dX0_spread_22 : decode cX0_spread 22 = .ok (.iconst 1, 1) := by decide +kernel
theorem dX0_spread_23 : decode cX0_spread 23 = .ok (.iload_n 2, 1) := by decide +kernel
theorem dX0_spread_24 : decode cX0_spread 24 = .ok (.iload_n 3, 1) := by decide +kernel
theorem dX0_spread_25 : decode cX0_spread 25 = .ok (.iload 4, 2) := by decide +kernel
theorem dX0_spread_27 : decode cX0_spread 27 = .ok (.invokestatic 29, 3) := by decide +kernel
theorem dX0_spread_30 : decode cX0_spread 30 = .ok (.iadd, 1) := by decide +kernel
theorem dX0_spread_31 : decode cX0_spread 31 = .ok (.putfield 21, 3) := by decide +kernel
theorem dX0_spread_34 : decode cX0_spread 34 = .ok (.aload_n 0, 1) := by decide +kernel
theorem dX0_spread_35 : decode cX0_spread 35 = .ok (.aload_n 1, 1) := by decide +kernel
theorem dX0_spread_36 : decode cX0_spread 36 = .ok (.getfield 24, 3) := by decide +kernel
theorem dX0_spread_39 : decode cX0_spread 39 = .ok (.iconst 2, 1) := by decide +kernel
theorem dX0_spread_40 : decode cX0_spread 40 = .ok (.iload_n 2, 1) := by decide +kernel
theorem dX0_spread_41 : decode cX0_spread 41 = .ok (.iload_n 3, 1) := by decide +kernel
theorem dX0_spread_42 : decode cX0_spread 42 = .ok (.iload 4, 2) := by decide +kernel
theorem dX0_spread_44 : decode cX0_spread 44 = .ok (.invokestatic 29, 3) := by decide +kernel
theorem dX0_spread_47 : decode cX0_spread 47 = .ok (.isub, 1) := by decide +kernel
theorem dX0_spread_48 : decode cX0_spread 48 = .ok (.putfield 9, 3) := by decide +kernel
theorem dX0_spread_51 : decode cX0_spread 51 = .ok (.aload_n 0, 1) := by decide +kernel
theorem dX0_spread_52 : decode cX0_spread 52 = .ok (.aload_n 1, 1) := by decide +kernel
theorem dX0_spread_53 : decode cX0_spread 53 = .ok (.getfield 33, 3) := by decide +kernel
theorem dX0_spread_56 : decode cX0_spread 56 = .ok (.iconst 3, 1) := by decide +kernel
theorem dX0_spread_57 : decode cX0_spread 57 = .ok (.iload_n 2, 1) := by decide +kernel
theorem dX0_spread_58 : decode cX0_spread 58 = .ok (.iload_n 3, 1) := by decide +kernel
theorem dX0_spread_59 : decode cX0_spread 59 = .ok (.iload 4, 2) := by decide +kernel
theorem dX0_spread_61 : decode cX0_spread 61 = .ok (.invokestatic 29, 3) := by decide +kernel
theorem dX0_spread_64 : decode cX0_spread 64 = .ok (.isub, 1) := by decide +kernel
theorem dX0_spread_65 : decode cX0_spread 65 = .ok (.putfield 18, 3) := by decide +kernel
theorem dX0_spread_68 : decode cX0_spread 68 = .ok (.return_, 1) := by decide +kernel
def f_X0_spread (z : Nat → Nat) (u0 : Nat) (u1 : Nat) (M : Mem) (p2 : Int32) (p3 : Int32) (p4 : Int32) : Option Mem := bd1 (f_X0_reach z M 0 p2 p3 p4) (fun r1 => bd1 (f_X0_reach z (mu M u0 1 ((M u1 0) + r1)) 1 p2 p3 p4) (fun r2 => lt (mu (mu M u0 1 ((M u1 0) + r1)) u0 3 (((mu M u0 1 ((M u1 0) + r1)) u1 1) + r2)) (fun M3 => bd1 (f_X0_reach z M3 2 p2 p3 p4) (fun r4 => bd1 (f_X0_reach z (mu M3 u0 0 ((M3 u1 0) - r4)) 3 p2 p3 p4) (fun r5 => lt (mu (mu M3 u0 0 ((M3 u1 0) - r4)) u0 2 (((mu M3 u0 0 ((M3 u1 0) - r4)) u1 1) - r5)) (fun M6 => some M6))))))
theorem c_X0_spread {l : Launch} {G : GG} {a : AA} {u0 : Nat} (hu0 : vC u0) {u1 : Nat} (hu1 : vF a.1 u1) {M : Mem} {p2 : Int32} {p3 : Int32} {p4 : Int32}  {M' : Mem} (hf : f_X0_spread a.1 u0 u1 M p2 p3 p4 = some M') : CtV l G a yX0_spread cX0_spread 5 (rmD 2) [.ref (a.2 u0), .ref (a.2 u1), .int p2, .int p3, .int p4] M M' := by
  refine ct_V (by decide) rfl (own := RX0) (Nat.le_of_ble_eq_true rfl) (fun K hl hg S rt => ?_)
  subst hl; subst hg
  unfold f_X0_spread at hf
  show Go K 5 a M 0 [(0, .ref (a.2 u0)), (1, .ref (a.2 u1)), (2, .int p2), (3, .int p3), (4, .int p4)] []
  refine g_aload_n 0 S dX0_spread_0 rfl ?_
  refine g_aload_n 1 S dX0_spread_1 rfl ?_
  refine g_get (v := .int (M u1 0)) S (ob_F hu1) rfl gi_X1 (by decide) lf_X0_24 rfl dX0_spread_2 ?_
  refine g_iconst (v := 0) S dX0_spread_5 rfl ?_
  refine g_iload_n 2 S dX0_spread_6 rfl ?_
  refine g_iload_n 3 S dX0_spread_7 rfl ?_
  refine g_iload 4 S dX0_spread_8 rfl ?_
  obtain ⟨r1, hr1, hf⟩ := bd1_some hf
  refine g_cSI (st := [.int (M u1 0), .ref (a.2 u0)]) S ok_X0_reach lk_X0_29 (c_X0_reach hr1) rfl rfl ⟨by decide, by decide⟩ (rmD_z _) (Nat.le_of_ble_eq_true rfl) dX0_spread_10 ?_
  refine g_iadd S dX0_spread_13 ?_
  refine g_put (ty := .int) S (ob_C hu0) rfl gi_X0 tyX0_ok nmX0 (by decide) lf_X0_15 rfl (by decide +kernel) rfl rfl (Nat.le_of_ble_eq_true rfl) rfl dX0_spread_14 ?_
  refine g_aload_n 0 S dX0_spread_17 rfl ?_
  refine g_aload_n 1 S dX0_spread_18 rfl ?_
  refine g_get (v := .int ((mu M u0 1 ((M u1 0) + r1)) u1 1)) S (ob_F hu1) rfl gi_X1 (by decide) lf_X0_33 rfl dX0_spread_19 ?_
  refine g_iconst (v := 1) S dX0_spread_22 rfl ?_
  refine g_iload_n 2 S dX0_spread_23 rfl ?_
  refine g_iload_n 3 S dX0_spread_24 rfl ?_
  refine g_iload 4 S dX0_spread_25 rfl ?_
  obtain ⟨r2, hr2, hf⟩ := bd1_some hf
  refine g_cSI (st := [.int ((mu M u0 1 ((M u1 0) + r1)) u1 1), .ref (a.2 u0)]) S ok_X0_reach lk_X0_29 (c_X0_reach hr2) rfl rfl ⟨by decide, by decide⟩ (rmD_z _) (Nat.le_of_ble_eq_true rfl) dX0_spread_27 ?_
  refine g_iadd S dX0_spread_30 ?_
  refine g_put (ty := .int) S (ob_C hu0) rfl gi_X0 tyX0_ok nmX0 (by decide) lf_X0_21 rfl (by decide +kernel) rfl rfl (Nat.le_of_ble_eq_true rfl) rfl dX0_spread_31 ?_
  obtain ⟨M3, eM3, hf⟩ := lt_some hf
  refine Go.M eM3 ?_
  refine g_aload_n 0 S dX0_spread_34 rfl ?_
  refine g_aload_n 1 S dX0_spread_35 rfl ?_
  refine g_get (v := .int (M3 u1 0)) S (ob_F hu1) rfl gi_X1 (by decide) lf_X0_24 rfl dX0_spread_36 ?_
  refine g_iconst (v := 2) S dX0_spread_39 rfl ?_
  refine g_iload_n 2 S dX0_spread_40 rfl ?_
  refine g_iload_n 3 S dX0_spread_41 rfl ?_
  refine g_iload 4 S dX0_spread_42 rfl ?_
  obtain ⟨r4, hr4, hf⟩ := bd1_some hf
  refine g_cSI (st := [.int (M3 u1 0), .ref (a.2 u0)]) S ok_X0_reach lk_X0_29 (c_X0_reach hr4) rfl rfl ⟨by decide, by decide⟩ (rmD_z _) (Nat.le_of_ble_eq_true rfl) dX0_spread_44 ?_
  refine g_isub S dX0_spread_47 ?_
  refine g_put (ty := .int) S (ob_C hu0) rfl gi_X0 tyX0_ok nmX0 (by decide) lf_X0_9 rfl (by decide +kernel) rfl rfl (Nat.le_of_ble_eq_true rfl) rfl dX0_spread_48 ?_
  refine g_aload_n 0 S dX0_spread_51 rfl ?_
  refine g_aload_n 1 S dX0_spread_52 rfl ?_
  refine g_get (v := .int ((mu M3 u0 0 ((M3 u1 0) - r4)) u1 1)) S (ob_F hu1) rfl gi_X1 (by decide) lf_X0_33 rfl dX0_spread_53 ?_
  refine g_iconst (v := 3) S dX0_spread_56 rfl ?_
  refine g_iload_n 2 S dX0_spread_57 rfl ?_
  refine g_iload_n 3 S dX0_spread_58 rfl ?_
  refine g_iload 4 S dX0_spread_59 rfl ?_
  obtain ⟨r5, hr5, hf⟩ := bd1_some hf
  refine g_cSI (st := [.int ((mu M3 u0 0 ((M3 u1 0) - r4)) u1 1), .ref (a.2 u0)]) S ok_X0_reach lk_X0_29 (c_X0_reach hr5) rfl rfl ⟨by decide, by decide⟩ (rmD_z _) (Nat.le_of_ble_eq_true rfl) dX0_spread_61 ?_
  refine g_isub S dX0_spread_64 ?_
  refine g_put (ty := .int) S (ob_C hu0) rfl gi_X0 tyX0_ok nmX0 (by decide) lf_X0_18 rfl (by decide +kernel) rfl rfl (Nat.le_of_ble_eq_true rfl) rfl dX0_spread_65 ?_
  obtain ⟨M6, eM6, hf⟩ := lt_some hf
  refine Go.M eM6 ?_
  exact g_vretM rt hf dX0_spread_68
-- BridleBook.within(III)Z
theorem dX7_within_0 : decode cX7_within 0 = .ok (.iload_n 0, 1) := by decide +kernel
theorem dX7_within_1 : decode cX7_within 1 = .ok (.iload_n 1, 1) := by decide +kernel
theorem dX7_within_2 : decode cX7_within 2 = .ok (.if_icmp .lt 12, 3) := by decide +kernel
theorem dX7_within_5 : decode cX7_within 5 = .ok (.iload_n 0, 1) := by decide +kernel
theorem dX7_within_6 : decode cX7_within 6 = .ok (.iload_n 2, 1) := by decide +kernel
theorem dX7_within_7 : decode cX7_within 7 = .ok (.if_icmp .gt 7, 3) := by decide +kernel
theorem dX7_within_10 : decode cX7_within 10 = .ok (.iconst 1, 1) := by decide +kernel
theorem dX7_within_11 : decode cX7_within 11 = .ok (.goto 4, 3) := by decide +kernel
theorem dX7_within_14 : decode cX7_within 14 = .ok (.iconst 0, 1) := by decide +kernel
theorem dX7_within_15 : decode cX7_within 15 = .ok (.ireturn, 1) := by decide +kernel
def f_X7_within (z : Nat → Nat) (M : Mem) (p1 : Int32) (p2 : Int32) (p3 : Int32) : Option Bool := if p1 < p2 then some false else if p3 < p1 then some false else some true
theorem c_X7_within {l : Launch} {G : GG} {a : AA} {M : Mem} {p1 : Int32} {p2 : Int32} {p3 : Int32} {r : Bool} (hf : f_X7_within a.1 M p1 p2 p3 = some r) : CtI l G a yX7_within cX7_within 3 .boolean (rmD 0) [.int p1, .int p2, .int p3] M (b2i r) M := by
  refine ct_I (by decide) rfl (b2i_n _) (own := RX7) (Nat.le_of_ble_eq_true rfl) (fun K hl hg S rt => ?_)
  subst hl; subst hg
  unfold f_X7_within at hf
  show Go K 3 a M 0 [(0, .int p1), (1, .int p2), (2, .int p3)] []
  refine g_iload_n 0 S dX7_within_0 rfl ?_
  refine g_iload_n 1 S dX7_within_1 rfl ?_
  refine g_icmp_lt (tgt := 14) S dX7_within_2 (by decide) hf (fun c hf => ?_) (fun c hf => ?_)
  · refine g_iconst (v := 0) S dX7_within_14 rfl ?_
    exact g_zretP rt hf dX7_within_15 rfl
  · refine g_iload_n 0 S dX7_within_5 rfl ?_
    refine g_iload_n 2 S dX7_within_6 rfl ?_
    refine g_icmp_gt (tgt := 14) S dX7_within_7 (by decide) hf (fun c hf => ?_) (fun c hf => ?_)
    · refine g_iconst (v := 0) S dX7_within_14 rfl ?_
      exact g_zretP rt hf dX7_within_15 rfl
    · refine g_iconst (v := 1) S dX7_within_10 rfl ?_
      refine g_goto (tgt := 15) S dX7_within_11 (by decide) ?_
      exact g_zretP rt hf dX7_within_15 rfl
-- BridleBook$Cone.holds(I)Z
theorem dX0_holds_0 : decode cX0_holds 0 = .ok (.iload_n 1, 1) := by decide +kernel
theorem dX0_holds_1 : decode cX0_holds 1 = .ok (.sipush 200, 3) := by decide +kernel
theorem dX0_holds_4 : decode cX0_holds 4 = .ok (.idiv, 1) := by decide +kernel
theorem dX0_holds_5 : decode cX0_holds 5 = .ok (.aload_n 0, 1) := by decide +kernel
theorem dX0_holds_6 : decode cX0_holds 6 = .ok (.getfield 9, 3) := by decide +kernel
theorem dX0_holds_9 : decode cX0_holds 9 = .ok (.aload_n 0, 1) := by decide +kernel
theorem dX0_holds_10 : decode cX0_holds 10 = .ok (.getfield 15, 3) := by decide +kernel
theorem dX0_holds_13 : decode cX0_holds 13 = .ok (.invokestatic 42, 3) := by decide +kernel
theorem dX0_holds_16 : decode cX0_holds 16 = .ok (.ifCond .eq 26, 3) := by decide +kernel
theorem dX0_holds_19 : decode cX0_holds 19 = .ok (.iload_n 1, 1) := by decide +kernel
theorem dX0_holds_20 : decode cX0_holds 20 = .ok (.sipush 200, 3) := by decide +kernel
theorem dX0_holds_23 : decode cX0_holds 23 = .ok (.irem, 1) := by decide +kernel
theorem dX0_holds_24 : decode cX0_holds 24 = .ok (.aload_n 0, 1) := by decide +kernel
theorem dX0_holds_25 : decode cX0_holds 25 = .ok (.getfield 18, 3) := by decide +kernel
theorem dX0_holds_28 : decode cX0_holds 28 = .ok (.aload_n 0, 1) := by decide +kernel
theorem dX0_holds_29 : decode cX0_holds 29 = .ok (.getfield 21, 3) := by decide +kernel
theorem dX0_holds_32 : decode cX0_holds 32 = .ok (.invokestatic 42, 3) := by decide +kernel
theorem dX0_holds_35 : decode cX0_holds 35 = .ok (.ifCond .eq 7, 3) := by decide +kernel
theorem dX0_holds_38 : decode cX0_holds 38 = .ok (.iconst 1, 1) := by decide +kernel
theorem dX0_holds_39 : decode cX0_holds 39 = .ok (.goto 4, 3) := by decide +kernel
theorem dX0_holds_42 : decode cX0_holds 42 = .ok (.iconst 0, 1) := by decide +kernel
theorem dX0_holds_43 : decode cX0_holds 43 = .ok (.ireturn, 1) := by decide +kernel
def f_X0_holds (z : Nat → Nat) (u0 : Nat) (M : Mem) (p1 : Int32) : Option Bool := bd1 (f_X7_within z M (p1 / 200) (M u0 0) (M u0 1)) (fun r1 => if r1 = true then bd1 (f_X7_within z M (irem p1 200) (M u0 2) (M u0 3)) (fun r2 => if r2 = true then some true else some false) else some false)
theorem c_X0_holds {l : Launch} {G : GG} {a : AA} {u0 : Nat} (hu0 : vC u0) {M : Mem} {p1 : Int32} {r : Bool} (hf : f_X0_holds a.1 u0 M p1 = some r) : CtI l G a yX0_holds cX0_holds 2 .boolean (rmD 1) [.ref (a.2 u0), .int p1] M (b2i r) M := by
  refine ct_I (by decide) rfl (b2i_n _) (own := RX0) (Nat.le_of_ble_eq_true rfl) (fun K hl hg S rt => ?_)
  subst hl; subst hg
  unfold f_X0_holds at hf
  show Go K 2 a M 0 [(0, .ref (a.2 u0)), (1, .int p1)] []
  refine g_iload_n 1 S dX0_holds_0 rfl ?_
  refine g_sipush (v := 200) S dX0_holds_1 rfl ?_
  refine g_idiv S dX0_holds_4 (by decide) ?_
  refine g_aload_n 0 S dX0_holds_5 rfl ?_
  refine g_get (v := .int (M u0 0)) S (ob_C hu0) rfl gi_X0 (by decide) lf_X0_9 rfl dX0_holds_6 ?_
  refine g_aload_n 0 S dX0_holds_9 rfl ?_
  refine g_get (v := .int (M u0 1)) S (ob_C hu0) rfl gi_X0 (by decide) lf_X0_15 rfl dX0_holds_10 ?_
  obtain ⟨r1, hr1, hf⟩ := bd1_some hf
  refine g_cNI (st := []) S ok_X7_within ln_X0_42 (c_X7_within hr1) rfl rfl ⟨by decide, by decide⟩ (rmD_z _) (Nat.le_of_ble_eq_true rfl) dX0_holds_13 ?_
  refine g_if_eqB (tgt := 42) S dX0_holds_16 (by decide) hf (fun c hf => ?_) (fun c hf => ?_)
  · refine g_iload_n 1 S dX0_holds_19 rfl ?_
    refine g_sipush (v := 200) S dX0_holds_20 rfl ?_
    refine g_irem S dX0_holds_23 (by decide) ?_
    refine g_aload_n 0 S dX0_holds_24 rfl ?_
    refine g_get (v := .int (M u0 2)) S (ob_C hu0) rfl gi_X0 (by decide) lf_X0_18 rfl dX0_holds_25 ?_
    refine g_aload_n 0 S dX0_holds_28 rfl ?_
    refine g_get (v := .int (M u0 3)) S (ob_C hu0) rfl gi_X0 (by decide) lf_X0_21 rfl dX0_holds_29 ?_
    obtain ⟨r2, hr2, hf⟩ := bd1_some hf
    refine g_cNI (st := []) S ok_X7_within ln_X0_42 (c_X7_within hr2) rfl rfl ⟨by decide, by decide⟩ (rmD_z _) (Nat.le_of_ble_eq_true rfl) dX0_holds_32 ?_
    refine g_if_eqB (tgt := 42) S dX0_holds_35 (by decide) hf (fun c hf => ?_) (fun c hf => ?_)
    · refine g_iconst (v := 1) S dX0_holds_38 rfl ?_
      refine g_goto (tgt := 43) S dX0_holds_39 (by decide) ?_
      exact g_zretP rt hf dX0_holds_43 rfl
    · refine g_iconst (v := 0) S dX0_holds_42 rfl ?_
      exact g_zretP rt hf dX0_holds_43 rfl
  · refine g_iconst (v := 0) S dX0_holds_42 rfl ?_
    exact g_zretP rt hf dX0_holds_43 rfl
-- BridleBook$Cone.meets(LBridleBook$Cone;)Z
theorem dX0_meets_0 : decode cX0_meets 0 = .ok (.aload_n 0, 1) := by decide +kernel
theorem dX0_meets_1 : decode cX0_meets 1 = .ok (.getfield 9, 3) := by decide +kernel
theorem dX0_meets_4 : decode cX0_meets 4 = .ok (.aload_n 1, 1) := by decide +kernel
theorem dX0_meets_5 : decode cX0_meets 5 = .ok (.getfield 15, 3) := by decide +kernel
theorem dX0_meets_8 : decode cX0_meets 8 = .ok (.if_icmp .gt 40, 3) := by decide +kernel
theorem dX0_meets_11 : decode cX0_meets 11 = .ok (.aload_n 1, 1) := by decide +kernel
theorem dX0_meets_12 : decode cX0_meets 12 = .ok (.getfield 9, 3) := by decide +kernel
theorem dX0_meets_15 : decode cX0_meets 15 = .ok (.aload_n 0, 1) := by decide +kernel
theorem dX0_meets_16 : decode cX0_meets 16 = .ok (.getfield 15, 3) := by decide +kernel
theorem dX0_meets_19 : decode cX0_meets 19 = .ok (.if_icmp .gt 29, 3) := by decide +kernel
theorem dX0_meets_22 : decode cX0_meets 22 = .ok (.aload_n 0, 1) := by decide +kernel
theorem dX0_meets_23 : decode cX0_meets 23 = .ok (.getfield 18, 3) := by decide +kernel
theorem dX0_meets_26 : decode cX0_meets 26 = .ok (.aload_n 1, 1) := by decide +kernel
theorem dX0_meets_27 : decode cX0_meets 27 = .ok (.getfield 21, 3) := by decide +kernel
theorem dX0_meets_30 : decode cX0_meets 30 = .ok (.if_icmp .gt 18, 3) := by decide +kernel
theorem dX0_meets_33 : decode cX0_meets 33 = .ok (.aload_n 1, 1) := by decide +kernel
theorem dX0_meets_34 : decode cX0_meets 34 = .ok (.getfield 18, 3) := by decide +kernel
theorem dX0_meets_37 : decode cX0_meets 37 = .ok (.aload_n 0, 1) := by decide +kernel
theorem dX0_meets_38 : decode cX0_meets 38 = .ok (.getfield 21, 3) := by decide +kernel
theorem dX0_meets_41 : decode cX0_meets 41 = .ok (.if_icmp .gt 7, 3) := by decide +kernel
theorem dX0_meets_44 : decode cX0_meets 44 = .ok (.iconst 1, 1) := by decide +kernel
theorem dX0_meets_45 : decode cX0_meets 45 = .ok (.goto 4, 3) := by decide +kernel
theorem dX0_meets_48 : decode cX0_meets 48 = .ok (.iconst 0, 1) := by decide +kernel
theorem dX0_meets_49 : decode cX0_meets 49 = .ok (.ireturn, 1) := by decide +kernel
def f_X0_meets (z : Nat → Nat) (u0 : Nat) (u1 : Nat) (M : Mem) : Option Bool := if (M u1 1) < (M u0 0) then some false else if (M u0 1) < (M u1 0) then some false else if (M u1 3) < (M u0 2) then some false else if (M u0 3) < (M u1 2) then some false else some true
theorem c_X0_meets {l : Launch} {G : GG} {a : AA} {u0 : Nat} (hu0 : vC u0) {u1 : Nat} (hu1 : vC u1) {M : Mem} {r : Bool} (hf : f_X0_meets a.1 u0 u1 M = some r) : CtI l G a yX0_meets cX0_meets 2 .boolean (rmD 0) [.ref (a.2 u0), .ref (a.2 u1)] M (b2i r) M := by
  refine ct_I (by decide) rfl (b2i_n _) (own := RX0) (Nat.le_of_ble_eq_true rfl) (fun K hl hg S rt => ?_)
  subst hl; subst hg
  unfold f_X0_meets at hf
  show Go K 2 a M 0 [(0, .ref (a.2 u0)), (1, .ref (a.2 u1))] []
  refine g_aload_n 0 S dX0_meets_0 rfl ?_
  refine g_get (v := .int (M u0 0)) S (ob_C hu0) rfl gi_X0 (by decide) lf_X0_9 rfl dX0_meets_1 ?_
  refine g_aload_n 1 S dX0_meets_4 rfl ?_
  refine g_get (v := .int (M u1 1)) S (ob_C hu1) rfl gi_X0 (by decide) lf_X0_15 rfl dX0_meets_5 ?_
  refine g_icmp_gt (tgt := 48) S dX0_meets_8 (by decide) hf (fun c hf => ?_) (fun c hf => ?_)
  · refine g_iconst (v := 0) S dX0_meets_48 rfl ?_
    exact g_zretP rt hf dX0_meets_49 rfl
  · refine g_aload_n 1 S dX0_meets_11 rfl ?_
    refine g_get (v := .int (M u1 0)) S (ob_C hu1) rfl gi_X0 (by decide) lf_X0_9 rfl dX0_meets_12 ?_
    refine g_aload_n 0 S dX0_meets_15 rfl ?_
    refine g_get (v := .int (M u0 1)) S (ob_C hu0) rfl gi_X0 (by decide) lf_X0_15 rfl dX0_meets_16 ?_
    refine g_icmp_gt (tgt := 48) S dX0_meets_19 (by decide) hf (fun c hf => ?_) (fun c hf => ?_)
    · refine g_iconst (v := 0) S dX0_meets_48 rfl ?_
      exact g_zretP rt hf dX0_meets_49 rfl
    · refine g_aload_n 0 S dX0_meets_22 rfl ?_
      refine g_get (v := .int (M u0 2)) S (ob_C hu0) rfl gi_X0 (by decide) lf_X0_18 rfl dX0_meets_23 ?_
      refine g_aload_n 1 S dX0_meets_26 rfl ?_
      refine g_get (v := .int (M u1 3)) S (ob_C hu1) rfl gi_X0 (by decide) lf_X0_21 rfl dX0_meets_27 ?_
      refine g_icmp_gt (tgt := 48) S dX0_meets_30 (by decide) hf (fun c hf => ?_) (fun c hf => ?_)
      · refine g_iconst (v := 0) S dX0_meets_48 rfl ?_
        exact g_zretP rt hf dX0_meets_49 rfl
      · refine g_aload_n 1 S dX0_meets_33 rfl ?_
        refine g_get (v := .int (M u1 2)) S (ob_C hu1) rfl gi_X0 (by decide) lf_X0_18 rfl dX0_meets_34 ?_
        refine g_aload_n 0 S dX0_meets_37 rfl ?_
        refine g_get (v := .int (M u0 3)) S (ob_C hu0) rfl gi_X0 (by decide) lf_X0_21 rfl dX0_meets_38 ?_
        refine g_icmp_gt (tgt := 48) S dX0_meets_41 (by decide) hf (fun c hf => ?_) (fun c hf => ?_)
        · refine g_iconst (v := 0) S dX0_meets_48 rfl ?_
          exact g_zretP rt hf dX0_meets_49 rfl
        · refine g_iconst (v := 1) S dX0_meets_44 rfl ?_
          refine g_goto (tgt := 49) S dX0_meets_45 (by decide) ?_
          exact g_zretP rt hf dX0_meets_49 rfl
-- BridleBook$Kite.addPanel(III)I
theorem dX2_addPanel_0 : decode cX2_addPanel 0 = .ok (.aload_n 0, 1) := by decide +kernel
theorem dX2_addPanel_1 : decode cX2_addPanel 1 = .ok (.getfield 21, 3) := by decide +kernel
theorem dX2_addPanel_4 : decode cX2_addPanel 4 = .ok (.bipush 6, 2) := by decide +kernel
theorem dX2_addPanel_6 : decode cX2_addPanel 6 = .ok (.if_icmp .lt 6, 3) := by decide +kernel
theorem dX2_addPanel_9 : decode cX2_addPanel 9 = .ok (.bipush (-3), 2) := by decide +kernel
theorem dX2_addPanel_11 : decode cX2_addPanel 11 = .ok (.ireturn, 1) := by decide +kernel
theorem dX2_addPanel_12 : decode cX2_addPanel 12 = .ok (.aload_n 0, 1) := by decide +kernel
theorem dX2_addPanel_13 : decode cX2_addPanel 13 = .ok (.getfield 9, 3) := by decide +kernel
theorem dX2_addPanel_16 : decode cX2_addPanel 16 = .ok (.aload_n 0, 1) := by decide +kernel
theorem dX2_addPanel_17 : decode cX2_addPanel 17 = .ok (.getfield 21, 3) := by decide +kernel
theorem dX2_addPanel_20 : decode cX2_addPanel 20 = .ok (.iload_n 1, 1) := by decide +kernel
theorem dX2_addPanel_21 : decode cX2_addPanel 21 = .ok (.iastore, 1) := by decide +kernel
theorem dX2_addPanel_22 : decode cX2_addPanel 22 = .ok (.aload_n 0, 1) := by decide +kernel
theorem dX2_addPanel_23 : decode cX2_addPanel 23 = .ok (.getfield 15, 3) := by decide +kernel
theorem dX2_addPanel_26 : decode cX2_addPanel 26 = .ok (.aload_n 0, 1) := by decide +kernel
theorem dX2_addPanel_27 : decode cX2_addPanel 27 = .ok (.getfield 21, 3) := by decide +kernel
theorem dX2_addPanel_30 : decode cX2_addPanel 30 = .ok (.iload_n 2, 1) := by decide +kernel
theorem dX2_addPanel_31 : decode cX2_addPanel 31 = .ok (.iastore, 1) := by decide +kernel
theorem dX2_addPanel_32 : decode cX2_addPanel 32 = .ok (.aload_n 0, 1) := by decide +kernel
theorem dX2_addPanel_33 : decode cX2_addPanel 33 = .ok (.getfield 18, 3) := by decide +kernel
theorem dX2_addPanel_36 : decode cX2_addPanel 36 = .ok (.aload_n 0, 1) := by decide +kernel
theorem dX2_addPanel_37 : decode cX2_addPanel 37 = .ok (.getfield 21, 3) := by decide +kernel
theorem dX2_addPanel_40 : decode cX2_addPanel 40 = .ok (.iload_n 3, 1) := by decide +kernel
theorem dX2_addPanel_41 : decode cX2_addPanel 41 = .ok (.iastore, 1) := by decide +kernel
theorem dX2_addPanel_42 : decode cX2_addPanel 42 = .ok (.aload_n 0, 1) := by decide +kernel
theorem dX2_addPanel_43 : decode cX2_addPanel 43 = .ok (.dup, 1) := by decide +kernel
theorem dX2_addPanel_44 : decode cX2_addPanel 44 = .ok (.getfield 21, 3) := by decide +kernel
theorem dX2_addPanel_47 : decode cX2_addPanel 47 = .ok (.iconst 1, 1) := by decide +kernel
theorem dX2_addPanel_48 : decode cX2_addPanel 48 = .ok (.iadd, 1) := by decide +kernel
theorem dX2_addPanel_49 : decode cX2_addPanel 49 = .ok (.putfield 21, 3) := by decide +kernel
theorem dX2_addPanel_52 : decode cX2_addPanel 52 = .ok (.aload_n 0, 1) := by decide +kernel
theorem dX2_addPanel_53 : decode cX2_addPanel 53 = .ok (.getfield 21, 3) := by decide +kernel
theorem dX2_addPanel_56 : decode cX2_addPanel 56 = .ok (.iconst 1, 1) := by decide +kernel
theorem dX2_addPanel_57 : decode cX2_addPanel 57 = .ok (.isub, 1) := by decide +kernel
theorem dX2_addPanel_58 : decode cX2_addPanel 58 = .ok (.ireturn, 1) := by decide +kernel
def f_X2_addPanel (z : Nat → Nat) (u0 : Nat) (M : Mem) (p1 : Int32) (p2 : Int32) (p3 : Int32) : Option (Int32 × Mem) := if (M u0 3) < 6 then ck (inb (M u0 3) 6) (ck (inb ((mu M (u0 + 1) (Int32.toNatClampNeg (M u0 3)) p1) u0 3) 6) (lt (mu (mu M (u0 + 1) (Int32.toNatClampNeg (M u0 3)) p1) (u0 + 2) (Int32.toNatClampNeg ((mu M (u0 + 1) (Int32.toNatClampNeg (M u0 3)) p1) u0 3)) p2) (fun M1 => ck (inb (M1 u0 3) 6) (lt (mu (mu M1 (u0 + 3) (Int32.toNatClampNeg (M1 u0 3)) p3) u0 3 (((mu M1 (u0 + 3) (Int32.toNatClampNeg (M1 u0 3)) p3) u0 3) + 1)) (fun M2 => some (((M2 u0 3) - 1), M2)))))) else some ((-3), M)
theorem c_X2_addPanel {l : Launch} {G : GG} {a : AA} {u0 : Nat} (hu0 : vK a.1 u0) {M : Mem} {p1 : Int32} {p2 : Int32} {p3 : Int32} {r : Int32} {M' : Mem} (hf : f_X2_addPanel a.1 u0 M p1 p2 p3 = some (r, M')) : CtI l G a yX2_addPanel cX2_addPanel 4 .int (rmD 0) [.ref (a.2 u0), .int p1, .int p2, .int p3] M r M' := by
  refine ct_I (by decide) rfl rfl (own := RX2) (Nat.le_of_ble_eq_true rfl) (fun K hl hg S rt => ?_)
  subst hl; subst hg
  unfold f_X2_addPanel at hf
  show Go K 4 a M 0 [(0, .ref (a.2 u0)), (1, .int p1), (2, .int p2), (3, .int p3)] []
  refine g_aload_n 0 S dX2_addPanel_0 rfl ?_
  refine g_get (v := .int (M u0 3)) S (ob_K hu0) rfl gi_X2 (by decide) lf_X2_21 rfl dX2_addPanel_1 ?_
  refine g_bipush (v := 6) S dX2_addPanel_4 rfl ?_
  refine g_icmp_lt (tgt := 12) S dX2_addPanel_6 (by decide) hf (fun c hf => ?_) (fun c hf => ?_)
  · refine g_aload_n 0 S dX2_addPanel_12 rfl ?_
    refine g_get (v := .ref (a.2 (u0 + 1))) S (ob_K hu0) rfl gi_X2 (by decide) lf_X2_9 rfl dX2_addPanel_13 ?_
    refine g_aload_n 0 S dX2_addPanel_16 rfl ?_
    refine g_get (v := .int (M u0 3)) S (ob_K hu0) rfl gi_X2 (by decide) lf_X2_21 rfl dX2_addPanel_17 ?_
    refine g_iload_n 1 S dX2_addPanel_20 rfl ?_
    refine g_iast S (ia_K1 hu0) dX2_addPanel_21 hf (fun hf => ?_)
    refine g_aload_n 0 S dX2_addPanel_22 rfl ?_
    refine g_get (v := .ref (a.2 (u0 + 2))) S (ob_K hu0) rfl gi_X2 (by decide) lf_X2_15 rfl dX2_addPanel_23 ?_
    refine g_aload_n 0 S dX2_addPanel_26 rfl ?_
    refine g_get (v := .int ((mu M (u0 + 1) (Int32.toNatClampNeg (M u0 3)) p1) u0 3)) S (ob_K hu0) rfl gi_X2 (by decide) lf_X2_21 rfl dX2_addPanel_27 ?_
    refine g_iload_n 2 S dX2_addPanel_30 rfl ?_
    refine g_iast S (ia_K2 hu0) dX2_addPanel_31 hf (fun hf => ?_)
    obtain ⟨M1, eM1, hf⟩ := lt_some hf
    refine Go.M eM1 ?_
    refine g_aload_n 0 S dX2_addPanel_32 rfl ?_
    refine g_get (v := .ref (a.2 (u0 + 3))) S (ob_K hu0) rfl gi_X2 (by decide) lf_X2_18 rfl dX2_addPanel_33 ?_
    refine g_aload_n 0 S dX2_addPanel_36 rfl ?_
    refine g_get (v := .int (M1 u0 3)) S (ob_K hu0) rfl gi_X2 (by decide) lf_X2_21 rfl dX2_addPanel_37 ?_
    refine g_iload_n 3 S dX2_addPanel_40 rfl ?_
    refine g_iast S (ia_K3 hu0) dX2_addPanel_41 hf (fun hf => ?_)
    refine g_aload_n 0 S dX2_addPanel_42 rfl ?_
    refine g_dup S dX2_addPanel_43 rfl ?_
    refine g_get (v := .int ((mu M1 (u0 + 3) (Int32.toNatClampNeg (M1 u0 3)) p3) u0 3)) S (ob_K hu0) rfl gi_X2 (by decide) lf_X2_21 rfl dX2_addPanel_44 ?_
    refine g_iconst (v := 1) S dX2_addPanel_47 rfl ?_
    refine g_iadd S dX2_addPanel_48 ?_
    refine g_put (ty := .int) S (ob_K hu0) rfl gi_X2 tyX2_ok nmX2 (by decide) lf_X2_21 rfl (by decide +kernel) rfl rfl (Nat.le_of_ble_eq_true rfl) rfl dX2_addPanel_49 ?_
    obtain ⟨M2, eM2, hf⟩ := lt_some hf
    refine Go.M eM2 ?_
    refine g_aload_n 0 S dX2_addPanel_52 rfl ?_
    refine g_get (v := .int (M2 u0 3)) S (ob_K hu0) rfl gi_X2 (by decide) lf_X2_21 rfl dX2_addPanel_53 ?_
    refine g_iconst (v := 1) S dX2_addPanel_56 rfl ?_
    refine g_isub S dX2_addPanel_57 ?_
    exact g_iretM rt hf dX2_addPanel_58
  · refine g_bipush (v := (-3)) S dX2_addPanel_9 rfl ?_
    exact g_iretM rt hf dX2_addPanel_11
-- BridleBook$Kite.pressure(III)I
theorem dX2_pressure_0 : decode cX2_pressure 0 = .ok (.iload_n 0, 1) := by decide +kernel
theorem dX2_pressure_1 : decode cX2_pressure 1 = .ok (.iload_n 1, 1) := by decide +kernel
theorem dX2_pressure_2 : decode cX2_pressure 2 = .ok (.imul, 1) := by decide +kernel
theorem dX2_pressure_3 : decode cX2_pressure 3 = .ok (.iload_n 2, 1) := by decide +kernel
theorem dX2_pressure_4 : decode cX2_pressure 4 = .ok (.imul, 1) := by decide +kernel
theorem dX2_pressure_5 : decode cX2_pressure 5 = .ok (.iload_n 2, 1) := by decide +kernel
theorem dX2_pressure_6 : decode cX2_pressure 6 = .ok (.imul, 1) := by decide +kernel
theorem dX2_pressure_7 : decode cX2_pressure 7 = .ok (.sipush 1000, 3) := by decide +kernel
theorem dX2_pressure_10 : decode cX2_pressure 10 = .ok (.idiv, 1) := by decide +kernel
theorem dX2_pressure_11 : decode cX2_pressure 11 = .ok (.ireturn, 1) := by decide +kernel
def f_X2_pressure (z : Nat → Nat) (M : Mem) (p1 : Int32) (p2 : Int32) (p3 : Int32) : Option Int32 := some ((((p1 * p2) * p3) * p3) / 1000)
theorem c_X2_pressure {l : Launch} {G : GG} {a : AA} {M : Mem} {p1 : Int32} {p2 : Int32} {p3 : Int32} {r : Int32} (hf : f_X2_pressure a.1 M p1 p2 p3 = some r) : CtI l G a yX2_pressure cX2_pressure 3 .int (rmD 0) [.int p1, .int p2, .int p3] M r M := by
  refine ct_I (by decide) rfl rfl (own := RX2) (Nat.le_of_ble_eq_true rfl) (fun K hl hg S rt => ?_)
  subst hl; subst hg
  unfold f_X2_pressure at hf
  show Go K 3 a M 0 [(0, .int p1), (1, .int p2), (2, .int p3)] []
  refine g_iload_n 0 S dX2_pressure_0 rfl ?_
  refine g_iload_n 1 S dX2_pressure_1 rfl ?_
  refine g_imul S dX2_pressure_2 ?_
  refine g_iload_n 2 S dX2_pressure_3 rfl ?_
  refine g_imul S dX2_pressure_4 ?_
  refine g_iload_n 2 S dX2_pressure_5 rfl ?_
  refine g_imul S dX2_pressure_6 ?_
  refine g_sipush (v := 1000) S dX2_pressure_7 rfl ?_
  refine g_idiv S dX2_pressure_10 (by decide) ?_
  exact g_iretP rt hf dX2_pressure_11
-- BridleBook.isAngle(I)Z
theorem dX7_isAngle_0 : decode cX7_isAngle 0 = .ok (.iload_n 0, 1) := by decide +kernel
theorem dX7_isAngle_1 : decode cX7_isAngle 1 = .ok (.iconst 0, 1) := by decide +kernel
theorem dX7_isAngle_2 : decode cX7_isAngle 2 = .ok (.bipush 17, 2) := by decide +kernel
theorem dX7_isAngle_4 : decode cX7_isAngle 4 = .ok (.invokestatic 99, 3) := by decide +kernel
theorem dX7_isAngle_7 : decode cX7_isAngle 7 = .ok (.ireturn, 1) := by decide +kernel
def f_X7_isAngle (z : Nat → Nat) (M : Mem) (p1 : Int32) : Option Bool := bd1 (f_X7_within z M p1 0 17) (fun r1 => some r1)
theorem c_X7_isAngle {l : Launch} {G : GG} {a : AA} {M : Mem} {p1 : Int32} {r : Bool} (hf : f_X7_isAngle a.1 M p1 = some r) : CtI l G a yX7_isAngle cX7_isAngle 1 .boolean (rmD 1) [.int p1] M (b2i r) M := by
  refine ct_I (by decide) rfl (b2i_n _) (own := RX7) (Nat.le_of_ble_eq_true rfl) (fun K hl hg S rt => ?_)
  subst hl; subst hg
  unfold f_X7_isAngle at hf
  show Go K 1 a M 0 [(0, .int p1)] []
  refine g_iload_n 0 S dX7_isAngle_0 rfl ?_
  refine g_iconst (v := 0) S dX7_isAngle_1 rfl ?_
  refine g_bipush (v := 17) S dX7_isAngle_2 rfl ?_
  obtain ⟨r1, hr1, hf⟩ := bd1_some hf
  refine g_cSI (st := []) S ok_X7_within lk_X7_99 (c_X7_within hr1) rfl rfl ⟨by decide, by decide⟩ (rmD_z _) (Nat.le_of_ble_eq_true rfl) dX7_isAngle_4 ?_
  exact g_zretP rt hf dX7_isAngle_7 rfl
-- BridleBook$Tables.liftAt(I)I
theorem dX4_liftAt_0 : decode cX4_liftAt 0 = .ok (.iload_n 1, 1) := by decide +kernel
theorem dX4_liftAt_1 : decode cX4_liftAt 1 = .ok (.invokestatic 18, 3) := by decide +kernel
theorem dX4_liftAt_4 : decode cX4_liftAt 4 = .ok (.ifCond .eq 12, 3) := by decide +kernel
theorem dX4_liftAt_7 : decode cX4_liftAt 7 = .ok (.aload_n 0, 1) := by decide +kernel
theorem dX4_liftAt_8 : decode cX4_liftAt 8 = .ok (.getfield 9, 3) := by decide +kernel
theorem dX4_liftAt_11 : decode cX4_liftAt 11 = .ok (.iload_n 1, 1) := by decide +kernel
theorem dX4_liftAt_12 : decode cX4_liftAt 12 = .ok (.iaload, 1) := by decide +kernel
theorem dX4_liftAt_13 : decode cX4_liftAt 13 = .ok (.goto 4, 3) := by decide +kernel
theorem dX4_liftAt_16 : decode cX4_liftAt 16 = .ok (.iconst 0, 1) := by decide +kernel
theorem dX4_liftAt_17 : decode cX4_liftAt 17 = .ok (.ireturn, 1) := by decide +kernel
def f_X4_liftAt (z : Nat → Nat) (M : Mem) (p1 : Int32) : Option Int32 := bd1 (f_X7_isAngle z M p1) (fun r1 => if r1 = true then ck (inb p1 18) (some (M 70 (Int32.toNatClampNeg p1))) else some 0)
theorem c_X4_liftAt {l : Launch} {G : GG} {a : AA} {M : Mem} {p1 : Int32} {r : Int32} (hf : f_X4_liftAt a.1 M p1 = some r) : CtI l G a yX4_liftAt cX4_liftAt 2 .int (rmD 2) [.ref (a.2 51), .int p1] M r M := by
  refine ct_I (by decide) rfl rfl (own := RX4) (Nat.le_of_ble_eq_true rfl) (fun K hl hg S rt => ?_)
  subst hl; subst hg
  unfold f_X4_liftAt at hf
  show Go K 2 a M 0 [(0, .ref (a.2 51)), (1, .int p1)] []
  refine g_iload_n 1 S dX4_liftAt_0 rfl ?_
  obtain ⟨r1, hr1, hf⟩ := bd1_some hf
  refine g_cNI (st := []) S ok_X7_isAngle ln_X4_18 (c_X7_isAngle hr1) rfl rfl ⟨by decide, by decide⟩ (rmD_z _) (Nat.le_of_ble_eq_true rfl) dX4_liftAt_1 ?_
  refine g_if_eqB (tgt := 16) S dX4_liftAt_4 (by decide) hf (fun c hf => ?_) (fun c hf => ?_)
  · refine g_aload_n 0 S dX4_liftAt_7 rfl ?_
    refine g_get (v := .ref (a.2 70)) S ob_51 rfl gi_X4 (by decide) lf_X4_9 rfl dX4_liftAt_8 ?_
    refine g_iload_n 1 S dX4_liftAt_11 rfl ?_
    refine g_iald S ia_70 dX4_liftAt_12 hf (fun hf => ?_)
    refine g_goto (tgt := 17) S dX4_liftAt_13 (by decide) ?_
    exact g_iretP rt hf dX4_liftAt_17
  · refine g_iconst (v := 0) S dX4_liftAt_16 rfl ?_
    exact g_iretP rt hf dX4_liftAt_17
-- BridleBook$Kite.upAt(LBridleBook$Tables;II)I
theorem dX2_upAt_0 : decode cX2_upAt 0 = .ok (.aload_n 1, 1) := by decide +kernel
theorem dX2_upAt_1 : decode cX2_upAt 1 = .ok (.iload_n 3, 1) := by decide +kernel
theorem dX2_upAt_2 : decode cX2_upAt 2 = .ok (.invokevirtual 34, 3) := by decide +kernel
theorem dX2_upAt_5 : decode cX2_upAt 5 = .ok (.istore 4, 2) := by decide +kernel
theorem dX2_upAt_7 : decode cX2_upAt 7 = .ok (.iconst 0, 1) := by decide +kernel
theorem dX2_upAt_8 : decode cX2_upAt 8 = .ok (.istore 5, 2) := by decide +kernel
theorem dX2_upAt_10 : decode cX2_upAt 10 = .ok (.iconst 0, 1) := by decide +kernel
theorem dX2_upAt_11 : decode cX2_upAt 11 = .ok (.istore 6, 2) := by decide +kernel
theorem dX2_upAt_13 : decode cX2_upAt 13 = .ok (.iload 6, 2) := by decide +kernel
theorem dX2_upAt_15 : decode cX2_upAt 15 = .ok (.aload_n 0, 1) := by decide +kernel
theorem dX2_upAt_16 : decode cX2_upAt 16 = .ok (.getfield 21, 3) := by decide +kernel
theorem dX2_upAt_19 : decode cX2_upAt 19 = .ok (.if_icmp .ge 35, 3) := by decide +kernel
theorem dX2_upAt_22 : decode cX2_upAt 22 = .ok (.iload 5, 2) := by decide +kernel
theorem dX2_upAt_24 : decode cX2_upAt 24 = .ok (.aload_n 0, 1) := by decide +kernel
theorem dX2_upAt_25 : decode cX2_upAt 25 = .ok (.getfield 9, 3) := by decide +kernel
theorem dX2_upAt_28 : decode cX2_upAt 28 = .ok (.iload 6, 2) := by decide +kernel
theorem dX2_upAt_30 : decode cX2_upAt 30 = .ok (.iaload, 1) := by decide +kernel
theorem dX2_upAt_31 : decode cX2_upAt 31 = .ok (.iload 4, 2) := by decide +kernel
theorem dX2_upAt_33 : decode cX2_upAt 33 = .ok (.iload_n 2, 1) := by decide +kernel
theorem dX2_upAt_34 : decode cX2_upAt 34 = .ok (.invokestatic 40, 3) := by decide +kernel
theorem dX2_upAt_37 : decode cX2_upAt 37 = .ok (.aload_n 0, 1) := by decide +kernel
theorem dX2_upAt_38 : decode cX2_upAt 38 = .ok (.getfield 18, 3) := by decide +kernel
theorem dX2_upAt_41 : decode cX2_upAt 41 = .ok (.iload 6, 2) := by decide +kernel
theorem dX2_upAt_43 : decode cX2_upAt 43 = .ok (.iaload, 1) := by decide +kernel
theorem dX2_upAt_44 : decode cX2_upAt 44 = .ok (.isub, 1) := by decide +kernel
theorem dX2_upAt_45 : decode cX2_upAt 45 = .ok (.iadd, 1) := by decide +kernel
theorem dX2_upAt_46 : decode cX2_upAt 46 = .ok (.istore 5, 2) := by decide +kernel
theorem dX2_upAt_48 : decode cX2_upAt 48 = .ok (.iinc 6 1, 3) := by decide +kernel
theorem dX2_upAt_51 : decode cX2_upAt 51 = .ok (.goto (-38), 3) := by decide +kernel
theorem dX2_upAt_54 : decode cX2_upAt 54 = .ok (.iload 5, 2) := by decide +kernel
theorem dX2_upAt_56 : decode cX2_upAt 56 = .ok (.ireturn, 1) := by decide +kernel
def f_X2_upAt_13 (z : Nat → Nat) (u0 : Nat) (M : Mem) : Nat → Int32 → Int32 → Int32 → Int32 → Option Int32
  | 0, _, _, _, _ => none
  | fu + 1, x2, x4, x5, x6 => if (M u0 3) ≤ x6 then some x5 else ck (inb x6 6) (bd1 (f_X2_pressure z M (M (u0 + 1) (Int32.toNatClampNeg x6)) x4 x2) (fun r2 => ck (inb x6 6) (f_X2_upAt_13 z u0 M fu x2 x4 (x5 + (r2 - (M (u0 + 3) (Int32.toNatClampNeg x6)))) (x6 + 1))))
theorem t_X2_upAt_13 {K : KK} {a : AA} {u0 : Nat} (hu0 : vK a.1 u0) (S : Sx K RX2 cX2_upAt 7 (rmD 3)) {r : Int32} {M : Mem} (rt : RtI K a cX2_upAt r M) : ∀ (fu : Nat) (x2 : Int32) (x4 : Int32) (x5 : Int32) (x6 : Int32), f_X2_upAt_13 a.1 u0 M fu x2 x4 x5 x6 = some r → Go K 7 a M 13 [(0, .ref (a.2 u0)), (2, .int x2), (4, .int x4), (5, .int x5), (6, .int x6)] [] := by
  intro fu
  induction fu with
  | zero => intro x2 x4 x5 x6 hf; exact absurd hf (by simp [f_X2_upAt_13])
  | succ fu ih =>
    intro x2 x4 x5 x6 hf
    rw [f_X2_upAt_13] at hf
    refine g_iload 4 S dX2_upAt_13 rfl ?_
    refine g_aload_n 0 S dX2_upAt_15 rfl ?_
    refine g_get (v := .int (M u0 3)) S (ob_K hu0) rfl gi_X2 (by decide) lf_X2_21 rfl dX2_upAt_16 ?_
    refine g_icmp_ge (tgt := 54) S dX2_upAt_19 (by decide) hf (fun c hf => ?_) (fun c hf => ?_)
    · refine g_iload 3 S dX2_upAt_54 rfl ?_
      exact g_iretP rt hf dX2_upAt_56
    · refine g_iload 3 S dX2_upAt_22 rfl ?_
      refine g_aload_n 0 S dX2_upAt_24 rfl ?_
      refine g_get (v := .ref (a.2 (u0 + 1))) S (ob_K hu0) rfl gi_X2 (by decide) lf_X2_9 rfl dX2_upAt_25 ?_
      refine g_iload 4 S dX2_upAt_28 rfl ?_
      refine g_iald S (ia_K1 hu0) dX2_upAt_30 hf (fun hf => ?_)
      refine g_iload 2 S dX2_upAt_31 rfl ?_
      refine g_iload_n 1 S dX2_upAt_33 rfl ?_
      obtain ⟨r2, hr2, hf⟩ := bd1_some hf
      refine g_cSI (st := [.int x5]) S ok_X2_pressure lk_X2_40 (c_X2_pressure hr2) rfl rfl ⟨by decide, by decide⟩ (rmD_z _) (Nat.le_of_ble_eq_true rfl) dX2_upAt_34 ?_
      refine g_aload_n 0 S dX2_upAt_37 rfl ?_
      refine g_get (v := .ref (a.2 (u0 + 3))) S (ob_K hu0) rfl gi_X2 (by decide) lf_X2_18 rfl dX2_upAt_38 ?_
      refine g_iload 4 S dX2_upAt_41 rfl ?_
      refine g_iald S (ia_K3 hu0) dX2_upAt_43 hf (fun hf => ?_)
      refine g_isub S dX2_upAt_44 ?_
      refine g_iadd S dX2_upAt_45 ?_
      refine g_istore (lv' := [(5, .int (x5 + (r2 - (M (u0 + 3) (Int32.toNatClampNeg x6))))), (0, .ref (a.2 u0)), (2, .int x2), (4, .int x4), (6, .int x6)]) S dX2_upAt_46 (by decide) rfl ?_
      refine g_iinc (v := (x6 + 1)) (lv' := [(6, .int (x6 + 1)), (5, .int (x5 + (r2 - (M (u0 + 3) (Int32.toNatClampNeg x6))))), (0, .ref (a.2 u0)), (2, .int x2), (4, .int x4)]) 4 S dX2_upAt_48 rfl rfl (by decide) rfl ?_
      refine g_goto (tgt := 13) S dX2_upAt_51 (by decide) ?_
      refine Go.sub [2, 3, 4, 1, 0] rfl ?_
      exact ih _ _ _ _ hf
def f_X2_upAt (z : Nat → Nat) (u0 : Nat) (M : Mem) (p2 : Int32) (p3 : Int32) : Option Int32 := bd1 (f_X4_liftAt z M p3) (fun r1 => f_X2_upAt_13 z u0 M 1000 p2 r1 0 0)
theorem c_X2_upAt {l : Launch} {G : GG} {a : AA} {u0 : Nat} (hu0 : vK a.1 u0) {M : Mem} {p2 : Int32} {p3 : Int32} {r : Int32} (hf : f_X2_upAt a.1 u0 M p2 p3 = some r) : CtI l G a yX2_upAt cX2_upAt 7 .int (rmD 3) [.ref (a.2 u0), .ref (a.2 51), .int p2, .int p3] M r M := by
  refine ct_I (by decide) rfl rfl (own := RX2) (Nat.le_of_ble_eq_true rfl) (fun K hl hg S rt => ?_)
  subst hl; subst hg
  unfold f_X2_upAt at hf
  show Go K 7 a M 0 [(0, .ref (a.2 u0)), (1, .ref (a.2 51)), (2, .int p2), (3, .int p3)] []
  refine g_aload_n 1 S dX2_upAt_0 rfl ?_
  refine g_iload_n 3 S dX2_upAt_1 rfl ?_
  obtain ⟨r1, hr1, hf⟩ := bd1_some hf
  refine g_cVI (st := []) S ob_51 rfl ok_X4_liftAt lk_X2_34 (c_X4_liftAt hr1) rfl rfl ⟨by decide, by decide⟩ (rmD_z _) (Nat.le_of_ble_eq_true rfl) dX2_upAt_2 ?_
  refine g_istore (lv' := [(4, .int r1), (0, .ref (a.2 u0)), (1, .ref (a.2 51)), (2, .int p2), (3, .int p3)]) S dX2_upAt_5 (by decide) rfl ?_
  refine g_iconst (v := 0) S dX2_upAt_7 rfl ?_
  refine g_istore (lv' := [(5, .int 0), (4, .int r1), (0, .ref (a.2 u0)), (1, .ref (a.2 51)), (2, .int p2), (3, .int p3)]) S dX2_upAt_8 (by decide) rfl ?_
  refine g_iconst (v := 0) S dX2_upAt_10 rfl ?_
  refine g_istore (lv' := [(6, .int 0), (5, .int 0), (4, .int r1), (0, .ref (a.2 u0)), (1, .ref (a.2 51)), (2, .int p2), (3, .int p3)]) S dX2_upAt_11 (by decide) rfl ?_
  refine Go.sub [3, 5, 2, 1, 0] rfl ?_
  exact t_X2_upAt_13 hu0 S rt 1000 _ _ _ _ hf
-- BridleBook$Tables.dragAt(I)I
theorem dX4_dragAt_0 : decode cX4_dragAt 0 = .ok (.iload_n 1, 1) := by decide +kernel
theorem dX4_dragAt_1 : decode cX4_dragAt 1 = .ok (.invokestatic 18, 3) := by decide +kernel
theorem dX4_dragAt_4 : decode cX4_dragAt 4 = .ok (.ifCond .eq 12, 3) := by decide +kernel
theorem dX4_dragAt_7 : decode cX4_dragAt 7 = .ok (.aload_n 0, 1) := by decide +kernel
theorem dX4_dragAt_8 : decode cX4_dragAt 8 = .ok (.getfield 15, 3) := by decide +kernel
theorem dX4_dragAt_11 : decode cX4_dragAt 11 = .ok (.iload_n 1, 1) := by decide +kernel
theorem dX4_dragAt_12 : decode cX4_dragAt 12 = .ok (.iaload, 1) := by decide +kernel
theorem dX4_dragAt_13 : decode cX4_dragAt 13 = .ok (.goto 4, 3) := by decide +kernel
theorem dX4_dragAt_16 : decode cX4_dragAt 16 = .ok (.iconst 0, 1) := by decide +kernel
theorem dX4_dragAt_17 : decode cX4_dragAt 17 = .ok (.ireturn, 1) := by decide +kernel
def f_X4_dragAt (z : Nat → Nat) (M : Mem) (p1 : Int32) : Option Int32 := bd1 (f_X7_isAngle z M p1) (fun r1 => if r1 = true then ck (inb p1 18) (some (M 71 (Int32.toNatClampNeg p1))) else some 0)
theorem c_X4_dragAt {l : Launch} {G : GG} {a : AA} {M : Mem} {p1 : Int32} {r : Int32} (hf : f_X4_dragAt a.1 M p1 = some r) : CtI l G a yX4_dragAt cX4_dragAt 2 .int (rmD 2) [.ref (a.2 51), .int p1] M r M := by
  refine ct_I (by decide) rfl rfl (own := RX4) (Nat.le_of_ble_eq_true rfl) (fun K hl hg S rt => ?_)
  subst hl; subst hg
  unfold f_X4_dragAt at hf
  show Go K 2 a M 0 [(0, .ref (a.2 51)), (1, .int p1)] []
  refine g_iload_n 1 S dX4_dragAt_0 rfl ?_
  obtain ⟨r1, hr1, hf⟩ := bd1_some hf
  refine g_cNI (st := []) S ok_X7_isAngle ln_X4_18 (c_X7_isAngle hr1) rfl rfl ⟨by decide, by decide⟩ (rmD_z _) (Nat.le_of_ble_eq_true rfl) dX4_dragAt_1 ?_
  refine g_if_eqB (tgt := 16) S dX4_dragAt_4 (by decide) hf (fun c hf => ?_) (fun c hf => ?_)
  · refine g_aload_n 0 S dX4_dragAt_7 rfl ?_
    refine g_get (v := .ref (a.2 71)) S ob_51 rfl gi_X4 (by decide) lf_X4_15 rfl dX4_dragAt_8 ?_
    refine g_iload_n 1 S dX4_dragAt_11 rfl ?_
    refine g_iald S ia_71 dX4_dragAt_12 hf (fun hf => ?_)
    refine g_goto (tgt := 17) S dX4_dragAt_13 (by decide) ?_
    exact g_iretP rt hf dX4_dragAt_17
  · refine g_iconst (v := 0) S dX4_dragAt_16 rfl ?_
    exact g_iretP rt hf dX4_dragAt_17
-- BridleBook$Kite.backAt(LBridleBook$Tables;II)I
theorem dX2_backAt_0 : decode cX2_backAt 0 = .ok (.aload_n 1, 1) := by decide +kernel
theorem dX2_backAt_1 : decode cX2_backAt 1 = .ok (.iload_n 3, 1) := by decide +kernel
theorem dX2_backAt_2 : decode cX2_backAt 2 = .ok (.invokevirtual 44, 3) := by decide +kernel
theorem dX2_backAt_5 : decode cX2_backAt 5 = .ok (.istore 4, 2) := by decide +kernel
theorem dX2_backAt_7 : decode cX2_backAt 7 = .ok (.iconst 0, 1) := by decide +kernel
theorem dX2_backAt_8 : decode cX2_backAt 8 = .ok (.istore 5, 2) := by decide +kernel
theorem dX2_backAt_10 : decode cX2_backAt 10 = .ok (.iconst 0, 1) := by decide +kernel
theorem dX2_backAt_11 : decode cX2_backAt 11 = .ok (.istore 6, 2) := by decide +kernel
theorem dX2_backAt_13 : decode cX2_backAt 13 = .ok (.iload 6, 2) := by decide +kernel
theorem dX2_backAt_15 : decode cX2_backAt 15 = .ok (.aload_n 0, 1) := by decide +kernel
theorem dX2_backAt_16 : decode cX2_backAt 16 = .ok (.getfield 21, 3) := by decide +kernel
theorem dX2_backAt_19 : decode cX2_backAt 19 = .ok (.if_icmp .ge 27, 3) := by decide +kernel
theorem dX2_backAt_22 : decode cX2_backAt 22 = .ok (.iload 5, 2) := by decide +kernel
theorem dX2_backAt_24 : decode cX2_backAt 24 = .ok (.aload_n 0, 1) := by decide +kernel
theorem dX2_backAt_25 : decode cX2_backAt 25 = .ok (.getfield 9, 3) := by decide +kernel
theorem dX2_backAt_28 : decode cX2_backAt 28 = .ok (.iload 6, 2) := by decide +kernel
theorem dX2_backAt_30 : decode cX2_backAt 30 = .ok (.iaload, 1) := by decide +kernel
theorem dX2_backAt_31 : decode cX2_backAt 31 = .ok (.iload 4, 2) := by decide +kernel
theorem dX2_backAt_33 : decode cX2_backAt 33 = .ok (.iload_n 2, 1) := by decide +kernel
theorem dX2_backAt_34 : decode cX2_backAt 34 = .ok (.invokestatic 40, 3) := by decide +kernel
theorem dX2_backAt_37 : decode cX2_backAt 37 = .ok (.iadd, 1) := by decide +kernel
theorem dX2_backAt_38 : decode cX2_backAt 38 = .ok (.istore 5, 2) := by decide +kernel
theorem dX2_backAt_40 : decode cX2_backAt 40 = .ok (.iinc 6 1, 3) := by decide +kernel
theorem dX2_backAt_43 : decode cX2_backAt 43 = .ok (.goto (-30), 3) := by decide +kernel
theorem dX2_backAt_46 : decode cX2_backAt 46 = .ok (.iload 5, 2) := by decide +kernel
theorem dX2_backAt_48 : decode cX2_backAt 48 = .ok (.ireturn, 1) := by decide +kernel
def f_X2_backAt_13 (z : Nat → Nat) (u0 : Nat) (M : Mem) : Nat → Int32 → Int32 → Int32 → Int32 → Option Int32
  | 0, _, _, _, _ => none
  | fu + 1, x2, x4, x5, x6 => if (M u0 3) ≤ x6 then some x5 else ck (inb x6 6) (bd1 (f_X2_pressure z M (M (u0 + 1) (Int32.toNatClampNeg x6)) x4 x2) (fun r2 => f_X2_backAt_13 z u0 M fu x2 x4 (x5 + r2) (x6 + 1)))
theorem t_X2_backAt_13 {K : KK} {a : AA} {u0 : Nat} (hu0 : vK a.1 u0) (S : Sx K RX2 cX2_backAt 7 (rmD 3)) {r : Int32} {M : Mem} (rt : RtI K a cX2_backAt r M) : ∀ (fu : Nat) (x2 : Int32) (x4 : Int32) (x5 : Int32) (x6 : Int32), f_X2_backAt_13 a.1 u0 M fu x2 x4 x5 x6 = some r → Go K 7 a M 13 [(0, .ref (a.2 u0)), (2, .int x2), (4, .int x4), (5, .int x5), (6, .int x6)] [] := by
  intro fu
  induction fu with
  | zero => intro x2 x4 x5 x6 hf; exact absurd hf (by simp [f_X2_backAt_13])
  | succ fu ih =>
    intro x2 x4 x5 x6 hf
    rw [f_X2_backAt_13] at hf
    refine g_iload 4 S dX2_backAt_13 rfl ?_
    refine g_aload_n 0 S dX2_backAt_15 rfl ?_
    refine g_get (v := .int (M u0 3)) S (ob_K hu0) rfl gi_X2 (by decide) lf_X2_21 rfl dX2_backAt_16 ?_
    refine g_icmp_ge (tgt := 46) S dX2_backAt_19 (by decide) hf (fun c hf => ?_) (fun c hf => ?_)
    · refine g_iload 3 S dX2_backAt_46 rfl ?_
      exact g_iretP rt hf dX2_backAt_48
    · refine g_iload 3 S dX2_backAt_22 rfl ?_
      refine g_aload_n 0 S dX2_backAt_24 rfl ?_
      refine g_get (v := .ref (a.2 (u0 + 1))) S (ob_K hu0) rfl gi_X2 (by decide) lf_X2_9 rfl dX2_backAt_25 ?_
      refine g_iload 4 S dX2_backAt_28 rfl ?_
      refine g_iald S (ia_K1 hu0) dX2_backAt_30 hf (fun hf => ?_)
      refine g_iload 2 S dX2_backAt_31 rfl ?_
      refine g_iload_n 1 S dX2_backAt_33 rfl ?_
      obtain ⟨r2, hr2, hf⟩ := bd1_some hf
      refine g_cSI (st := [.int x5]) S ok_X2_pressure lk_X2_40 (c_X2_pressure hr2) rfl rfl ⟨by decide, by decide⟩ (rmD_z _) (Nat.le_of_ble_eq_true rfl) dX2_backAt_34 ?_
      refine g_iadd S dX2_backAt_37 ?_
      refine g_istore (lv' := [(5, .int (x5 + r2)), (0, .ref (a.2 u0)), (2, .int x2), (4, .int x4), (6, .int x6)]) S dX2_backAt_38 (by decide) rfl ?_
      refine g_iinc (v := (x6 + 1)) (lv' := [(6, .int (x6 + 1)), (5, .int (x5 + r2)), (0, .ref (a.2 u0)), (2, .int x2), (4, .int x4)]) 4 S dX2_backAt_40 rfl rfl (by decide) rfl ?_
      refine g_goto (tgt := 13) S dX2_backAt_43 (by decide) ?_
      refine Go.sub [2, 3, 4, 1, 0] rfl ?_
      exact ih _ _ _ _ hf
def f_X2_backAt (z : Nat → Nat) (u0 : Nat) (M : Mem) (p2 : Int32) (p3 : Int32) : Option Int32 := bd1 (f_X4_dragAt z M p3) (fun r1 => f_X2_backAt_13 z u0 M 1000 p2 r1 0 0)
theorem c_X2_backAt {l : Launch} {G : GG} {a : AA} {u0 : Nat} (hu0 : vK a.1 u0) {M : Mem} {p2 : Int32} {p3 : Int32} {r : Int32} (hf : f_X2_backAt a.1 u0 M p2 p3 = some r) : CtI l G a yX2_backAt cX2_backAt 7 .int (rmD 3) [.ref (a.2 u0), .ref (a.2 51), .int p2, .int p3] M r M := by
  refine ct_I (by decide) rfl rfl (own := RX2) (Nat.le_of_ble_eq_true rfl) (fun K hl hg S rt => ?_)
  subst hl; subst hg
  unfold f_X2_backAt at hf
  show Go K 7 a M 0 [(0, .ref (a.2 u0)), (1, .ref (a.2 51)), (2, .int p2), (3, .int p3)] []
  refine g_aload_n 1 S dX2_backAt_0 rfl ?_
  refine g_iload_n 3 S dX2_backAt_1 rfl ?_
  obtain ⟨r1, hr1, hf⟩ := bd1_some hf
  refine g_cVI (st := []) S ob_51 rfl ok_X4_dragAt lk_X2_44 (c_X4_dragAt hr1) rfl rfl ⟨by decide, by decide⟩ (rmD_z _) (Nat.le_of_ble_eq_true rfl) dX2_backAt_2 ?_
  refine g_istore (lv' := [(4, .int r1), (0, .ref (a.2 u0)), (1, .ref (a.2 51)), (2, .int p2), (3, .int p3)]) S dX2_backAt_5 (by decide) rfl ?_
  refine g_iconst (v := 0) S dX2_backAt_7 rfl ?_
  refine g_istore (lv' := [(5, .int 0), (4, .int r1), (0, .ref (a.2 u0)), (1, .ref (a.2 51)), (2, .int p2), (3, .int p3)]) S dX2_backAt_8 (by decide) rfl ?_
  refine g_iconst (v := 0) S dX2_backAt_10 rfl ?_
  refine g_istore (lv' := [(6, .int 0), (5, .int 0), (4, .int r1), (0, .ref (a.2 u0)), (1, .ref (a.2 51)), (2, .int p2), (3, .int p3)]) S dX2_backAt_11 (by decide) rfl ?_
  refine Go.sub [3, 5, 2, 1, 0] rfl ?_
  exact t_X2_backAt_13 hu0 S rt 1000 _ _ _ _ hf
-- BridleBook$Kite.turningAt(LBridleBook$Tables;III)I
theorem dX2_turningAt_0 : decode cX2_turningAt 0 = .ok (.aload_n 1, 1) := by decide +kernel
theorem dX2_turningAt_1 : decode cX2_turningAt 1 = .ok (.iload_n 3, 1) := by decide +kernel
theorem dX2_turningAt_2 : decode cX2_turningAt 2 = .ok (.invokevirtual 34, 3) := by decide +kernel
theorem dX2_turningAt_5 : decode cX2_turningAt 5 = .ok (.istore 5, 2) := by decide +kernel
theorem dX2_turningAt_7 : decode cX2_turningAt 7 = .ok (.iconst 0, 1) := by decide +kernel
theorem dX2_turningAt_8 : decode cX2_turningAt 8 = .ok (.istore 6, 2) := by decide +kernel
theorem dX2_turningAt_10 : decode cX2_turningAt 10 = .ok (.iconst 0, 1) := by decide +kernel
theorem dX2_turningAt_11 : decode cX2_turningAt 11 = .ok (.istore 7, 2) := by decide +kernel
theorem dX2_turningAt_13 : decode cX2_turningAt 13 = .ok (.iload 7, 2) := by decide +kernel
theorem dX2_turningAt_15 : decode cX2_turningAt 15 = .ok (.aload_n 0, 1) := by decide +kernel
theorem dX2_turningAt_16 : decode cX2_turningAt 16 = .ok (.getfield 21, 3) := by decide +kernel
theorem dX2_turningAt_19 : decode cX2_turningAt 19 = .ok (.if_icmp .ge 46, 3) := by decide +kernel
theorem dX2_turningAt_22 : decode cX2_turningAt 22 = .ok (.iload 6, 2) := by decide +kernel
theorem dX2_turningAt_24 : decode cX2_turningAt 24 = .ok (.aload_n 0, 1) := by decide +kernel
theorem dX2_turningAt_25 : decode cX2_turningAt 25 = .ok (.getfield 9, 3) := by decide +kernel
theorem dX2_turningAt_28 : decode cX2_turningAt 28 = .ok (.iload 7, 2) := by decide +kernel
theorem dX2_turningAt_30 : decode cX2_turningAt 30 = .ok (.iaload, 1) := by decide +kernel
theorem dX2_turningAt_31 : decode cX2_turningAt 31 = .ok (.iload 5, 2) := by decide +kernel
theorem dX2_turningAt_33 : decode cX2_turningAt 33 = .ok (.iload_n 2, 1) := by decide +kernel
theorem dX2_turningAt_34 : decode cX2_turningAt 34 = .ok (.invokestatic 40, 3) := by decide +kernel
theorem dX2_turningAt_37 : decode cX2_turningAt 37 = .ok (.aload_n 0, 1) := by decide +kernel
theorem dX2_turningAt_38 : decode cX2_turningAt 38 = .ok (.getfield 18, 3) := by decide +kernel
theorem dX2_turningAt_41 : decode cX2_turningAt 41 = .ok (.iload 7, 2) := by decide +kernel
theorem dX2_turningAt_43 : decode cX2_turningAt 43 = .ok (.iaload, 1) := by decide +kernel
theorem dX2_turningAt_44 : decode cX2_turningAt 44 = .ok (.isub, 1) := by decide +kernel
theorem dX2_turningAt_45 : decode cX2_turningAt 45 = .ok (.aload_n 0, 1) := by decide +kernel
theorem dX2_turningAt_46 : decode cX2_turningAt 46 = .ok (.getfield 15, 3) := by decide +kernel
theorem dX2_turningAt_49 : decode cX2_turningAt 49 = .ok (.iload 7, 2) := by decide +kernel
theorem dX2_turningAt_51 : decode cX2_turningAt 51 = .ok (.iaload, 1) := by decide +kernel
theorem dX2_turningAt_52 : decode cX2_turningAt 52 = .ok (.iload 4, 2) := by decide +kernel
theorem dX2_turningAt_54 : decode cX2_turningAt 54 = .ok (.isub, 1) := by decide +kernel
theorem dX2_turningAt_55 : decode cX2_turningAt 55 = .ok (.imul, 1) := by decide +kernel
theorem dX2_turningAt_56 : decode cX2_turningAt 56 = .ok (.iadd, 1) := by decide +kernel
theorem dX2_turningAt_57 : decode cX2_turningAt 57 = .ok (.istore 6, 2) := by decide +kernel
theorem dX2_turningAt_59 : decode cX2_turningAt 59 = .ok (.iinc 7 1, 3) := by decide +kernel
theorem dX2_turningAt_62 : decode cX2_turningAt 62 = .ok (.goto (-49), 3) := by decide +kernel
theorem dX2_turningAt_65 : decode cX2_turningAt 65 = .ok (.iload 6, 2) := by decide +kernel
theorem dX2_turningAt_67 : decode cX2_turningAt 67 = .ok (.ireturn, 1) := by decide +kernel
def f_X2_turningAt_13 (z : Nat → Nat) (u0 : Nat) (M : Mem) : Nat → Int32 → Int32 → Int32 → Int32 → Int32 → Option Int32
  | 0, _, _, _, _, _ => none
  | fu + 1, x2, x4, x5, x6, x7 => if (M u0 3) ≤ x7 then some x6 else ck (inb x7 6) (bd1 (f_X2_pressure z M (M (u0 + 1) (Int32.toNatClampNeg x7)) x5 x2) (fun r2 => ck (inb x7 6) (ck (inb x7 6) (f_X2_turningAt_13 z u0 M fu x2 x4 x5 (x6 + ((r2 - (M (u0 + 3) (Int32.toNatClampNeg x7))) * ((M (u0 + 2) (Int32.toNatClampNeg x7)) - x4))) (x7 + 1)))))
theorem t_X2_turningAt_13 {K : KK} {a : AA} {u0 : Nat} (hu0 : vK a.1 u0) (S : Sx K RX2 cX2_turningAt 8 (rmD 3)) {r : Int32} {M : Mem} (rt : RtI K a cX2_turningAt r M) : ∀ (fu : Nat) (x2 : Int32) (x4 : Int32) (x5 : Int32) (x6 : Int32) (x7 : Int32), f_X2_turningAt_13 a.1 u0 M fu x2 x4 x5 x6 x7 = some r → Go K 8 a M 13 [(0, .ref (a.2 u0)), (2, .int x2), (4, .int x4), (5, .int x5), (6, .int x6), (7, .int x7)] [] := by
  intro fu
  induction fu with
  | zero => intro x2 x4 x5 x6 x7 hf; exact absurd hf (by simp [f_X2_turningAt_13])
  | succ fu ih =>
    intro x2 x4 x5 x6 x7 hf
    rw [f_X2_turningAt_13] at hf
    refine g_iload 5 S dX2_turningAt_13 rfl ?_
    refine g_aload_n 0 S dX2_turningAt_15 rfl ?_
    refine g_get (v := .int (M u0 3)) S (ob_K hu0) rfl gi_X2 (by decide) lf_X2_21 rfl dX2_turningAt_16 ?_
    refine g_icmp_ge (tgt := 65) S dX2_turningAt_19 (by decide) hf (fun c hf => ?_) (fun c hf => ?_)
    · refine g_iload 4 S dX2_turningAt_65 rfl ?_
      exact g_iretP rt hf dX2_turningAt_67
    · refine g_iload 4 S dX2_turningAt_22 rfl ?_
      refine g_aload_n 0 S dX2_turningAt_24 rfl ?_
      refine g_get (v := .ref (a.2 (u0 + 1))) S (ob_K hu0) rfl gi_X2 (by decide) lf_X2_9 rfl dX2_turningAt_25 ?_
      refine g_iload 5 S dX2_turningAt_28 rfl ?_
      refine g_iald S (ia_K1 hu0) dX2_turningAt_30 hf (fun hf => ?_)
      refine g_iload 3 S dX2_turningAt_31 rfl ?_
      refine g_iload_n 1 S dX2_turningAt_33 rfl ?_
      obtain ⟨r2, hr2, hf⟩ := bd1_some hf
      refine g_cSI (st := [.int x6]) S ok_X2_pressure lk_X2_40 (c_X2_pressure hr2) rfl rfl ⟨by decide, by decide⟩ (rmD_z _) (Nat.le_of_ble_eq_true rfl) dX2_turningAt_34 ?_
      refine g_aload_n 0 S dX2_turningAt_37 rfl ?_
      refine g_get (v := .ref (a.2 (u0 + 3))) S (ob_K hu0) rfl gi_X2 (by decide) lf_X2_18 rfl dX2_turningAt_38 ?_
      refine g_iload 5 S dX2_turningAt_41 rfl ?_
      refine g_iald S (ia_K3 hu0) dX2_turningAt_43 hf (fun hf => ?_)
      refine g_isub S dX2_turningAt_44 ?_
      refine g_aload_n 0 S dX2_turningAt_45 rfl ?_
      refine g_get (v := .ref (a.2 (u0 + 2))) S (ob_K hu0) rfl gi_X2 (by decide) lf_X2_15 rfl dX2_turningAt_46 ?_
      refine g_iload 5 S dX2_turningAt_49 rfl ?_
      refine g_iald S (ia_K2 hu0) dX2_turningAt_51 hf (fun hf => ?_)
      refine g_iload 2 S dX2_turningAt_52 rfl ?_
      refine g_isub S dX2_turningAt_54 ?_
      refine g_imul S dX2_turningAt_55 ?_
      refine g_iadd S dX2_turningAt_56 ?_
      refine g_istore (lv' := [(6, .int (x6 + ((r2 - (M (u0 + 3) (Int32.toNatClampNeg x7))) * ((M (u0 + 2) (Int32.toNatClampNeg x7)) - x4)))), (0, .ref (a.2 u0)), (2, .int x2), (4, .int x4), (5, .int x5), (7, .int x7)]) S dX2_turningAt_57 (by decide) rfl ?_
      refine g_iinc (v := (x7 + 1)) (lv' := [(7, .int (x7 + 1)), (6, .int (x6 + ((r2 - (M (u0 + 3) (Int32.toNatClampNeg x7))) * ((M (u0 + 2) (Int32.toNatClampNeg x7)) - x4)))), (0, .ref (a.2 u0)), (2, .int x2), (4, .int x4), (5, .int x5)]) 5 S dX2_turningAt_59 rfl rfl (by decide) rfl ?_
      refine g_goto (tgt := 13) S dX2_turningAt_62 (by decide) ?_
      refine Go.sub [2, 3, 4, 5, 1, 0] rfl ?_
      exact ih _ _ _ _ _ hf
def f_X2_turningAt (z : Nat → Nat) (u0 : Nat) (M : Mem) (p2 : Int32) (p3 : Int32) (p4 : Int32) : Option Int32 := bd1 (f_X4_liftAt z M p3) (fun r1 => f_X2_turningAt_13 z u0 M 1000 p2 p4 r1 0 0)
theorem c_X2_turningAt {l : Launch} {G : GG} {a : AA} {u0 : Nat} (hu0 : vK a.1 u0) {M : Mem} {p2 : Int32} {p3 : Int32} {p4 : Int32} {r : Int32} (hf : f_X2_turningAt a.1 u0 M p2 p3 p4 = some r) : CtI l G a yX2_turningAt cX2_turningAt 8 .int (rmD 3) [.ref (a.2 u0), .ref (a.2 51), .int p2, .int p3, .int p4] M r M := by
  refine ct_I (by decide) rfl rfl (own := RX2) (Nat.le_of_ble_eq_true rfl) (fun K hl hg S rt => ?_)
  subst hl; subst hg
  unfold f_X2_turningAt at hf
  show Go K 8 a M 0 [(0, .ref (a.2 u0)), (1, .ref (a.2 51)), (2, .int p2), (3, .int p3), (4, .int p4)] []
  refine g_aload_n 1 S dX2_turningAt_0 rfl ?_
  refine g_iload_n 3 S dX2_turningAt_1 rfl ?_
  obtain ⟨r1, hr1, hf⟩ := bd1_some hf
  refine g_cVI (st := []) S ob_51 rfl ok_X4_liftAt lk_X2_34 (c_X4_liftAt hr1) rfl rfl ⟨by decide, by decide⟩ (rmD_z _) (Nat.le_of_ble_eq_true rfl) dX2_turningAt_2 ?_
  refine g_istore (lv' := [(5, .int r1), (0, .ref (a.2 u0)), (1, .ref (a.2 51)), (2, .int p2), (3, .int p3), (4, .int p4)]) S dX2_turningAt_5 (by decide) rfl ?_
  refine g_iconst (v := 0) S dX2_turningAt_7 rfl ?_
  refine g_istore (lv' := [(6, .int 0), (5, .int r1), (0, .ref (a.2 u0)), (1, .ref (a.2 51)), (2, .int p2), (3, .int p3), (4, .int p4)]) S dX2_turningAt_8 (by decide) rfl ?_
  refine g_iconst (v := 0) S dX2_turningAt_10 rfl ?_
  refine g_istore (lv' := [(7, .int 0), (6, .int 0), (5, .int r1), (0, .ref (a.2 u0)), (1, .ref (a.2 51)), (2, .int p2), (3, .int p3), (4, .int p4)]) S dX2_turningAt_11 (by decide) rfl ?_
  refine Go.sub [3, 5, 7, 2, 1, 0] rfl ?_
  exact t_X2_turningAt_13 hu0 S rt 1000 _ _ _ _ _ hf
-- BridleBook$Kite.standingAngle(LBridleBook$Tables;II)I
theorem dX2_standingAngle_0 : decode cX2_standingAngle 0 = .ok (.aload_n 0, 1) := by decide +kernel
theorem dX2_standingAngle_1 : decode cX2_standingAngle 1 = .ok (.getfield 21, 3) := by decide +kernel
theorem dX2_standingAngle_4 : decode cX2_standingAngle 4 = .ok (.ifCond .ne 6, 3) := by decide +kernel
theorem dX2_standingAngle_7 : decode cX2_standingAngle 7 = .ok (.bipush (-2), 2) := by decide +kernel
theorem dX2_standingAngle_9 : decode cX2_standingAngle 9 = .ok (.ireturn, 1) := by decide +kernel
theorem dX2_standingAngle_10 : decode cX2_standingAngle 10 = .ok (.aload_n 0, 1) := by decide +kernel
theorem dX2_standingAngle_11 : decode cX2_standingAngle 11 = .ok (.aload_n 1, 1) := by decide +kernel
theorem dX2_standingAngle_12 : decode cX2_standingAngle 12 = .ok (.iload_n 2, 1) := by decide +kernel
theorem dX2_standingAngle_13 : decode cX2_standingAngle 13 = .ok (.iconst 0, 1) := by decide +kernel
theorem dX2_standingAngle_14 : decode cX2_standingAngle 14 = .ok (.iload_n 3, 1) := by decide +kernel
theorem dX2_standingAngle_15 : decode cX2_standingAngle 15 = .ok (.invokevirtual 47, 3) := by decide +kernel
theorem dX2_standingAngle_18 : decode cX2_standingAngle 18 = .ok (.istore 4, 2) := by decide +kernel
theorem dX2_standingAngle_20 : decode cX2_standingAngle 20 = .ok (.iconst 0, 1) := by decide +kernel
theorem dX2_standingAngle_21 : decode cX2_standingAngle 21 = .ok (.istore 5, 2) := by decide +kernel
theorem dX2_standingAngle_23 : decode cX2_standingAngle 23 = .ok (.iload 5, 2) := by decide +kernel
theorem dX2_standingAngle_25 : decode cX2_standingAngle 25 = .ok (.bipush 17, 2) := by decide +kernel
theorem dX2_standingAngle_27 : decode cX2_standingAngle 27 = .ok (.if_icmp .ge 54, 3) := by decide +kernel
theorem dX2_standingAngle_30 : decode cX2_standingAngle 30 = .ok (.aload_n 0, 1) := by decide +kernel
theorem dX2_standingAngle_31 : decode cX2_standingAngle 31 = .ok (.aload_n 1, 1) := by decide +kernel
theorem dX2_standingAngle_32 : decode cX2_standingAngle 32 = .ok (.iload_n 2, 1) := by decide +kernel
theorem dX2_standingAngle_33 : decode cX2_standingAngle 33 = .ok (.iload 5, 2) := by decide +kernel
theorem dX2_standingAngle_35 : decode cX2_standingAngle 35 = .ok (.iconst 1, 1) := by decide +kernel
theorem dX2_standingAngle_36 : decode cX2_standingAngle 36 = .ok (.iadd, 1) := by decide +kernel
theorem dX2_standingAngle_37 : decode cX2_standingAngle 37 = .ok (.iload_n 3, 1) := by decide +kernel
theorem dX2_standingAngle_38 : decode cX2_standingAngle 38 = .ok (.invokevirtual 47, 3) := by decide +kernel
theorem dX2_standingAngle_41 : decode cX2_standingAngle 41 = .ok (.istore 6, 2) := by decide +kernel
theorem dX2_standingAngle_43 : decode cX2_standingAngle 43 = .ok (.iload 4, 2) := by decide +kernel
theorem dX2_standingAngle_45 : decode cX2_standingAngle 45 = .ok (.ifCond .eq 23, 3) := by decide +kernel
theorem dX2_standingAngle_48 : decode cX2_standingAngle 48 = .ok (.iload 4, 2) := by decide +kernel
theorem dX2_standingAngle_50 : decode cX2_standingAngle 50 = .ok (.ifCond .le 8, 3) := by decide +kernel
theorem dX2_standingAngle_53 : decode cX2_standingAngle 53 = .ok (.iload 6, 2) := by decide +kernel
theorem dX2_standingAngle_55 : decode cX2_standingAngle 55 = .ok (.ifCond .lt 13, 3) := by decide +kernel
theorem dX2_standingAngle_58 : decode cX2_standingAngle 58 = .ok (.iload 4, 2) := by decide +kernel
theorem dX2_standingAngle_60 : decode cX2_standingAngle 60 = .ok (.ifCond .ge 11, 3) := by decide +kernel
theorem dX2_standingAngle_63 : decode cX2_standingAngle 63 = .ok (.iload 6, 2) := by decide +kernel
theorem dX2_standingAngle_65 : decode cX2_standingAngle 65 = .ok (.ifCond .le 6, 3) := by decide +kernel
theorem dX2_standingAngle_68 : decode cX2_standingAngle 68 = .ok (.iload 5, 2) := by decide +kernel
theorem dX2_standingAngle_70 : decode cX2_standingAngle 70 = .ok (.ireturn, 1) := by decide +kernel
theorem dX2_standingAngle_71 : decode cX2_standingAngle 71 = .ok (.iload 6, 2) := by decide +kernel
theorem dX2_standingAngle_73 : decode cX2_standingAngle 73 = .ok (.istore 4, 2) := by decide +kernel
theorem dX2_standingAngle_75 : decode cX2_standingAngle 75 = .ok (.iinc 5 1, 3) := by decide +kernel
theorem dX2_standingAngle_78 : decode cX2_standingAngle 78 = .ok (.goto (-55), 3) := by decide +kernel
theorem dX2_standingAngle_81 : decode cX2_standingAngle 81 = .ok (.iload 4, 2) := by decide +kernel
theorem dX2_standingAngle_83 : decode cX2_standingAngle 83 = .ok (.ifCond .ne 8, 3) := by decide +kernel
theorem dX2_standingAngle_86 : decode cX2_standingAngle 86 = .ok (.bipush 17, 2) := by decide +kernel
theorem dX2_standingAngle_88 : decode cX2_standingAngle 88 = .ok (.goto 5, 3) := by decide +kernel
theorem dX2_standingAngle_91 : decode cX2_standingAngle 91 = .ok (.bipush (-2), 2) := by decide +kernel
theorem dX2_standingAngle_93 : decode cX2_standingAngle 93 = .ok (.ireturn, 1) := by decide +kernel
def f_X2_standingAngle_23 (z : Nat → Nat) (u0 : Nat) (M : Mem) : Nat → Int32 → Int32 → Int32 → Int32 → Option Int32
  | 0, _, _, _, _ => none
  | fu + 1, x2, x3, x4, x5 => if 17 ≤ x5 then if x4 = 0 then some 17 else some (-2) else bd1 (f_X2_turningAt z u0 M x2 (x5 + 1) x3) (fun r2 => if x4 = 0 then some x5 else if x4 ≤ 0 then if 0 ≤ x4 then f_X2_standingAngle_23 z u0 M fu x2 x3 r2 (x5 + 1) else if r2 ≤ 0 then f_X2_standingAngle_23 z u0 M fu x2 x3 r2 (x5 + 1) else some x5 else if r2 < 0 then some x5 else if 0 ≤ x4 then f_X2_standingAngle_23 z u0 M fu x2 x3 r2 (x5 + 1) else if r2 ≤ 0 then f_X2_standingAngle_23 z u0 M fu x2 x3 r2 (x5 + 1) else some x5)
theorem t_X2_standingAngle_23 {K : KK} {a : AA} {u0 : Nat} (hu0 : vK a.1 u0) (S : Sx K RX2 cX2_standingAngle 7 (rmD 4)) {r : Int32} {M : Mem} (rt : RtI K a cX2_standingAngle r M) : ∀ (fu : Nat) (x2 : Int32) (x3 : Int32) (x4 : Int32) (x5 : Int32), f_X2_standingAngle_23 a.1 u0 M fu x2 x3 x4 x5 = some r → Go K 7 a M 23 [(0, .ref (a.2 u0)), (1, .ref (a.2 51)), (2, .int x2), (3, .int x3), (4, .int x4), (5, .int x5)] [] := by
  intro fu
  induction fu with
  | zero => intro x2 x3 x4 x5 hf; exact absurd hf (by simp [f_X2_standingAngle_23])
  | succ fu ih =>
    intro x2 x3 x4 x5 hf
    rw [f_X2_standingAngle_23] at hf
    refine g_iload 5 S dX2_standingAngle_23 rfl ?_
    refine g_bipush (v := 17) S dX2_standingAngle_25 rfl ?_
    refine g_icmp_ge (tgt := 81) S dX2_standingAngle_27 (by decide) hf (fun c hf => ?_) (fun c hf => ?_)
    · refine g_iload 4 S dX2_standingAngle_81 rfl ?_
      refine g_if_ne (tgt := 91) S dX2_standingAngle_83 (by decide) hf (fun c hf => ?_) (fun c hf => ?_)
      · refine g_bipush (v := 17) S dX2_standingAngle_86 rfl ?_
        refine g_goto (tgt := 93) S dX2_standingAngle_88 (by decide) ?_
        exact g_iretP rt hf dX2_standingAngle_93
      · refine g_bipush (v := (-2)) S dX2_standingAngle_91 rfl ?_
        exact g_iretP rt hf dX2_standingAngle_93
    · refine g_aload_n 0 S dX2_standingAngle_30 rfl ?_
      refine g_aload_n 1 S dX2_standingAngle_31 rfl ?_
      refine g_iload_n 2 S dX2_standingAngle_32 rfl ?_
      refine g_iload 5 S dX2_standingAngle_33 rfl ?_
      refine g_iconst (v := 1) S dX2_standingAngle_35 rfl ?_
      refine g_iadd S dX2_standingAngle_36 ?_
      refine g_iload_n 3 S dX2_standingAngle_37 rfl ?_
      obtain ⟨r2, hr2, hf⟩ := bd1_some hf
      refine g_cVI (st := []) S (ob_K hu0) rfl ok_X2_turningAt lk_X2_47 (c_X2_turningAt hu0 hr2) rfl rfl ⟨by decide, by decide⟩ (rmD_z _) (Nat.le_of_ble_eq_true rfl) dX2_standingAngle_38 ?_
      refine g_istore (lv' := [(6, .int r2), (0, .ref (a.2 u0)), (1, .ref (a.2 51)), (2, .int x2), (3, .int x3), (4, .int x4), (5, .int x5)]) S dX2_standingAngle_41 (by decide) rfl ?_
      refine g_iload 5 S dX2_standingAngle_43 rfl ?_
      refine g_if_eq (tgt := 68) S dX2_standingAngle_45 (by decide) hf (fun c hf => ?_) (fun c hf => ?_)
      · refine g_iload 6 S dX2_standingAngle_68 rfl ?_
        exact g_iretP rt hf dX2_standingAngle_70
      · refine g_iload 5 S dX2_standingAngle_48 rfl ?_
        refine g_if_le (tgt := 58) S dX2_standingAngle_50 (by decide) hf (fun c hf => ?_) (fun c hf => ?_)
        · refine g_iload 5 S dX2_standingAngle_58 rfl ?_
          refine g_if_ge (tgt := 71) S dX2_standingAngle_60 (by decide) hf (fun c hf => ?_) (fun c hf => ?_)
          · refine g_iload 0 S dX2_standingAngle_71 rfl ?_
            refine g_istore (lv' := [(4, .int r2), (6, .int r2), (0, .ref (a.2 u0)), (1, .ref (a.2 51)), (2, .int x2), (3, .int x3), (5, .int x5)]) S dX2_standingAngle_73 (by decide) rfl ?_
            refine g_iinc (v := (x5 + 1)) (lv' := [(5, .int (x5 + 1)), (4, .int r2), (6, .int r2), (0, .ref (a.2 u0)), (1, .ref (a.2 51)), (2, .int x2), (3, .int x3)]) 6 S dX2_standingAngle_75 rfl rfl (by decide) rfl ?_
            refine g_goto (tgt := 23) S dX2_standingAngle_78 (by decide) ?_
            refine Go.sub [3, 4, 5, 6, 1, 0] rfl ?_
            exact ih _ _ _ _ hf
          · refine g_iload 0 S dX2_standingAngle_63 rfl ?_
            refine g_if_le (tgt := 71) S dX2_standingAngle_65 (by decide) hf (fun c hf => ?_) (fun c hf => ?_)
            · refine g_iload 0 S dX2_standingAngle_71 rfl ?_
              refine g_istore (lv' := [(4, .int r2), (6, .int r2), (0, .ref (a.2 u0)), (1, .ref (a.2 51)), (2, .int x2), (3, .int x3), (5, .int x5)]) S dX2_standingAngle_73 (by decide) rfl ?_
              refine g_iinc (v := (x5 + 1)) (lv' := [(5, .int (x5 + 1)), (4, .int r2), (6, .int r2), (0, .ref (a.2 u0)), (1, .ref (a.2 51)), (2, .int x2), (3, .int x3)]) 6 S dX2_standingAngle_75 rfl rfl (by decide) rfl ?_
              refine g_goto (tgt := 23) S dX2_standingAngle_78 (by decide) ?_
              refine Go.sub [3, 4, 5, 6, 1, 0] rfl ?_
              exact ih _ _ _ _ hf
            · refine g_iload 6 S dX2_standingAngle_68 rfl ?_
              exact g_iretP rt hf dX2_standingAngle_70
        · refine g_iload 0 S dX2_standingAngle_53 rfl ?_
          refine g_if_lt (tgt := 68) S dX2_standingAngle_55 (by decide) hf (fun c hf => ?_) (fun c hf => ?_)
          · refine g_iload 6 S dX2_standingAngle_68 rfl ?_
            exact g_iretP rt hf dX2_standingAngle_70
          · refine g_iload 5 S dX2_standingAngle_58 rfl ?_
            refine g_if_ge (tgt := 71) S dX2_standingAngle_60 (by decide) hf (fun c hf => ?_) (fun c hf => ?_)
            · refine g_iload 0 S dX2_standingAngle_71 rfl ?_
              refine g_istore (lv' := [(4, .int r2), (6, .int r2), (0, .ref (a.2 u0)), (1, .ref (a.2 51)), (2, .int x2), (3, .int x3), (5, .int x5)]) S dX2_standingAngle_73 (by decide) rfl ?_
              refine g_iinc (v := (x5 + 1)) (lv' := [(5, .int (x5 + 1)), (4, .int r2), (6, .int r2), (0, .ref (a.2 u0)), (1, .ref (a.2 51)), (2, .int x2), (3, .int x3)]) 6 S dX2_standingAngle_75 rfl rfl (by decide) rfl ?_
              refine g_goto (tgt := 23) S dX2_standingAngle_78 (by decide) ?_
              refine Go.sub [3, 4, 5, 6, 1, 0] rfl ?_
              exact ih _ _ _ _ hf
            · refine g_iload 0 S dX2_standingAngle_63 rfl ?_
              refine g_if_le (tgt := 71) S dX2_standingAngle_65 (by decide) hf (fun c hf => ?_) (fun c hf => ?_)
              · refine g_iload 0 S dX2_standingAngle_71 rfl ?_
                refine g_istore (lv' := [(4, .int r2), (6, .int r2), (0, .ref (a.2 u0)), (1, .ref (a.2 51)), (2, .int x2), (3, .int x3), (5, .int x5)]) S dX2_standingAngle_73 (by decide) rfl ?_
                refine g_iinc (v := (x5 + 1)) (lv' := [(5, .int (x5 + 1)), (4, .int r2), (6, .int r2), (0, .ref (a.2 u0)), (1, .ref (a.2 51)), (2, .int x2), (3, .int x3)]) 6 S dX2_standingAngle_75 rfl rfl (by decide) rfl ?_
                refine g_goto (tgt := 23) S dX2_standingAngle_78 (by decide) ?_
                refine Go.sub [3, 4, 5, 6, 1, 0] rfl ?_
                exact ih _ _ _ _ hf
              · refine g_iload 6 S dX2_standingAngle_68 rfl ?_
                exact g_iretP rt hf dX2_standingAngle_70
def f_X2_standingAngle (z : Nat → Nat) (u0 : Nat) (M : Mem) (p2 : Int32) (p3 : Int32) : Option Int32 := if (M u0 3) = 0 then some (-2) else bd1 (f_X2_turningAt z u0 M p2 0 p3) (fun r1 => f_X2_standingAngle_23 z u0 M 1000 p2 p3 r1 0)
theorem c_X2_standingAngle {l : Launch} {G : GG} {a : AA} {u0 : Nat} (hu0 : vK a.1 u0) {M : Mem} {p2 : Int32} {p3 : Int32} {r : Int32} (hf : f_X2_standingAngle a.1 u0 M p2 p3 = some r) : CtI l G a yX2_standingAngle cX2_standingAngle 7 .int (rmD 4) [.ref (a.2 u0), .ref (a.2 51), .int p2, .int p3] M r M := by
  refine ct_I (by decide) rfl rfl (own := RX2) (Nat.le_of_ble_eq_true rfl) (fun K hl hg S rt => ?_)
  subst hl; subst hg
  unfold f_X2_standingAngle at hf
  show Go K 7 a M 0 [(0, .ref (a.2 u0)), (1, .ref (a.2 51)), (2, .int p2), (3, .int p3)] []
  refine g_aload_n 0 S dX2_standingAngle_0 rfl ?_
  refine g_get (v := .int (M u0 3)) S (ob_K hu0) rfl gi_X2 (by decide) lf_X2_21 rfl dX2_standingAngle_1 ?_
  refine g_if_ne (tgt := 10) S dX2_standingAngle_4 (by decide) hf (fun c hf => ?_) (fun c hf => ?_)
  · refine g_bipush (v := (-2)) S dX2_standingAngle_7 rfl ?_
    exact g_iretP rt hf dX2_standingAngle_9
  · refine g_aload_n 0 S dX2_standingAngle_10 rfl ?_
    refine g_aload_n 1 S dX2_standingAngle_11 rfl ?_
    refine g_iload_n 2 S dX2_standingAngle_12 rfl ?_
    refine g_iconst (v := 0) S dX2_standingAngle_13 rfl ?_
    refine g_iload_n 3 S dX2_standingAngle_14 rfl ?_
    obtain ⟨r1, hr1, hf⟩ := bd1_some hf
    refine g_cVI (st := []) S (ob_K hu0) rfl ok_X2_turningAt lk_X2_47 (c_X2_turningAt hu0 hr1) rfl rfl ⟨by decide, by decide⟩ (rmD_z _) (Nat.le_of_ble_eq_true rfl) dX2_standingAngle_15 ?_
    refine g_istore (lv' := [(4, .int r1), (0, .ref (a.2 u0)), (1, .ref (a.2 51)), (2, .int p2), (3, .int p3)]) S dX2_standingAngle_18 (by decide) rfl ?_
    refine g_iconst (v := 0) S dX2_standingAngle_20 rfl ?_
    refine g_istore (lv' := [(5, .int 0), (4, .int r1), (0, .ref (a.2 u0)), (1, .ref (a.2 51)), (2, .int p2), (3, .int p3)]) S dX2_standingAngle_21 (by decide) rfl ?_
    refine Go.sub [2, 3, 4, 5, 1, 0] rfl ?_
    exact t_X2_standingAngle_23 hu0 S rt 1000 _ _ _ _ hf
-- BridleBook$Kite.isSteadyAt(LBridleBook$Tables;III)Z
theorem dX2_isSteadyAt_0 : decode cX2_isSteadyAt 0 = .ok (.iload_n 3, 1) := by decide +kernel
theorem dX2_isSteadyAt_1 : decode cX2_isSteadyAt 1 = .ok (.iconst 1, 1) := by decide +kernel
theorem dX2_isSteadyAt_2 : decode cX2_isSteadyAt 2 = .ok (.isub, 1) := by decide +kernel
theorem dX2_isSteadyAt_3 : decode cX2_isSteadyAt 3 = .ok (.iconst 0, 1) := by decide +kernel
theorem dX2_isSteadyAt_4 : decode cX2_isSteadyAt 4 = .ok (.invokestatic 51, 3) := by decide +kernel
theorem dX2_isSteadyAt_7 : decode cX2_isSteadyAt 7 = .ok (.istore 5, 2) := by decide +kernel
theorem dX2_isSteadyAt_9 : decode cX2_isSteadyAt 9 = .ok (.iload_n 3, 1) := by decide +kernel
theorem dX2_isSteadyAt_10 : decode cX2_isSteadyAt 10 = .ok (.iconst 1, 1) := by decide +kernel
theorem dX2_isSteadyAt_11 : decode cX2_isSteadyAt 11 = .ok (.iadd, 1) := by decide +kernel
theorem dX2_isSteadyAt_12 : decode cX2_isSteadyAt 12 = .ok (.bipush 17, 2) := by decide +kernel
theorem dX2_isSteadyAt_14 : decode cX2_isSteadyAt 14 = .ok (.invokestatic 57, 3) := by decide +kernel
theorem dX2_isSteadyAt_17 : decode cX2_isSteadyAt 17 = .ok (.istore 6, 2) := by decide +kernel
theorem dX2_isSteadyAt_19 : decode cX2_isSteadyAt 19 = .ok (.aload_n 0, 1) := by decide +kernel
theorem dX2_isSteadyAt_20 : decode cX2_isSteadyAt 20 = .ok (.aload_n 1, 1) := by decide +kernel
theorem dX2_isSteadyAt_21 : decode cX2_isSteadyAt 21 = .ok (.iload_n 2, 1) := by decide +kernel
theorem dX2_isSteadyAt_22 : decode cX2_isSteadyAt 22 = .ok (.iload 5, 2) := by decide +kernel
theorem dX2_isSteadyAt_24 : decode cX2_isSteadyAt 24 = .ok (.iload 4, 2) := by decide +kernel
theorem dX2_isSteadyAt_26 : decode cX2_isSteadyAt 26 = .ok (.invokevirtual 47, 3) := by decide +kernel
theorem dX2_isSteadyAt_29 : decode cX2_isSteadyAt 29 = .ok (.ifCond .lt 20, 3) := by decide +kernel
theorem dX2_isSteadyAt_32 : decode cX2_isSteadyAt 32 = .ok (.aload_n 0, 1) := by decide +kernel
theorem dX2_isSteadyAt_33 : decode cX2_isSteadyAt 33 = .ok (.aload_n 1, 1) := by decide +kernel
theorem dX2_isSteadyAt_34 : decode cX2_isSteadyAt 34 = .ok (.iload_n 2, 1) := by decide +kernel
theorem dX2_isSteadyAt_35 : decode cX2_isSteadyAt 35 = .ok (.iload 6, 2) := by decide +kernel
theorem dX2_isSteadyAt_37 : decode cX2_isSteadyAt 37 = .ok (.iload 4, 2) := by decide +kernel
theorem dX2_isSteadyAt_39 : decode cX2_isSteadyAt 39 = .ok (.invokevirtual 47, 3) := by decide +kernel
theorem dX2_isSteadyAt_42 : decode cX2_isSteadyAt 42 = .ok (.ifCond .gt 7, 3) := by decide +kernel
theorem dX2_isSteadyAt_45 : decode cX2_isSteadyAt 45 = .ok (.iconst 1, 1) := by decide +kernel
theorem dX2_isSteadyAt_46 : decode cX2_isSteadyAt 46 = .ok (.goto 4, 3) := by decide +kernel
theorem dX2_isSteadyAt_49 : decode cX2_isSteadyAt 49 = .ok (.iconst 0, 1) := by decide +kernel
theorem dX2_isSteadyAt_50 : decode cX2_isSteadyAt 50 = .ok (.ireturn, 1) := by decide +kernel
def f_X2_isSteadyAt (z : Nat → Nat) (u0 : Nat) (M : Mem) (p2 : Int32) (p3 : Int32) (p4 : Int32) : Option Bool := bd1 (f_X2_turningAt z u0 M p2 (imax (p3 - 1) 0) p4) (fun r1 => if r1 < 0 then some false else bd1 (f_X2_turningAt z u0 M p2 (imin (p3 + 1) 17) p4) (fun r2 => if 0 < r2 then some false else some true))
theorem c_X2_isSteadyAt {l : Launch} {G : GG} {a : AA} {u0 : Nat} (hu0 : vK a.1 u0) {M : Mem} {p2 : Int32} {p3 : Int32} {p4 : Int32} {r : Bool} (hf : f_X2_isSteadyAt a.1 u0 M p2 p3 p4 = some r) : CtI l G a yX2_isSteadyAt cX2_isSteadyAt 7 .boolean (rmD 4) [.ref (a.2 u0), .ref (a.2 51), .int p2, .int p3, .int p4] M (b2i r) M := by
  refine ct_I (by decide) rfl (b2i_n _) (own := RX2) (Nat.le_of_ble_eq_true rfl) (fun K hl hg S rt => ?_)
  subst hl; subst hg
  unfold f_X2_isSteadyAt at hf
  show Go K 7 a M 0 [(0, .ref (a.2 u0)), (1, .ref (a.2 51)), (2, .int p2), (3, .int p3), (4, .int p4)] []
  refine g_iload_n 3 S dX2_isSteadyAt_0 rfl ?_
  refine g_iconst (v := 1) S dX2_isSteadyAt_1 rfl ?_
  refine g_isub S dX2_isSteadyAt_2 ?_
  refine g_iconst (v := 0) S dX2_isSteadyAt_3 rfl ?_
  refine g_mmax S lk_X2_51 (by decide) (Nat.le_of_ble_eq_true rfl) dX2_isSteadyAt_4 ?_
  refine g_istore (lv' := [(5, .int (imax (p3 - 1) 0)), (0, .ref (a.2 u0)), (1, .ref (a.2 51)), (2, .int p2), (3, .int p3), (4, .int p4)]) S dX2_isSteadyAt_7 (by decide) rfl ?_
  refine g_iload_n 4 S dX2_isSteadyAt_9 rfl ?_
  refine g_iconst (v := 1) S dX2_isSteadyAt_10 rfl ?_
  refine g_iadd S dX2_isSteadyAt_11 ?_
  refine g_bipush (v := 17) S dX2_isSteadyAt_12 rfl ?_
  refine g_mmin S lk_X2_57 (by decide) (Nat.le_of_ble_eq_true rfl) dX2_isSteadyAt_14 ?_
  refine g_istore (lv' := [(6, .int (imin (p3 + 1) 17)), (5, .int (imax (p3 - 1) 0)), (0, .ref (a.2 u0)), (1, .ref (a.2 51)), (2, .int p2), (3, .int p3), (4, .int p4)]) S dX2_isSteadyAt_17 (by decide) rfl ?_
  refine g_aload_n 2 S dX2_isSteadyAt_19 rfl ?_
  refine g_aload_n 3 S dX2_isSteadyAt_20 rfl ?_
  refine g_iload_n 4 S dX2_isSteadyAt_21 rfl ?_
  refine g_iload 1 S dX2_isSteadyAt_22 rfl ?_
  refine g_iload 6 S dX2_isSteadyAt_24 rfl ?_
  obtain ⟨r1, hr1, hf⟩ := bd1_some hf
  refine g_cVI (st := []) S (ob_K hu0) rfl ok_X2_turningAt lk_X2_47 (c_X2_turningAt hu0 hr1) rfl rfl ⟨by decide, by decide⟩ (rmD_z _) (Nat.le_of_ble_eq_true rfl) dX2_isSteadyAt_26 ?_
  refine g_if_lt (tgt := 49) S dX2_isSteadyAt_29 (by decide) hf (fun c hf => ?_) (fun c hf => ?_)
  · refine g_iconst (v := 0) S dX2_isSteadyAt_49 rfl ?_
    exact g_zretP rt hf dX2_isSteadyAt_50 rfl
  · refine g_aload_n 2 S dX2_isSteadyAt_32 rfl ?_
    refine g_aload_n 3 S dX2_isSteadyAt_33 rfl ?_
    refine g_iload_n 4 S dX2_isSteadyAt_34 rfl ?_
    refine g_iload 0 S dX2_isSteadyAt_35 rfl ?_
    refine g_iload 6 S dX2_isSteadyAt_37 rfl ?_
    obtain ⟨r2, hr2, hf⟩ := bd1_some hf
    refine g_cVI (st := []) S (ob_K hu0) rfl ok_X2_turningAt lk_X2_47 (c_X2_turningAt hu0 hr2) rfl rfl ⟨by decide, by decide⟩ (rmD_z _) (Nat.le_of_ble_eq_true rfl) dX2_isSteadyAt_39 ?_
    refine g_if_gt (tgt := 49) S dX2_isSteadyAt_42 (by decide) hf (fun c hf => ?_) (fun c hf => ?_)
    · refine g_iconst (v := 0) S dX2_isSteadyAt_49 rfl ?_
      exact g_zretP rt hf dX2_isSteadyAt_50 rfl
    · refine g_iconst (v := 1) S dX2_isSteadyAt_45 rfl ?_
      refine g_goto (tgt := 50) S dX2_isSteadyAt_46 (by decide) ?_
      exact g_zretP rt hf dX2_isSteadyAt_50 rfl
