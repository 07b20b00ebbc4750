-- BridleBook$TurnRow.codeOf(III)I
theorem dX6_codeOf_0 : decode cX6_codeOf 0 = .ok (.iload_n 2, 1) := by decide +kernel
theorem dX6_codeOf_1 : decode cX6_codeOf 1 = .ok (.bipush 10, 2) := by decide +kernel
theorem dX6_codeOf_3 : decode cX6_codeOf 3 = .ok (.iload_n 0, 1) := by decide +kernel
theorem dX6_codeOf_4 : decode cX6_codeOf 4 = .ok (.iload_n 1, 1) := by decide +kernel
theorem dX6_codeOf_5 : decode cX6_codeOf 5 = .ok (.invokestatic 19, 3) := by decide +kernel
theorem dX6_codeOf_8 : decode cX6_codeOf 8 = .ok (.imul, 1) := by decide +kernel
theorem dX6_codeOf_9 : decode cX6_codeOf 9 = .ok (.iload_n 0, 1) := by decide +kernel
theorem dX6_codeOf_10 : decode cX6_codeOf 10 = .ok (.iload_n 1, 1) := by decide +kernel
theorem dX6_codeOf_11 : decode cX6_codeOf 11 = .ok (.invokestatic 25, 3) := by decide +kernel
theorem dX6_codeOf_14 : decode cX6_codeOf 14 = .ok (.iadd, 1) := by decide +kernel
theorem dX6_codeOf_15 : decode cX6_codeOf 15 = .ok (.imul, 1) := by decide +kernel
theorem dX6_codeOf_16 : decode cX6_codeOf 16 = .ok (.ireturn, 1) := by decide +kernel
def f_X6_codeOf (z : Nat → Nat) (M : Mem) (p1 : Int32) (p2 : Int32) (p3 : Int32) : Option Int32 := some (p3 * ((10 * (imin p1 p2)) + (imax p1 p2)))
theorem c_X6_codeOf {l : Launch} {G : GG} {a : AA} {M : Mem} {p1 : Int32} {p2 : Int32} {p3 : Int32} {r : Int32} (hf : f_X6_codeOf a.1 M p1 p2 p3 = some r) : CtI l G a yX6_codeOf cX6_codeOf 3 .int (rmD 1) [.int p1, .int p2, .int p3] M r M := by
  refine ct_I (by decide) rfl rfl (own := RX6) (Nat.le_of_ble_eq_true rfl) (fun K hl hg S rt => ?_)
  subst hl; subst hg
  unfold f_X6_codeOf at hf
  show Go K 3 a M 0 [(0, .int p1), (1, .int p2), (2, .int p3)] []
  refine g_iload_n 2 S dX6_codeOf_0 rfl ?_
  refine g_bipush (v := 10) S dX6_codeOf_1 rfl ?_
  refine g_iload_n 0 S dX6_codeOf_3 rfl ?_
  refine g_iload_n 1 S dX6_codeOf_4 rfl ?_
  refine g_mmin S lk_X6_19 (by decide) (Nat.le_of_ble_eq_true rfl) dX6_codeOf_5 ?_
  refine g_imul S dX6_codeOf_8 ?_
  refine g_iload_n 0 S dX6_codeOf_9 rfl ?_
  refine g_iload_n 1 S dX6_codeOf_10 rfl ?_
  refine g_mmax S lk_X6_25 (by decide) (Nat.le_of_ble_eq_true rfl) dX6_codeOf_11 ?_
  refine g_iadd S dX6_codeOf_14 ?_
  refine g_imul S dX6_codeOf_15 ?_
  exact g_iretP rt hf dX6_codeOf_16
-- BridleBook$TurnRow.isOfLine(II)Z
theorem dX6_isOfLine_0 : decode cX6_isOfLine 0 = .ok (.iload_n 0, 1) := by decide +kernel
theorem dX6_isOfLine_1 : decode cX6_isOfLine 1 = .ok (.invokestatic 28, 3) := by decide +kernel
theorem dX6_isOfLine_4 : decode cX6_isOfLine 4 = .ok (.istore_n 2, 1) := by decide +kernel
theorem dX6_isOfLine_5 : decode cX6_isOfLine 5 = .ok (.iload_n 2, 1) := by decide +kernel
theorem dX6_isOfLine_6 : decode cX6_isOfLine 6 = .ok (.bipush 10, 2) := by decide +kernel
theorem dX6_isOfLine_8 : decode cX6_isOfLine 8 = .ok (.idiv, 1) := by decide +kernel
theorem dX6_isOfLine_9 : decode cX6_isOfLine 9 = .ok (.iload_n 1, 1) := by decide +kernel
theorem dX6_isOfLine_10 : decode cX6_isOfLine 10 = .ok (.if_icmp .eq 11, 3) := by decide +kernel
theorem dX6_isOfLine_13 : decode cX6_isOfLine 13 = .ok (.iload_n 2, 1) := by decide +kernel
theorem dX6_isOfLine_14 : decode cX6_isOfLine 14 = .ok (.bipush 10, 2) := by decide +kernel
theorem dX6_isOfLine_16 : decode cX6_isOfLine 16 = .ok (.irem, 1) := by decide +kernel
theorem dX6_isOfLine_17 : decode cX6_isOfLine 17 = .ok (.iload_n 1, 1) := by decide +kernel
theorem dX6_isOfLine_18 : decode cX6_isOfLine 18 = .ok (.if_icmp .ne 7, 3) := by decide +kernel
theorem dX6_isOfLine_21 : decode cX6_isOfLine 21 = .ok (.iconst 1, 1) := by decide +kernel
theorem dX6_isOfLine_22 : decode cX6_isOfLine 22 = .ok (.goto 4, 3) := by decide +kernel
theorem dX6_isOfLine_25 : decode cX6_isOfLine 25 = .ok (.iconst 0, 1) := by decide +kernel
theorem dX6_isOfLine_26 : decode cX6_isOfLine 26 = .ok (.ireturn, 1) := by decide +kernel
def f_X6_isOfLine (z : Nat → Nat) (M : Mem) (p1 : Int32) (p2 : Int32) : Option Bool := if ((iabs p1) / 10) = p2 then some true else if (irem (iabs p1) 10) = p2 then some true else some false
theorem c_X6_isOfLine {l : Launch} {G : GG} {a : AA} {M : Mem} {p1 : Int32} {p2 : Int32} {r : Bool} (hf : f_X6_isOfLine a.1 M p1 p2 = some r) : CtI l G a yX6_isOfLine cX6_isOfLine 3 .boolean (rmD 1) [.int p1, .int p2] M (b2i r) M := by
  refine ct_I (by decide) rfl (b2i_n _) (own := RX6) (Nat.le_of_ble_eq_true rfl) (fun K hl hg S rt => ?_)
  subst hl; subst hg
  unfold f_X6_isOfLine at hf
  show Go K 3 a M 0 [(0, .int p1), (1, .int p2)] []
  refine g_iload_n 0 S dX6_isOfLine_0 rfl ?_
  refine g_mabs S lk_X6_28 (by decide) (Nat.le_of_ble_eq_true rfl) dX6_isOfLine_1 ?_
  refine g_istore_n (lv' := [(2, .int (iabs p1)), (0, .int p1), (1, .int p2)]) S dX6_isOfLine_4 (by decide) rfl ?_
  refine g_iload_n 0 S dX6_isOfLine_5 rfl ?_
  refine g_bipush (v := 10) S dX6_isOfLine_6 rfl ?_
  refine g_idiv S dX6_isOfLine_8 (by decide) ?_
  refine g_iload_n 2 S dX6_isOfLine_9 rfl ?_
  refine g_icmp_eq (tgt := 21) S dX6_isOfLine_10 (by decide) hf (fun c hf => ?_) (fun c hf => ?_)
  · refine g_iconst (v := 1) S dX6_isOfLine_21 rfl ?_
    refine g_goto (tgt := 26) S dX6_isOfLine_22 (by decide) ?_
    exact g_zretP rt hf dX6_isOfLine_26 rfl
  · refine g_iload_n 0 S dX6_isOfLine_13 rfl ?_
    refine g_bipush (v := 10) S dX6_isOfLine_14 rfl ?_
    refine g_irem S dX6_isOfLine_16 (by decide) ?_
    refine g_iload_n 2 S dX6_isOfLine_17 rfl ?_
    refine g_icmp_ne (tgt := 25) S dX6_isOfLine_18 (by decide) hf (fun c hf => ?_) (fun c hf => ?_)
    · refine g_iconst (v := 1) S dX6_isOfLine_21 rfl ?_
      refine g_goto (tgt := 26) S dX6_isOfLine_22 (by decide) ?_
      exact g_zretP rt hf dX6_isOfLine_26 rfl
    · refine g_iconst (v := 0) S dX6_isOfLine_25 rfl ?_
      exact g_zretP rt hf dX6_isOfLine_26 rfl
-- BridleBook$TurnRow.push(I)Z
theorem dX6_push_0 : decode cX6_push 0 = .ok (.aload_n 0, 1) := by decide +kernel
theorem dX6_push_1 : decode cX6_push 1 = .ok (.getfield 15, 3) := by decide +kernel
theorem dX6_push_4 : decode cX6_push 4 = .ok (.ifCond .le 31, 3) := by decide +kernel
theorem dX6_push_7 : decode cX6_push 7 = .ok (.aload_n 0, 1) := by decide +kernel
theorem dX6_push_8 : decode cX6_push 8 = .ok (.getfield 9, 3) := by decide +kernel
theorem dX6_push_11 : decode cX6_push 11 = .ok (.aload_n 0, 1) := by decide +kernel
theorem dX6_push_12 : decode cX6_push 12 = .ok (.getfield 15, 3) := by decide +kernel
theorem dX6_push_15 : decode cX6_push 15 = .ok (.iconst 1, 1) := by decide +kernel
theorem dX6_push_16 : decode cX6_push 16 = .ok (.isub, 1) := by decide +kernel
theorem dX6_push_17 : decode cX6_push 17 = .ok (.iaload, 1) := by decide +kernel
theorem dX6_push_18 : decode cX6_push 18 = .ok (.iload_n 1, 1) := by decide +kernel
theorem dX6_push_19 : decode cX6_push 19 = .ok (.ineg, 1) := by decide +kernel
theorem dX6_push_20 : decode cX6_push 20 = .ok (.if_icmp .ne 15, 3) := by decide +kernel
theorem dX6_push_23 : decode cX6_push 23 = .ok (.aload_n 0, 1) := by decide +kernel
theorem dX6_push_24 : decode cX6_push 24 = .ok (.dup, 1) := by decide +kernel
theorem dX6_push_25 : decode cX6_push 25 = .ok (.getfield 15, 3) := by decide +kernel
theorem dX6_push_28 : decode cX6_push 28 = .ok (.iconst 1, 1) := by decide +kernel
theorem dX6_push_29 : decode cX6_push 29 = .ok (.isub, 1) := by decide +kernel
theorem dX6_push_30 : decode cX6_push 30 = .ok (.putfield 15, 3) := by decide +kernel
theorem dX6_push_33 : decode cX6_push 33 = .ok (.iconst 1, 1) := by decide +kernel
theorem dX6_push_34 : decode cX6_push 34 = .ok (.ireturn, 1) := by decide +kernel
theorem dX6_push_35 : decode cX6_push 35 = .ok (.aload_n 0, 1) := by decide +kernel
theorem dX6_push_36 : decode cX6_push 36 = .ok (.getfield 15, 3) := by decide +kernel
theorem dX6_push_39 : decode cX6_push 39 = .ok (.sipush 200, 3) := by decide +kernel
theorem dX6_push_42 : decode cX6_push 42 = .ok (.if_icmp .lt 5, 3) := by decide +kernel
theorem dX6_push_45 : decode cX6_push 45 = .ok (.iconst 0, 1) := by decide +kernel
theorem dX6_push_46 : decode cX6_push 46 = .ok (.ireturn, 1) := by decide +kernel
theorem dX6_push_47 : decode cX6_push 47 = .ok (.aload_n 0, 1) := by decide +kernel
theorem dX6_push_48 : decode cX6_push 48 = .ok (.getfield 9, 3) := by decide +kernel
theorem dX6_push_51 : decode cX6_push 51 = .ok (.aload_n 0, 1) := by decide +kernel
theorem dX6_push_52 : decode cX6_push 52 = .ok (.getfield 15, 3) := by decide +kernel
theorem dX6_push_55 : decode cX6_push 55 = .ok (.iload_n 1, 1) := by decide +kernel
theorem dX6_push_56 : decode cX6_push 56 = .ok (.iastore, 1) := by decide +kernel
theorem dX6_push_57 : decode cX6_push 57 = .ok (.aload_n 0, 1) := by decide +kernel
theorem dX6_push_58 : decode cX6_push 58 = .ok (.dup, 1) := by decide +kernel
theorem dX6_push_59 : decode cX6_push 59 = .ok (.getfield 15, 3) := by decide +kernel
theorem dX6_push_62 : decode cX6_push 62 = .ok (.iconst 1, 1) := by decide +kernel
theorem dX6_push_63 : decode cX6_push 63 = .ok (.iadd, 1) := by decide +kernel
theorem dX6_push_64 : decode cX6_push 64 = .ok (.putfield 15, 3) := by decide +kernel
theorem dX6_push_67 : decode cX6_push 67 = .ok (.iconst 1, 1) := by decide +kernel
theorem dX6_push_68 : decode cX6_push 68 = .ok (.ireturn, 1) := by decide +kernel
def f_X6_push_35 (z : Nat → Nat) (M : Mem) (x1 : Int32) : Option (Bool × Mem) := if (M 67 1) < 200 then ck (inb (M 67 1) 200) (lt (mu (mu M 74 (Int32.toNatClampNeg (M 67 1)) x1) 67 1 (((mu M 74 (Int32.toNatClampNeg (M 67 1)) x1) 67 1) + 1)) (fun M1 => some (true, M1))) else some (false, M)
theorem t_X6_push_35 {K : KK} {a : AA} (S : Sx K RX6 cX6_push 2 (rmD 0)) {r : Bool} {M' : Mem} (rt : RtI K a cX6_push (b2i r) M') (M : Mem) (x1 : Int32) (hf : f_X6_push_35 a.1 M x1 = some (r, M')) : Go K 2 a M 35 [(0, .ref (a.2 67)), (1, .int x1)] [] := by
  unfold f_X6_push_35 at hf
  refine g_aload_n 0 S dX6_push_35 rfl ?_
  refine g_get (v := .int (M 67 1)) S ob_67 rfl gi_X6 (by decide) lf_X6_15 rfl dX6_push_36 ?_
  refine g_sipush (v := 200) S dX6_push_39 rfl ?_
  refine g_icmp_lt (tgt := 47) S dX6_push_42 (by decide) hf (fun c hf => ?_) (fun c hf => ?_)
  · refine g_aload_n 0 S dX6_push_47 rfl ?_
    refine g_get (v := .ref (a.2 74)) S ob_67 rfl gi_X6 (by decide) lf_X6_9 rfl dX6_push_48 ?_
    refine g_aload_n 0 S dX6_push_51 rfl ?_
    refine g_get (v := .int (M 67 1)) S ob_67 rfl gi_X6 (by decide) lf_X6_15 rfl dX6_push_52 ?_
    refine g_iload_n 1 S dX6_push_55 rfl ?_
    refine g_iast S ia_74 dX6_push_56 hf (fun hf => ?_)
    refine g_aload_n 0 S dX6_push_57 rfl ?_
    refine g_dup S dX6_push_58 rfl ?_
    refine g_get (v := .int ((mu M 74 (Int32.toNatClampNeg (M 67 1)) x1) 67 1)) S ob_67 rfl gi_X6 (by decide) lf_X6_15 rfl dX6_push_59 ?_
    refine g_iconst (v := 1) S dX6_push_62 rfl ?_
    refine g_iadd S dX6_push_63 ?_
    refine g_put (ty := .int) S ob_67 rfl gi_X6 tyX6_ok nmX6 (by decide) lf_X6_15 rfl (by decide +kernel) rfl rfl (Nat.le_of_ble_eq_true rfl) rfl dX6_push_64 ?_
    obtain ⟨M1, eM1, hf⟩ := lt_some hf
    refine Go.M eM1 ?_
    refine g_iconst (v := 1) S dX6_push_67 rfl ?_
    exact g_zretM rt hf dX6_push_68 rfl
  · refine g_iconst (v := 0) S dX6_push_45 rfl ?_
    exact g_zretM rt hf dX6_push_46 rfl
def f_X6_push (z : Nat → Nat) (M : Mem) (p1 : Int32) : Option (Bool × Mem) := if (M 67 1) ≤ 0 then f_X6_push_35 z M p1 else ck (inb ((M 67 1) - 1) 200) (if (M 74 (Int32.toNatClampNeg ((M 67 1) - 1))) = (-p1) then some (true, (mu M 67 1 ((M 67 1) - 1))) else f_X6_push_35 z M p1)
theorem c_X6_push {l : Launch} {G : GG} {a : AA} {M : Mem} {p1 : Int32} {r : Bool} {M' : Mem} (hf : f_X6_push a.1 M p1 = some (r, M')) : CtI l G a yX6_push cX6_push 2 .boolean (rmD 0) [.ref (a.2 67), .int p1] M (b2i r) M' := by
  refine ct_I (by decide) rfl (b2i_n _) (own := RX6) (Nat.le_of_ble_eq_true rfl) (fun K hl hg S rt => ?_)
  subst hl; subst hg
  unfold f_X6_push at hf
  show Go K 2 a M 0 [(0, .ref (a.2 67)), (1, .int p1)] []
  refine g_aload_n 0 S dX6_push_0 rfl ?_
  refine g_get (v := .int (M 67 1)) S ob_67 rfl gi_X6 (by decide) lf_X6_15 rfl dX6_push_1 ?_
  refine g_if_le (tgt := 35) S dX6_push_4 (by decide) hf (fun c hf => ?_) (fun c hf => ?_)
  · exact t_X6_push_35  S rt _ _ hf
  · refine g_aload_n 0 S dX6_push_7 rfl ?_
    refine g_get (v := .ref (a.2 74)) S ob_67 rfl gi_X6 (by decide) lf_X6_9 rfl dX6_push_8 ?_
    refine g_aload_n 0 S dX6_push_11 rfl ?_
    refine g_get (v := .int (M 67 1)) S ob_67 rfl gi_X6 (by decide) lf_X6_15 rfl dX6_push_12 ?_
    refine g_iconst (v := 1) S dX6_push_15 rfl ?_
    refine g_isub S dX6_push_16 ?_
    refine g_iald S ia_74 dX6_push_17 hf (fun hf => ?_)
    refine g_iload_n 1 S dX6_push_18 rfl ?_
    refine g_ineg S dX6_push_19 ?_
    refine g_icmp_ne (tgt := 35) S dX6_push_20 (by decide) hf (fun c hf => ?_) (fun c hf => ?_)
    · refine g_aload_n 0 S dX6_push_23 rfl ?_
      refine g_dup S dX6_push_24 rfl ?_
      refine g_get (v := .int (M 67 1)) S ob_67 rfl gi_X6 (by decide) lf_X6_15 rfl dX6_push_25 ?_
      refine g_iconst (v := 1) S dX6_push_28 rfl ?_
      refine g_isub S dX6_push_29 ?_
      refine g_put (ty := .int) S ob_67 rfl gi_X6 tyX6_ok nmX6 (by decide) lf_X6_15 rfl (by decide +kernel) rfl rfl (Nat.le_of_ble_eq_true rfl) rfl dX6_push_30 ?_
      refine g_iconst (v := 1) S dX6_push_33 rfl ?_
      exact g_zretM rt hf dX6_push_34 rfl
    · exact t_X6_push_35  S rt _ _ hf
-- BridleBook$TurnRow.turnsOf(II)I
theorem dX6_turnsOf_0 : decode cX6_turnsOf 0 = .ok (.iload_n 1, 1) := by decide +kernel
theorem dX6_turnsOf_1 : decode cX6_turnsOf 1 = .ok (.iload_n 2, 1) := by decide +kernel
theorem dX6_turnsOf_2 : decode cX6_turnsOf 2 = .ok (.iconst 1, 1) := by decide +kernel
theorem dX6_turnsOf_3 : decode cX6_turnsOf 3 = .ok (.invokestatic 32, 3) := by decide +kernel
theorem dX6_turnsOf_6 : decode cX6_turnsOf 6 = .ok (.istore_n 3, 1) := by decide +kernel
theorem dX6_turnsOf_7 : decode cX6_turnsOf 7 = .ok (.iconst 0, 1) := by decide +kernel
theorem dX6_turnsOf_8 : decode cX6_turnsOf 8 = .ok (.istore 4, 2) := by decide +kernel
theorem dX6_turnsOf_10 : decode cX6_turnsOf 10 = .ok (.iconst 0, 1) := by decide +kernel
theorem dX6_turnsOf_11 : decode cX6_turnsOf 11 = .ok (.istore 5, 2) := by decide +kernel
theorem dX6_turnsOf_13 : decode cX6_turnsOf 13 = .ok (.iload 5, 2) := by decide +kernel
theorem dX6_turnsOf_15 : decode cX6_turnsOf 15 = .ok (.aload_n 0, 1) := by decide +kernel
theorem dX6_turnsOf_16 : decode cX6_turnsOf 16 = .ok (.getfield 15, 3) := by decide +kernel
theorem dX6_turnsOf_19 : decode cX6_turnsOf 19 = .ok (.if_icmp .ge 26, 3) := by decide +kernel
theorem dX6_turnsOf_22 : decode cX6_turnsOf 22 = .ok (.aload_n 0, 1) := by decide +kernel
theorem dX6_turnsOf_23 : decode cX6_turnsOf 23 = .ok (.getfield 9, 3) := by decide +kernel
theorem dX6_turnsOf_26 : decode cX6_turnsOf 26 = .ok (.iload 5, 2) := by decide +kernel
theorem dX6_turnsOf_28 : decode cX6_turnsOf 28 = .ok (.iaload, 1) := by decide +kernel
theorem dX6_turnsOf_29 : decode cX6_turnsOf 29 = .ok (.invokestatic 28, 3) := by decide +kernel
theorem dX6_turnsOf_32 : decode cX6_turnsOf 32 = .ok (.iload_n 3, 1) := by decide +kernel
theorem dX6_turnsOf_33 : decode cX6_turnsOf 33 = .ok (.if_icmp .ne 6, 3) := by decide +kernel
theorem dX6_turnsOf_36 : decode cX6_turnsOf 36 = .ok (.iinc 4 1, 3) := by decide +kernel
theorem dX6_turnsOf_39 : decode cX6_turnsOf 39 = .ok (.iinc 5 1, 3) := by decide +kernel
theorem dX6_turnsOf_42 : decode cX6_turnsOf 42 = .ok (.goto (-29), 3) := by decide +kernel
theorem dX6_turnsOf_45 : decode cX6_turnsOf 45 = .ok (.iload 4, 2) := by decide +kernel
theorem dX6_turnsOf_47 : decode cX6_turnsOf 47 = .ok (.ireturn, 1) := by decide +kernel
def f_X6_turnsOf_13 (z : Nat → Nat) (M : Mem) : Nat → Int32 → Int32 → Int32 → Option Int32
  | 0, _, _, _ => none
  | fu + 1, x3, x4, x5 => if (M 67 1) ≤ x5 then some x4 else ck (inb x5 200) (if (iabs (M 74 (Int32.toNatClampNeg x5))) = x3 then f_X6_turnsOf_13 z M fu x3 (x4 + 1) (x5 + 1) else f_X6_turnsOf_13 z M fu x3 x4 (x5 + 1))
theorem t_X6_turnsOf_13 {K : KK} {a : AA} (S : Sx K RX6 cX6_turnsOf 6 (rmD 2)) {r : Int32} {M : Mem} (rt : RtI K a cX6_turnsOf r M) : ∀ (fu : Nat) (x3 : Int32) (x4 : Int32) (x5 : Int32), f_X6_turnsOf_13 a.1 M fu x3 x4 x5 = some r → Go K 6 a M 13 [(0, .ref (a.2 67)), (3, .int x3), (4, .int x4), (5, .int x5)] [] := by
  intro fu
  induction fu with
  | zero => intro x3 x4 x5 hf; exact absurd hf (by simp [f_X6_turnsOf_13])
  | succ fu ih =>
    intro x3 x4 x5 hf
    rw [f_X6_turnsOf_13] at hf
    refine g_iload 3 S dX6_turnsOf_13 rfl ?_
    refine g_aload_n 0 S dX6_turnsOf_15 rfl ?_
    refine g_get (v := .int (M 67 1)) S ob_67 rfl gi_X6 (by decide) lf_X6_15 rfl dX6_turnsOf_16 ?_
    refine g_icmp_ge (tgt := 45) S dX6_turnsOf_19 (by decide) hf (fun c hf => ?_) (fun c hf => ?_)
    · refine g_iload 2 S dX6_turnsOf_45 rfl ?_
      exact g_iretP rt hf dX6_turnsOf_47
    · refine g_aload_n 0 S dX6_turnsOf_22 rfl ?_
      refine g_get (v := .ref (a.2 74)) S ob_67 rfl gi_X6 (by decide) lf_X6_9 rfl dX6_turnsOf_23 ?_
      refine g_iload 3 S dX6_turnsOf_26 rfl ?_
      refine g_iald S ia_74 dX6_turnsOf_28 hf (fun hf => ?_)
      refine g_mabs S lk_X6_28 (by decide) (Nat.le_of_ble_eq_true rfl) dX6_turnsOf_29 ?_
      refine g_iload_n 1 S dX6_turnsOf_32 rfl ?_
      refine g_icmp_ne (tgt := 39) S dX6_turnsOf_33 (by decide) hf (fun c hf => ?_) (fun c hf => ?_)
      · refine g_iinc (v := (x4 + 1)) (lv' := [(4, .int (x4 + 1)), (0, .ref (a.2 67)), (3, .int x3), (5, .int x5)]) 2 S dX6_turnsOf_36 rfl rfl (by decide) rfl ?_
        refine g_iinc (v := (x5 + 1)) (lv' := [(5, .int (x5 + 1)), (4, .int (x4 + 1)), (0, .ref (a.2 67)), (3, .int x3)]) 3 S dX6_turnsOf_39 rfl rfl (by decide) rfl ?_
        refine g_goto (tgt := 13) S dX6_turnsOf_42 (by decide) ?_
        refine Go.sub [2, 3, 1, 0] rfl ?_
        exact ih _ _ _ hf
      · refine g_iinc (v := (x5 + 1)) (lv' := [(5, .int (x5 + 1)), (0, .ref (a.2 67)), (3, .int x3), (4, .int x4)]) 3 S dX6_turnsOf_39 rfl rfl (by decide) rfl ?_
        refine g_goto (tgt := 13) S dX6_turnsOf_42 (by decide) ?_
        refine Go.sub [1, 2, 3, 0] rfl ?_
        exact ih _ _ _ hf
def f_X6_turnsOf (z : Nat → Nat) (M : Mem) (p1 : Int32) (p2 : Int32) : Option Int32 := bd1 (f_X6_codeOf z M p1 p2 1) (fun r1 => f_X6_turnsOf_13 z M 1000 r1 0 0)
theorem c_X6_turnsOf {l : Launch} {G : GG} {a : AA} {M : Mem} {p1 : Int32} {p2 : Int32} {r : Int32} (hf : f_X6_turnsOf a.1 M p1 p2 = some r) : CtI l G a yX6_turnsOf cX6_turnsOf 6 .int (rmD 2) [.ref (a.2 67), .int p1, .int p2] M r M := by
  refine ct_I (by decide) rfl rfl (own := RX6) (Nat.le_of_ble_eq_true rfl) (fun K hl hg S rt => ?_)
  subst hl; subst hg
  unfold f_X6_turnsOf at hf
  show Go K 6 a M 0 [(0, .ref (a.2 67)), (1, .int p1), (2, .int p2)] []
  refine g_iload_n 1 S dX6_turnsOf_0 rfl ?_
  refine g_iload_n 2 S dX6_turnsOf_1 rfl ?_
  refine g_iconst (v := 1) S dX6_turnsOf_2 rfl ?_
  obtain ⟨r1, hr1, hf⟩ := bd1_some hf
  refine g_cSI (st := []) S ok_X6_codeOf lk_X6_32 (c_X6_codeOf hr1) rfl rfl ⟨by decide, by decide⟩ (rmD_z _) (Nat.le_of_ble_eq_true rfl) dX6_turnsOf_3 ?_
  refine g_istore_n (lv' := [(3, .int r1), (0, .ref (a.2 67)), (1, .int p1), (2, .int p2)]) S dX6_turnsOf_6 (by decide) rfl ?_
  refine g_iconst (v := 0) S dX6_turnsOf_7 rfl ?_
  refine g_istore (lv' := [(4, .int 0), (3, .int r1), (0, .ref (a.2 67)), (1, .int p1), (2, .int p2)]) S dX6_turnsOf_8 (by decide) rfl ?_
  refine g_iconst (v := 0) S dX6_turnsOf_10 rfl ?_
  refine g_istore (lv' := [(5, .int 0), (4, .int 0), (3, .int r1), (0, .ref (a.2 67)), (1, .int p1), (2, .int p2)]) S dX6_turnsOf_11 (by decide) rfl ?_
  refine Go.sub [3, 2, 1, 0] rfl ?_
  exact t_X6_turnsOf_13  S rt 1000 _ _ _ hf
-- BridleBook$TurnRow.undoneFor(I)I
theorem dX6_undoneFor_0 : decode cX6_undoneFor 0 = .ok (.iconst 0, 1) := by decide +kernel
theorem dX6_undoneFor_1 : decode cX6_undoneFor 1 = .ok (.istore_n 2, 1) := by decide +kernel
theorem dX6_undoneFor_2 : decode cX6_undoneFor 2 = .ok (.iload_n 2, 1) := by decide +kernel
theorem dX6_undoneFor_3 : decode cX6_undoneFor 3 = .ok (.aload_n 0, 1) := by decide +kernel
theorem dX6_undoneFor_4 : decode cX6_undoneFor 4 = .ok (.getfield 15, 3) := by decide +kernel
theorem dX6_undoneFor_7 : decode cX6_undoneFor 7 = .ok (.if_icmp .ge 29, 3) := by decide +kernel
theorem dX6_undoneFor_10 : decode cX6_undoneFor 10 = .ok (.aload_n 0, 1) := by decide +kernel
theorem dX6_undoneFor_11 : decode cX6_undoneFor 11 = .ok (.getfield 9, 3) := by decide +kernel
theorem dX6_undoneFor_14 : decode cX6_undoneFor 14 = .ok (.iload_n 2, 1) := by decide +kernel
theorem dX6_undoneFor_15 : decode cX6_undoneFor 15 = .ok (.iaload, 1) := by decide +kernel
theorem dX6_undoneFor_16 : decode cX6_undoneFor 16 = .ok (.iload_n 1, 1) := by decide +kernel
theorem dX6_undoneFor_17 : decode cX6_undoneFor 17 = .ok (.invokestatic 36, 3) := by decide +kernel
theorem dX6_undoneFor_20 : decode cX6_undoneFor 20 = .ok (.ifCond .eq 10, 3) := by decide +kernel
theorem dX6_undoneFor_23 : decode cX6_undoneFor 23 = .ok (.aload_n 0, 1) := by decide +kernel
theorem dX6_undoneFor_24 : decode cX6_undoneFor 24 = .ok (.getfield 15, 3) := by decide +kernel
theorem dX6_undoneFor_27 : decode cX6_undoneFor 27 = .ok (.iload_n 2, 1) := by decide +kernel
theorem dX6_undoneFor_28 : decode cX6_undoneFor 28 = .ok (.isub, 1) := by decide +kernel
theorem dX6_undoneFor_29 : decode cX6_undoneFor 29 = .ok (.ireturn, 1) := by decide +kernel
theorem dX6_undoneFor_30 : decode cX6_undoneFor 30 = .ok (.iinc 2 1, 3) := by decide +kernel
theorem dX6_undoneFor_33 : decode cX6_undoneFor 33 = .ok (.goto (-31), 3) := by decide +kernel
theorem dX6_undoneFor_36 : decode cX6_undoneFor 36 = .ok (.iconst 0, 1) := by decide +kernel
theorem dX6_undoneFor_37 : decode cX6_undoneFor 37 = .ok (.ireturn, 1) := by decide +kernel
def f_X6_undoneFor_2 (z : Nat → Nat) (M : Mem) : Nat → Int32 → Int32 → Option Int32
  | 0, _, _ => none
  | fu + 1, x1, x2 => if (M 67 1) ≤ x2 then some 0 else ck (inb x2 200) (bd1 (f_X6_isOfLine z M (M 74 (Int32.toNatClampNeg x2)) x1) (fun r1 => if r1 = true then some ((M 67 1) - x2) else f_X6_undoneFor_2 z M fu x1 (x2 + 1)))
theorem t_X6_undoneFor_2 {K : KK} {a : AA} (S : Sx K RX6 cX6_undoneFor 3 (rmD 2)) {r : Int32} {M : Mem} (rt : RtI K a cX6_undoneFor r M) : ∀ (fu : Nat) (x1 : Int32) (x2 : Int32), f_X6_undoneFor_2 a.1 M fu x1 x2 = some r → Go K 3 a M 2 [(0, .ref (a.2 67)), (1, .int x1), (2, .int x2)] [] := by
  intro fu
  induction fu with
  | zero => intro x1 x2 hf; exact absurd hf (by simp [f_X6_undoneFor_2])
  | succ fu ih =>
    intro x1 x2 hf
    rw [f_X6_undoneFor_2] at hf
    refine g_iload_n 2 S dX6_undoneFor_2 rfl ?_
    refine g_aload_n 0 S dX6_undoneFor_3 rfl ?_
    refine g_get (v := .int (M 67 1)) S ob_67 rfl gi_X6 (by decide) lf_X6_15 rfl dX6_undoneFor_4 ?_
    refine g_icmp_ge (tgt := 36) S dX6_undoneFor_7 (by decide) hf (fun c hf => ?_) (fun c hf => ?_)
    · refine g_iconst (v := 0) S dX6_undoneFor_36 rfl ?_
      exact g_iretP rt hf dX6_undoneFor_37
    · refine g_aload_n 0 S dX6_undoneFor_10 rfl ?_
      refine g_get (v := .ref (a.2 74)) S ob_67 rfl gi_X6 (by decide) lf_X6_9 rfl dX6_undoneFor_11 ?_
      refine g_iload_n 2 S dX6_undoneFor_14 rfl ?_
      refine g_iald S ia_74 dX6_undoneFor_15 hf (fun hf => ?_)
      refine g_iload_n 1 S dX6_undoneFor_16 rfl ?_
      obtain ⟨r1, hr1, hf⟩ := bd1_some hf
      refine g_cSI (st := []) S ok_X6_isOfLine lk_X6_36 (c_X6_isOfLine hr1) rfl rfl ⟨by decide, by decide⟩ (rmD_z _) (Nat.le_of_ble_eq_true rfl) dX6_undoneFor_17 ?_
      refine g_if_eqB (tgt := 30) S dX6_undoneFor_20 (by decide) hf (fun c hf => ?_) (fun c hf => ?_)
      · refine g_aload_n 0 S dX6_undoneFor_23 rfl ?_
        refine g_get (v := .int (M 67 1)) S ob_67 rfl gi_X6 (by decide) lf_X6_15 rfl dX6_undoneFor_24 ?_
        refine g_iload_n 2 S dX6_undoneFor_27 rfl ?_
        refine g_isub S dX6_undoneFor_28 ?_
        exact g_iretP rt hf dX6_undoneFor_29
      · refine g_iinc (v := (x2 + 1)) (lv' := [(2, .int (x2 + 1)), (0, .ref (a.2 67)), (1, .int x1)]) 2 S dX6_undoneFor_30 rfl rfl (by decide) rfl ?_
        refine g_goto (tgt := 2) S dX6_undoneFor_33 (by decide) ?_
        refine Go.sub [1, 2, 0] rfl ?_
        exact ih _ _ hf
def f_X6_undoneFor (z : Nat → Nat) (M : Mem) (p1 : Int32) : Option Int32 := f_X6_undoneFor_2 z M 1000 p1 0
theorem c_X6_undoneFor {l : Launch} {G : GG} {a : AA} {M : Mem} {p1 : Int32} {r : Int32} (hf : f_X6_undoneFor a.1 M p1 = some r) : CtI l G a yX6_undoneFor cX6_undoneFor 3 .int (rmD 2) [.ref (a.2 67), .int p1] M r M := by
  refine ct_I (by decide) rfl rfl (own := RX6) (Nat.le_of_ble_eq_true rfl) (fun K hl hg S rt => ?_)
  subst hl; subst hg
  unfold f_X6_undoneFor at hf
  show Go K 3 a M 0 [(0, .ref (a.2 67)), (1, .int p1)] []
  refine g_iconst (v := 0) S dX6_undoneFor_0 rfl ?_
  refine g_istore_n (lv' := [(2, .int 0), (0, .ref (a.2 67)), (1, .int p1)]) S dX6_undoneFor_1 (by decide) rfl ?_
  refine Go.sub [1, 2, 0] rfl ?_
  exact t_X6_undoneFor_2  S rt 1000 _ _ hf
-- BridleBook$TurnRow.dropLine(I)V
theorem dX6_dropLine_0 : decode cX6_dropLine 0 = .ok (.aload_n 0, 1) := by decide +kernel
theorem dX6_dropLine_1 : decode cX6_dropLine 1 = .ok (.getfield 15, 3) := by decide +kernel
theorem dX6_dropLine_4 : decode cX6_dropLine 4 = .ok (.istore_n 2, 1) := by decide +kernel
theorem dX6_dropLine_5 : decode cX6_dropLine 5 = .ok (.aload_n 0, 1) := by decide +kernel
theorem dX6_dropLine_6 : decode cX6_dropLine 6 = .ok (.iconst 0, 1) := by decide +kernel
theorem dX6_dropLine_7 : decode cX6_dropLine 7 = .ok (.putfield 15, 3) := by decide +kernel
theorem dX6_dropLine_10 : decode cX6_dropLine 10 = .ok (.iconst 0, 1) := by decide +kernel
theorem dX6_dropLine_11 : decode cX6_dropLine 11 = .ok (.istore_n 3, 1) := by decide +kernel
theorem dX6_dropLine_12 : decode cX6_dropLine 12 = .ok (.iload_n 3, 1) := by decide +kernel
theorem dX6_dropLine_13 : decode cX6_dropLine 13 = .ok (.iload_n 2, 1) := by decide +kernel
theorem dX6_dropLine_14 : decode cX6_dropLine 14 = .ok (.if_icmp .ge 33, 3) := by decide +kernel
theorem dX6_dropLine_17 : decode cX6_dropLine 17 = .ok (.aload_n 0, 1) := by decide +kernel
theorem dX6_dropLine_18 : decode cX6_dropLine 18 = .ok (.getfield 9, 3) := by decide +kernel
theorem dX6_dropLine_21 : decode cX6_dropLine 21 = .ok (.iload_n 3, 1) := by decide +kernel
theorem dX6_dropLine_22 : decode cX6_dropLine 22 = .ok (.iaload, 1) := by decide +kernel
theorem dX6_dropLine_23 : decode cX6_dropLine 23 = .ok (.istore 4, 2) := by decide +kernel
theorem dX6_dropLine_25 : decode cX6_dropLine 25 = .ok (.iload 4, 2) := by decide +kernel
theorem dX6_dropLine_27 : decode cX6_dropLine 27 = .ok (.iload_n 1, 1) := by decide +kernel
theorem dX6_dropLine_28 : decode cX6_dropLine 28 = .ok (.invokestatic 36, 3) := by decide +kernel
theorem dX6_dropLine_31 : decode cX6_dropLine 31 = .ok (.ifCond .ne 10, 3) := by decide +kernel
theorem dX6_dropLine_34 : decode cX6_dropLine 34 = .ok (.aload_n 0, 1) := by decide +kernel
theorem dX6_dropLine_35 : decode cX6_dropLine 35 = .ok (.iload 4, 2) := by decide +kernel
theorem dX6_dropLine_37 : decode cX6_dropLine 37 = .ok (.invokevirtual 40, 3) := by decide +kernel
theorem dX6_dropLine_40 : decode cX6_dropLine 40 = .ok (.pop, 1) := by decide +kernel
theorem dX6_dropLine_41 : decode cX6_dropLine 41 = .ok (.iinc 3 1, 3) := by decide +kernel
theorem dX6_dropLine_44 : decode cX6_dropLine 44 = .ok (.goto (-32), 3) := by decide +kernel
theorem dX6_dropLine_47 : decode cX6_dropLine 47 = .ok (.return_, 1) := by decide +kernel
def f_X6_dropLine_12 (z : Nat → Nat) : Nat → Mem → Int32 → Int32 → Int32 → Option Mem
  | 0, _, _, _, _ => none
  | fu + 1, M, x1, x2, x3 => if x2 ≤ x3 then some M else ck (inb x3 200) (bd1 (f_X6_isOfLine z M (M 74 (Int32.toNatClampNeg x3)) x1) (fun r1 => if r1 = true then f_X6_dropLine_12 z fu M x1 x2 (x3 + 1) else bd2 (f_X6_push z M (M 74 (Int32.toNatClampNeg x3))) (fun r2 M3 => f_X6_dropLine_12 z fu M3 x1 x2 (x3 + 1))))
theorem t_X6_dropLine_12 {K : KK} {a : AA} (S : Sx K RX6 cX6_dropLine 5 (rmD 2))  {M' : Mem} (rt : RtV K a cX6_dropLine M') : ∀ (fu : Nat) (M : Mem) (x1 : Int32) (x2 : Int32) (x3 : Int32), f_X6_dropLine_12 a.1 fu M x1 x2 x3 = some M' → Go K 5 a M 12 [(0, .ref (a.2 67)), (1, .int x1), (2, .int x2), (3, .int x3)] [] := by
  intro fu
  induction fu with
  | zero => intro M x1 x2 x3 hf; exact absurd hf (by simp [f_X6_dropLine_12])
  | succ fu ih =>
    intro M x1 x2 x3 hf
    rw [f_X6_dropLine_12] at hf
    refine g_iload_n 3 S dX6_dropLine_12 rfl ?_
    refine g_iload_n 2 S dX6_dropLine_13 rfl ?_
    refine g_icmp_ge (tgt := 47) S dX6_dropLine_14 (by decide) hf (fun c hf => ?_) (fun c hf => ?_)
    · exact g_vretM rt hf dX6_dropLine_47
    · refine g_aload_n 0 S dX6_dropLine_17 rfl ?_
      refine g_get (v := .ref (a.2 74)) S ob_67 rfl gi_X6 (by decide) lf_X6_9 rfl dX6_dropLine_18 ?_
      refine g_iload_n 3 S dX6_dropLine_21 rfl ?_
      refine g_iald S ia_74 dX6_dropLine_22 hf (fun hf => ?_)
      refine g_istore (lv' := [(4, .int (M 74 (Int32.toNatClampNeg x3))), (0, .ref (a.2 67)), (1, .int x1), (2, .int x2), (3, .int x3)]) S dX6_dropLine_23 (by decide) rfl ?_
      refine g_iload 0 S dX6_dropLine_25 rfl ?_
      refine g_iload_n 2 S dX6_dropLine_27 rfl ?_
      obtain ⟨r1, hr1, hf⟩ := bd1_some hf
      refine g_cSI (st := []) S ok_X6_isOfLine lk_X6_36 (c_X6_isOfLine hr1) rfl rfl ⟨by decide, by decide⟩ (rmD_z _) (Nat.le_of_ble_eq_true rfl) dX6_dropLine_28 ?_
      refine g_if_neB (tgt := 41) S dX6_dropLine_31 (by decide) hf (fun c hf => ?_) (fun c hf => ?_)
      · refine g_iinc (v := (x3 + 1)) (lv' := [(3, .int (x3 + 1)), (4, .int (M 74 (Int32.toNatClampNeg x3))), (0, .ref (a.2 67)), (1, .int x1), (2, .int x2)]) 4 S dX6_dropLine_41 rfl rfl (by decide) rfl ?_
        refine g_goto (tgt := 12) S dX6_dropLine_44 (by decide) ?_
        refine Go.sub [2, 3, 4, 0] rfl ?_
        exact ih _ _ _ _ hf
      · refine g_aload_n 1 S dX6_dropLine_34 rfl ?_
        refine g_iload 0 S dX6_dropLine_35 rfl ?_
        obtain ⟨r2, M3, hr2, hf⟩ := bd2_some hf
        refine g_cVI (st := []) S ob_67 rfl ok_X6_push lk_X6_40 (c_X6_push hr2) rfl rfl ⟨by decide, by decide⟩ (rmD_z _) (Nat.le_of_ble_eq_true rfl) dX6_dropLine_37 ?_
        refine g_pop S dX6_dropLine_40 rfl ?_
        refine g_iinc (v := (x3 + 1)) (lv' := [(3, .int (x3 + 1)), (4, .int (M 74 (Int32.toNatClampNeg x3))), (0, .ref (a.2 67)), (1, .int x1), (2, .int x2)]) 4 S dX6_dropLine_41 rfl rfl (by decide) rfl ?_
        refine g_goto (tgt := 12) S dX6_dropLine_44 (by decide) ?_
        refine Go.sub [2, 3, 4, 0] rfl ?_
        exact ih _ _ _ _ hf
def f_X6_dropLine (z : Nat → Nat) (M : Mem) (p1 : Int32) : Option Mem := f_X6_dropLine_12 z 1000 (mu M 67 1 0) p1 (M 67 1) 0
theorem c_X6_dropLine {l : Launch} {G : GG} {a : AA} {M : Mem} {p1 : Int32}  {M' : Mem} (hf : f_X6_dropLine a.1 M p1 = some M') : CtV l G a yX6_dropLine cX6_dropLine 5 (rmD 2) [.ref (a.2 67), .int p1] M M' := by
  refine ct_V (by decide) rfl (own := RX6) (Nat.le_of_ble_eq_true rfl) (fun K hl hg S rt => ?_)
  subst hl; subst hg
  unfold f_X6_dropLine at hf
  show Go K 5 a M 0 [(0, .ref (a.2 67)), (1, .int p1)] []
  refine g_aload_n 0 S dX6_dropLine_0 rfl ?_
  refine g_get (v := .int (M 67 1)) S ob_67 rfl gi_X6 (by decide) lf_X6_15 rfl dX6_dropLine_1 ?_
  refine g_istore_n (lv' := [(2, .int (M 67 1)), (0, .ref (a.2 67)), (1, .int p1)]) S dX6_dropLine_4 (by decide) rfl ?_
  refine g_aload_n 1 S dX6_dropLine_5 rfl ?_
  refine g_iconst (v := 0) S dX6_dropLine_6 rfl ?_
  refine g_put (ty := .int) S ob_67 rfl gi_X6 tyX6_ok nmX6 (by decide) lf_X6_15 rfl (by decide +kernel) rfl rfl (Nat.le_of_ble_eq_true rfl) rfl dX6_dropLine_7 ?_
  refine g_iconst (v := 0) S dX6_dropLine_10 rfl ?_
  refine g_istore_n (lv' := [(3, .int 0), (2, .int (M 67 1)), (0, .ref (a.2 67)), (1, .int p1)]) S dX6_dropLine_11 (by decide) rfl ?_
  refine Go.sub [2, 3, 1, 0] rfl ?_
  exact t_X6_dropLine_12  S rt 1000 _ _ _ _ hf
-- BridleBook.kiteAt(I)LBridleBook$Kite;
theorem dX7_kiteAt_0 : decode cX7_kiteAt 0 = .ok (.iload_n 1, 1) := by decide +kernel
theorem dX7_kiteAt_1 : decode cX7_kiteAt 1 = .ok (.iconst 0, 1) := by decide +kernel
theorem dX7_kiteAt_2 : decode cX7_kiteAt 2 = .ok (.aload_n 0, 1) := by decide +kernel
theorem dX7_kiteAt_3 : decode cX7_kiteAt 3 = .ok (.getfield 22, 3) := by decide +kernel
theorem dX7_kiteAt_6 : decode cX7_kiteAt 6 = .ok (.iconst 1, 1) := by decide +kernel
theorem dX7_kiteAt_7 : decode cX7_kiteAt 7 = .ok (.isub, 1) := by decide +kernel
theorem dX7_kiteAt_8 : decode cX7_kiteAt 8 = .ok (.invokestatic 99, 3) := by decide +kernel
theorem dX7_kiteAt_11 : decode cX7_kiteAt 11 = .ok (.ifCond .eq 12, 3) := by decide +kernel
theorem dX7_kiteAt_14 : decode cX7_kiteAt 14 = .ok (.aload_n 0, 1) := by decide +kernel
theorem dX7_kiteAt_15 : decode cX7_kiteAt 15 = .ok (.getfield 18, 3) := by decide +kernel
theorem dX7_kiteAt_18 : decode cX7_kiteAt 18 = .ok (.iload_n 1, 1) := by decide +kernel
theorem dX7_kiteAt_19 : decode cX7_kiteAt 19 = .ok (.aaload, 1) := by decide +kernel
theorem dX7_kiteAt_20 : decode cX7_kiteAt 20 = .ok (.goto 4, 3) := by decide +kernel
theorem dX7_kiteAt_23 : decode cX7_kiteAt 23 = .ok (.aconst_null, 1) := by decide +kernel
theorem dX7_kiteAt_24 : decode cX7_kiteAt 24 = .ok (.areturn, 1) := by decide +kernel
def f_X7_kiteAt (z : Nat → Nat) (M : Mem) (p1 : Int32) : Option (Option Nat) := bd1 (f_X7_within z M p1 0 ((M 50 2) - 1)) (fun r1 => if r1 = true then ck (inb p1 20) (if (Int32.toNatClampNeg p1) < z 0 then some (some (100 + 4 * (Int32.toNatClampNeg p1))) else some none) else some none)
theorem c_X7_kiteAt {l : Launch} {G : GG} {a : AA} {M : Mem} {p1 : Int32} {r : Option Nat} (hf : f_X7_kiteAt a.1 M p1 = some r) : CtQ l G a yX7_kiteAt cX7_kiteAt 2 "BridleBook$Kite" (rmD 1) [.ref (a.2 50), .int p1] M r M := by
  refine ct_Q (by decide) rfl (own := RX7) (Nat.le_of_ble_eq_true rfl) (fun K hl hg S rt => ?_)
  subst hl; subst hg
  unfold f_X7_kiteAt at hf
  show Go K 2 a M 0 [(0, .ref (a.2 50)), (1, .int p1)] []
  refine g_iload_n 1 S dX7_kiteAt_0 rfl ?_
  refine g_iconst (v := 0) S dX7_kiteAt_1 rfl ?_
  refine g_aload_n 0 S dX7_kiteAt_2 rfl ?_
  refine g_get (v := .int (M 50 2)) S ob_50 rfl gi_X7 (by decide) lf_X7_22 rfl dX7_kiteAt_3 ?_
  refine g_iconst (v := 1) S dX7_kiteAt_6 rfl ?_
  refine g_isub S dX7_kiteAt_7 ?_
  obtain ⟨r1, hr1, hf⟩ := bd1_some hf
  refine g_cSI (st := []) S ok_X7_within lk_X7_99 (c_X7_within hr1) rfl rfl ⟨by decide, by decide⟩ (rmD_z _) (Nat.le_of_ble_eq_true rfl) dX7_kiteAt_8 ?_
  refine g_if_eqB (tgt := 23) S dX7_kiteAt_11 (by decide) hf (fun c hf => ?_) (fun c hf => ?_)
  · refine g_aload_n 0 S dX7_kiteAt_14 rfl ?_
    refine g_get (v := .ref (a.2 52)) S ob_50 rfl gi_X7 (by decide) lf_X7_18 rfl dX7_kiteAt_15 ?_
    refine g_iload_n 1 S dX7_kiteAt_18 rfl ?_
    refine g_aald (t0 := 2) (base := 100) (step := 4) (cnt := a.1 0) S (in_fix (by decide)) rfl rfl dX7_kiteAt_19 hf (fun c hf => ?_) (fun c hf => ?_)
    · refine g_goto (tgt := 24) S dX7_kiteAt_20 (by decide) ?_
      exact g_aretS rt hf dX7_kiteAt_24
    · refine g_goto (tgt := 24) S dX7_kiteAt_20 (by decide) ?_
      exact g_aretN rt hf dX7_kiteAt_24
  · refine g_null S dX7_kiteAt_23 ?_
    exact g_aretN rt hf dX7_kiteAt_24
theorem vd_X7_kiteAt {z : Nat → Nat} {M : Mem} {p1 : Int32} {n : Nat} (h : f_X7_kiteAt z M p1 = some (some n)) : vK z n := by
  unfold f_X7_kiteAt at h
  obtain ⟨r, -, h⟩ := bd1_some h
  refine sp_if h (fun _ h => ?_) (fun _ h => ?_)
  · obtain ⟨h2, h⟩ := ck_some h
    refine sp_if h (fun c h => ?_) (fun _ h => ?_)
    · cases h
      exact ⟨p1.toNatClampNeg, c, by have := in_lt h2; omega, rfl⟩
    · cases h
  · cases h
-- BridleBook.isArm(I)Z
theorem dX7_isArm_0 : decode cX7_isArm 0 = .ok (.iload_n 0, 1) := by decide +kernel
theorem dX7_isArm_1 : decode cX7_isArm 1 = .ok (.bipush (-99), 2) := by decide +kernel
theorem dX7_isArm_3 : decode cX7_isArm 3 = .ok (.bipush 99, 2) := by decide +kernel
theorem dX7_isArm_5 : decode cX7_isArm 5 = .ok (.invokestatic 99, 3) := by decide +kernel
theorem dX7_isArm_8 : decode cX7_isArm 8 = .ok (.ireturn, 1) := by decide +kernel
def f_X7_isArm (z : Nat → Nat) (M : Mem) (p1 : Int32) : Option Bool := bd1 (f_X7_within z M p1 (-99) 99) (fun r1 => some r1)
theorem c_X7_isArm {l : Launch} {G : GG} {a : AA} {M : Mem} {p1 : Int32} {r : Bool} (hf : f_X7_isArm a.1 M p1 = some r) : CtI l G a yX7_isArm cX7_isArm 1 .boolean (rmD 1) [.int p1] M (b2i r) M := by
  refine ct_I (by decide) rfl (b2i_n _) (own := RX7) (Nat.le_of_ble_eq_true rfl) (fun K hl hg S rt => ?_)
  subst hl; subst hg
  unfold f_X7_isArm at hf
  show Go K 1 a M 0 [(0, .int p1)] []
  refine g_iload_n 0 S dX7_isArm_0 rfl ?_
  refine g_bipush (v := (-99)) S dX7_isArm_1 rfl ?_
  refine g_bipush (v := 99) S dX7_isArm_3 rfl ?_
  obtain ⟨r1, hr1, hf⟩ := bd1_some hf
  refine g_cSI (st := []) S ok_X7_within lk_X7_99 (c_X7_within hr1) rfl rfl ⟨by decide, by decide⟩ (rmD_z _) (Nat.le_of_ble_eq_true rfl) dX7_isArm_5 ?_
  exact g_zretP rt hf dX7_isArm_8 rfl
-- BridleBook.panel(IIII)I
theorem dX7_panel_0 : decode cX7_panel 0 = .ok (.aload_n 0, 1) := by decide +kernel
theorem dX7_panel_1 : decode cX7_panel 1 = .ok (.iload_n 1, 1) := by decide +kernel
theorem dX7_panel_2 : decode cX7_panel 2 = .ok (.invokevirtual 95, 3) := by decide +kernel
theorem dX7_panel_5 : decode cX7_panel 5 = .ok (.astore 5, 2) := by decide +kernel
theorem dX7_panel_7 : decode cX7_panel 7 = .ok (.aload 5, 2) := by decide +kernel
theorem dX7_panel_9 : decode cX7_panel 9 = .ok (.ifnull 31, 3) := by decide +kernel
theorem dX7_panel_12 : decode cX7_panel 12 = .ok (.iload_n 2, 1) := by decide +kernel
theorem dX7_panel_13 : decode cX7_panel 13 = .ok (.iconst 1, 1) := by decide +kernel
theorem dX7_panel_14 : decode cX7_panel 14 = .ok (.bipush 99, 2) := by decide +kernel
theorem dX7_panel_16 : decode cX7_panel 16 = .ok (.invokestatic 99, 3) := by decide +kernel
theorem dX7_panel_19 : decode cX7_panel 19 = .ok (.ifCond .eq 21, 3) := by decide +kernel
theorem dX7_panel_22 : decode cX7_panel 22 = .ok (.iload_n 3, 1) := by decide +kernel
theorem dX7_panel_23 : decode cX7_panel 23 = .ok (.invokestatic 103, 3) := by decide +kernel
theorem dX7_panel_26 : decode cX7_panel 26 = .ok (.ifCond .eq 14, 3) := by decide +kernel
theorem dX7_panel_29 : decode cX7_panel 29 = .ok (.iload 4, 2) := by decide +kernel
theorem dX7_panel_31 : decode cX7_panel 31 = .ok (.iconst 0, 1) := by decide +kernel
theorem dX7_panel_32 : decode cX7_panel 32 = .ok (.bipush 99, 2) := by decide +kernel
theorem dX7_panel_34 : decode cX7_panel 34 = .ok (.invokestatic 99, 3) := by decide +kernel
theorem dX7_panel_37 : decode cX7_panel 37 = .ok (.ifCond .ne 5, 3) := by decide +kernel
theorem dX7_panel_40 : decode cX7_panel 40 = .ok (.iconst (-1), 1) := by decide +kernel
theorem dX7_panel_41 : decode cX7_panel 41 = .ok (.ireturn, 1) := by decide +kernel
theorem dX7_panel_42 : decode cX7_panel 42 = .ok (.aload 5, 2) := by decide +kernel
theorem dX7_panel_44 : decode cX7_panel 44 = .ok (.iload_n 2, 1) := by decide +kernel
theorem dX7_panel_45 : decode cX7_panel 45 = .ok (.iload_n 3, 1) := by decide +kernel
theorem dX7_panel_46 : decode cX7_panel 46 = .ok (.iload 4, 2) := by decide +kernel
theorem dX7_panel_48 : decode cX7_panel 48 = .ok (.invokevirtual 107, 3) := by decide +kernel
theorem dX7_panel_51 : decode cX7_panel 51 = .ok (.ireturn, 1) := by decide +kernel
def f_X7_panel (z : Nat → Nat) (M : Mem) (p1 : Int32) (p2 : Int32) (p3 : Int32) (p4 : Int32) : Option (Int32 × Mem) := bd1 (f_X7_kiteAt z M p1) (fun r1 => mq r1 (some ((-1), M)) (fun n2 => bd1 (f_X7_within z M p2 1 99) (fun r3 => if r3 = true then bd1 (f_X7_isArm z M p3) (fun r4 => if r4 = true then bd1 (f_X7_within z M p4 0 99) (fun r5 => if r5 = true then bd2 (f_X2_addPanel z n2 M p2 p3 p4) (fun r6 M7 => some (r6, M7)) else some ((-1), M)) else some ((-1), M)) else some ((-1), M))))
theorem c_X7_panel {l : Launch} {G : GG} {a : AA} {M : Mem} {p1 : Int32} {p2 : Int32} {p3 : Int32} {p4 : Int32} {r : Int32} {M' : Mem} (hf : f_X7_panel a.1 M p1 p2 p3 p4 = some (r, M')) : CtI l G a yX7_panel cX7_panel 6 .int (rmD 2) [.ref (a.2 50), .int p1, .int p2, .int p3, .int p4] M r M' := by
  refine ct_I (by decide) rfl rfl (own := RX7) (Nat.le_of_ble_eq_true rfl) (fun K hl hg S rt => ?_)
  subst hl; subst hg
  unfold f_X7_panel at hf
  show Go K 6 a M 0 [(0, .ref (a.2 50)), (1, .int p1), (2, .int p2), (3, .int p3), (4, .int p4)] []
  refine g_aload_n 0 S dX7_panel_0 rfl ?_
  refine g_iload_n 1 S dX7_panel_1 rfl ?_
  obtain ⟨r1, hr1, hf⟩ := bd1_some hf
  refine g_cVQ (st := []) S ob_50 rfl ok_X7_kiteAt lk_X7_95 (c_X7_kiteAt hr1) rfl rfl ⟨by decide, by decide⟩ (rmD_z _) (Nat.le_of_ble_eq_true rfl) dX7_panel_2 ?_
  rcases r1 with _ | n2
  · have hf := mq_n hf
    refine Go.st (st' := [.null]) rfl ?_
    refine g_astoreN (lv' := [(5, .null), (0, .ref (a.2 50)), (1, .int p1), (2, .int p2), (3, .int p3), (4, .int p4)]) S dX7_panel_5 (by decide) rfl ?_
    refine g_aloadN 0 S dX7_panel_7 rfl ?_
    refine g_ifnullN (tgt := 40) S dX7_panel_9 (by decide) ?_
    refine g_iconst (v := (-1)) S dX7_panel_40 rfl ?_
    exact g_iretM rt hf dX7_panel_41
  · have hn2 := vd_X7_kiteAt hr1
    have hf := mq_s hf
    refine Go.st (st' := [.ref (a.2 n2)]) rfl ?_
    refine g_astore (lv' := [(5, .ref (a.2 n2)), (0, .ref (a.2 50)), (1, .int p1), (2, .int p2), (3, .int p3), (4, .int p4)]) S dX7_panel_5 (by decide) rfl ?_
    refine g_aload 0 S dX7_panel_7 rfl ?_
    refine g_ifnull S dX7_panel_9 ?_
    refine g_iload_n 3 S dX7_panel_12 rfl ?_
    refine g_iconst (v := 1) S dX7_panel_13 rfl ?_
    refine g_bipush (v := 99) S dX7_panel_14 rfl ?_
    obtain ⟨r3, hr3, hf⟩ := bd1_some hf
    refine g_cSI (st := []) S ok_X7_within lk_X7_99 (c_X7_within hr3) rfl rfl ⟨by decide, by decide⟩ (rmD_z _) (Nat.le_of_ble_eq_true rfl) dX7_panel_16 ?_
    refine g_if_eqB (tgt := 40) S dX7_panel_19 (by decide) hf (fun c hf => ?_) (fun c hf => ?_)
    · refine g_iload_n 4 S dX7_panel_22 rfl ?_
      obtain ⟨r4, hr4, hf⟩ := bd1_some hf
      refine g_cSI (st := []) S ok_X7_isArm lk_X7_103 (c_X7_isArm hr4) rfl rfl ⟨by decide, by decide⟩ (rmD_z _) (Nat.le_of_ble_eq_true rfl) dX7_panel_23 ?_
      refine g_if_eqB (tgt := 40) S dX7_panel_26 (by decide) hf (fun c hf => ?_) (fun c hf => ?_)
      · refine g_iload 5 S dX7_panel_29 rfl ?_
        refine g_iconst (v := 0) S dX7_panel_31 rfl ?_
        refine g_bipush (v := 99) S dX7_panel_32 rfl ?_
        obtain ⟨r5, hr5, hf⟩ := bd1_some hf
        refine g_cSI (st := []) S ok_X7_within lk_X7_99 (c_X7_within hr5) rfl rfl ⟨by decide, by decide⟩ (rmD_z _) (Nat.le_of_ble_eq_true rfl) dX7_panel_34 ?_
        refine g_if_neB (tgt := 42) S dX7_panel_37 (by decide) hf (fun c hf => ?_) (fun c hf => ?_)
        · refine g_aload 0 S dX7_panel_42 rfl ?_
          refine g_iload_n 3 S dX7_panel_44 rfl ?_
          refine g_iload_n 4 S dX7_panel_45 rfl ?_
          refine g_iload 5 S dX7_panel_46 rfl ?_
          obtain ⟨r6, M7, hr6, hf⟩ := bd2_some hf
          refine g_cVI (st := []) S (ob_K hn2) rfl ok_X2_addPanel lk_X7_107 (c_X2_addPanel hn2 hr6) rfl rfl ⟨by decide, by decide⟩ (rmD_z _) (Nat.le_of_ble_eq_true rfl) dX7_panel_48 ?_
          exact g_iretM rt hf dX7_panel_51
        · refine g_iconst (v := (-1)) S dX7_panel_40 rfl ?_
          exact g_iretM rt hf dX7_panel_41
      · refine g_iconst (v := (-1)) S dX7_panel_40 rfl ?_
        exact g_iretM rt hf dX7_panel_41
    · refine g_iconst (v := (-1)) S dX7_panel_40 rfl ?_
      exact g_iretM rt hf dX7_panel_41
-- BridleBook.knot(II)I
theorem dX7_knot_0 : decode cX7_knot 0 = .ok (.aload_n 0, 1) := by decide +kernel
theorem dX7_knot_1 : decode cX7_knot 1 = .ok (.iload_n 1, 1) := by decide +kernel
theorem dX7_knot_2 : decode cX7_knot 2 = .ok (.invokevirtual 95, 3) := by decide +kernel
theorem dX7_knot_5 : decode cX7_knot 5 = .ok (.astore_n 3, 1) := by decide +kernel
theorem dX7_knot_6 : decode cX7_knot 6 = .ok (.aload_n 3, 1) := by decide +kernel
theorem dX7_knot_7 : decode cX7_knot 7 = .ok (.ifnull 10, 3) := by decide +kernel
theorem dX7_knot_10 : decode cX7_knot 10 = .ok (.iload_n 2, 1) := by decide +kernel
theorem dX7_knot_11 : decode cX7_knot 11 = .ok (.invokestatic 103, 3) := by decide +kernel
theorem dX7_knot_14 : decode cX7_knot 14 = .ok (.ifCond .ne 6, 3) := by decide +kernel
theorem dX7_knot_17 : decode cX7_knot 17 = .ok (.ldc 111, 2) := by decide +kernel
theorem dX7_knot_19 : decode cX7_knot 19 = .ok (.ireturn, 1) := by decide +kernel
theorem dX7_knot_20 : decode cX7_knot 20 = .ok (.aload_n 3, 1) := by decide +kernel
theorem dX7_knot_21 : decode cX7_knot 21 = .ok (.getfield 112, 3) := by decide +kernel
theorem dX7_knot_24 : decode cX7_knot 24 = .ok (.istore 4, 2) := by decide +kernel
theorem dX7_knot_26 : decode cX7_knot 26 = .ok (.aload_n 3, 1) := by decide +kernel
theorem dX7_knot_27 : decode cX7_knot 27 = .ok (.iload_n 2, 1) := by decide +kernel
theorem dX7_knot_28 : decode cX7_knot 28 = .ok (.putfield 112, 3) := by decide +kernel
theorem dX7_knot_31 : decode cX7_knot 31 = .ok (.iload 4, 2) := by decide +kernel
theorem dX7_knot_33 : decode cX7_knot 33 = .ok (.ireturn, 1) := by decide +kernel
def f_X7_knot (z : Nat → Nat) (M : Mem) (p1 : Int32) (p2 : Int32) : Option (Int32 × Mem) := bd1 (f_X7_kiteAt z M p1) (fun r1 => mq r1 (some ((-2000000000), M)) (fun n2 => bd1 (f_X7_isArm z M p2) (fun r3 => if r3 = true then some ((M n2 4), (mu M n2 4 p2)) else some ((-2000000000), M))))
theorem c_X7_knot {l : Launch} {G : GG} {a : AA} {M : Mem} {p1 : Int32} {p2 : Int32} {r : Int32} {M' : Mem} (hf : f_X7_knot a.1 M p1 p2 = some (r, M')) : CtI l G a yX7_knot cX7_knot 5 .int (rmD 2) [.ref (a.2 50), .int p1, .int p2] M r M' := by
  refine ct_I (by decide) rfl rfl (own := RX7) (Nat.le_of_ble_eq_true rfl) (fun K hl hg S rt => ?_)
  subst hl; subst hg
  unfold f_X7_knot at hf
  show Go K 5 a M 0 [(0, .ref (a.2 50)), (1, .int p1), (2, .int p2)] []
  refine g_aload_n 0 S dX7_knot_0 rfl ?_
  refine g_iload_n 1 S dX7_knot_1 rfl ?_
  obtain ⟨r1, hr1, hf⟩ := bd1_some hf
  refine g_cVQ (st := []) S ob_50 rfl ok_X7_kiteAt lk_X7_95 (c_X7_kiteAt hr1) rfl rfl ⟨by decide, by decide⟩ (rmD_z _) (Nat.le_of_ble_eq_true rfl) dX7_knot_2 ?_
  rcases r1 with _ | n2
  · have hf := mq_n hf
    refine Go.st (st' := [.null]) rfl ?_
    refine g_astore_nN (lv' := [(3, .null), (0, .ref (a.2 50)), (1, .int p1), (2, .int p2)]) S dX7_knot_5 (by decide) rfl ?_
    refine g_aload_nN 0 S dX7_knot_6 rfl ?_
    refine g_ifnullN (tgt := 17) S dX7_knot_7 (by decide) ?_
    refine g_ldc S lc_X7_111 dX7_knot_17 ?_
    exact g_iretM rt hf dX7_knot_19
  · have hn2 := vd_X7_kiteAt hr1
    have hf := mq_s hf
    refine Go.st (st' := [.ref (a.2 n2)]) rfl ?_
    refine g_astore_n (lv' := [(3, .ref (a.2 n2)), (0, .ref (a.2 50)), (1, .int p1), (2, .int p2)]) S dX7_knot_5 (by decide) rfl ?_
    refine g_aload_n 0 S dX7_knot_6 rfl ?_
    refine g_ifnull S dX7_knot_7 ?_
    refine g_iload_n 3 S dX7_knot_10 rfl ?_
    obtain ⟨r3, hr3, hf⟩ := bd1_some hf
    refine g_cSI (st := []) S ok_X7_isArm lk_X7_103 (c_X7_isArm hr3) rfl rfl ⟨by decide, by decide⟩ (rmD_z _) (Nat.le_of_ble_eq_true rfl) dX7_knot_11 ?_
    refine g_if_neB (tgt := 20) S dX7_knot_14 (by decide) hf (fun c hf => ?_) (fun c hf => ?_)
    · refine g_aload_n 0 S dX7_knot_20 rfl ?_
      refine g_get (v := .int (M n2 4)) S (ob_K hn2) rfl gi_X2 (by decide) lf_X7_112 rfl dX7_knot_21 ?_
      refine g_istore (lv' := [(4, .int (M n2 4)), (3, .ref (a.2 n2)), (0, .ref (a.2 50)), (1, .int p1), (2, .int p2)]) S dX7_knot_24 (by decide) rfl ?_
      refine g_aload_n 1 S dX7_knot_26 rfl ?_
      refine g_iload_n 4 S dX7_knot_27 rfl ?_
      refine g_put (ty := .int) S (ob_K hn2) rfl gi_X2 tyX2_ok nmX2 (by decide) lf_X7_112 rfl (by decide +kernel) rfl rfl (Nat.le_of_ble_eq_true rfl) rfl dX7_knot_28 ?_
      refine g_iload 0 S dX7_knot_31 rfl ?_
      exact g_iretM rt hf dX7_knot_33
    · refine g_ldc S lc_X7_111 dX7_knot_17 ?_
      exact g_iretM rt hf dX7_knot_19
-- BridleBook.table(III)I
theorem dX7_table_0 : decode cX7_table 0 = .ok (.iload_n 1, 1) := by decide +kernel
theorem dX7_table_1 : decode cX7_table 1 = .ok (.invokestatic 115, 3) := by decide +kernel
theorem dX7_table_4 : decode cX7_table 4 = .ok (.ifCond .eq 12, 3) := by decide +kernel
theorem dX7_table_7 : decode cX7_table 7 = .ok (.iload_n 2, 1) := by decide +kernel
theorem dX7_table_8 : decode cX7_table 8 = .ok (.iconst 0, 1) := by decide +kernel
theorem dX7_table_9 : decode cX7_table 9 = .ok (.iconst 1, 1) := by decide +kernel
theorem dX7_table_10 : decode cX7_table 10 = .ok (.invokestatic 99, 3) := by decide +kernel
theorem dX7_table_13 : decode cX7_table 13 = .ok (.ifCond .ne 6, 3) := by decide +kernel
theorem dX7_table_16 : decode cX7_table 16 = .ok (.ldc 111, 2) := by decide +kernel
theorem dX7_table_18 : decode cX7_table 18 = .ok (.ireturn, 1) := by decide +kernel
theorem dX7_table_19 : decode cX7_table 19 = .ok (.iload_n 2, 1) := by decide +kernel
theorem dX7_table_20 : decode cX7_table 20 = .ok (.ifCond .ne 29, 3) := by decide +kernel
theorem dX7_table_23 : decode cX7_table 23 = .ok (.iload_n 3, 1) := by decide +kernel
theorem dX7_table_24 : decode cX7_table 24 = .ok (.bipush (-99), 2) := by decide +kernel
theorem dX7_table_26 : decode cX7_table 26 = .ok (.bipush 99, 2) := by decide +kernel
theorem dX7_table_28 : decode cX7_table 28 = .ok (.invokestatic 99, 3) := by decide +kernel
theorem dX7_table_31 : decode cX7_table 31 = .ok (.ifCond .eq 15, 3) := by decide +kernel
theorem dX7_table_34 : decode cX7_table 34 = .ok (.aload_n 0, 1) := by decide +kernel
theorem dX7_table_35 : decode cX7_table 35 = .ok (.getfield 10, 3) := by decide +kernel
theorem dX7_table_38 : decode cX7_table 38 = .ok (.iload_n 1, 1) := by decide +kernel
theorem dX7_table_39 : decode cX7_table 39 = .ok (.iload_n 3, 1) := by decide +kernel
theorem dX7_table_40 : decode cX7_table 40 = .ok (.invokevirtual 118, 3) := by decide +kernel
theorem dX7_table_43 : decode cX7_table 43 = .ok (.goto 5, 3) := by decide +kernel
theorem dX7_table_46 : decode cX7_table 46 = .ok (.ldc 111, 2) := by decide +kernel
theorem dX7_table_48 : decode cX7_table 48 = .ok (.ireturn, 1) := by decide +kernel
theorem dX7_table_49 : decode cX7_table 49 = .ok (.iload_n 3, 1) := by decide +kernel
theorem dX7_table_50 : decode cX7_table 50 = .ok (.iconst 0, 1) := by decide +kernel
theorem dX7_table_51 : decode cX7_table 51 = .ok (.bipush 99, 2) := by decide +kernel
theorem dX7_table_53 : decode cX7_table 53 = .ok (.invokestatic 99, 3) := by decide +kernel
theorem dX7_table_56 : decode cX7_table 56 = .ok (.ifCond .eq 15, 3) := by decide +kernel
theorem dX7_table_59 : decode cX7_table 59 = .ok (.aload_n 0, 1) := by decide +kernel
theorem dX7_table_60 : decode cX7_table 60 = .ok (.getfield 10, 3) := by decide +kernel
theorem dX7_table_63 : decode cX7_table 63 = .ok (.iload_n 1, 1) := by decide +kernel
theorem dX7_table_64 : decode cX7_table 64 = .ok (.iload_n 3, 1) := by decide +kernel
theorem dX7_table_65 : decode cX7_table 65 = .ok (.invokevirtual 122, 3) := by decide +kernel
theorem dX7_table_68 : decode cX7_table 68 = .ok (.goto 5, 3) := by decide +kernel
theorem dX7_table_71 : decode cX7_table 71 = .ok (.ldc 111, 2) := by decide +kernel
theorem dX7_table_73 : decode cX7_table 73 = .ok (.ireturn, 1) := by decide +kernel
def f_X7_table (z : Nat → Nat) (M : Mem) (p1 : Int32) (p2 : Int32) (p3 : Int32) : Option (Int32 × Mem) := bd1 (f_X7_isAngle z M p1) (fun r1 => if r1 = true then bd1 (f_X7_within z M p2 0 1) (fun r2 => if r2 = true then if p2 = 0 then bd1 (f_X7_within z M p3 (-99) 99) (fun r3 => if r3 = true then bd2 (f_X4_replaceLift z M p1 p3) (fun r4 M5 => some (r4, M5)) else some ((-2000000000), M)) else bd1 (f_X7_within z M p3 0 99) (fun r6 => if r6 = true then bd2 (f_X4_replaceDrag z M p1 p3) (fun r7 M8 => some (r7, M8)) else some ((-2000000000), M)) else some ((-2000000000), M)) else some ((-2000000000), M))
theorem c_X7_table {l : Launch} {G : GG} {a : AA} {M : Mem} {p1 : Int32} {p2 : Int32} {p3 : Int32} {r : Int32} {M' : Mem} (hf : f_X7_table a.1 M p1 p2 p3 = some (r, M')) : CtI l G a yX7_table cX7_table 4 .int (rmD 4) [.ref (a.2 50), .int p1, .int p2, .int p3] M r M' := by
  refine ct_I (by decide) rfl rfl (own := RX7) (Nat.le_of_ble_eq_true rfl) (fun K hl hg S rt => ?_)
  subst hl; subst hg
  unfold f_X7_table at hf
  show Go K 4 a M 0 [(0, .ref (a.2 50)), (1, .int p1), (2, .int p2), (3, .int p3)] []
  refine g_iload_n 1 S dX7_table_0 rfl ?_
  obtain ⟨r1, hr1, hf⟩ := bd1_some hf
  refine g_cSI (st := []) S ok_X7_isAngle lk_X7_115 (c_X7_isAngle hr1) rfl rfl ⟨by decide, by decide⟩ (rmD_z _) (Nat.le_of_ble_eq_true rfl) dX7_table_1 ?_
  refine g_if_eqB (tgt := 16) S dX7_table_4 (by decide) hf (fun c hf => ?_) (fun c hf => ?_)
  · refine g_iload_n 2 S dX7_table_7 rfl ?_
    refine g_iconst (v := 0) S dX7_table_8 rfl ?_
    refine g_iconst (v := 1) S dX7_table_9 rfl ?_
    obtain ⟨r2, hr2, hf⟩ := bd1_some hf
    refine g_cSI (st := []) S ok_X7_within lk_X7_99 (c_X7_within hr2) rfl rfl ⟨by decide, by decide⟩ (rmD_z _) (Nat.le_of_ble_eq_true rfl) dX7_table_10 ?_
    refine g_if_neB (tgt := 19) S dX7_table_13 (by decide) hf (fun c hf => ?_) (fun c hf => ?_)
    · refine g_iload_n 2 S dX7_table_19 rfl ?_
      refine g_if_ne (tgt := 49) S dX7_table_20 (by decide) hf (fun c hf => ?_) (fun c hf => ?_)
      · refine g_iload_n 3 S dX7_table_23 rfl ?_
        refine g_bipush (v := (-99)) S dX7_table_24 rfl ?_
        refine g_bipush (v := 99) S dX7_table_26 rfl ?_
        obtain ⟨r3, hr3, hf⟩ := bd1_some hf
        refine g_cSI (st := []) S ok_X7_within lk_X7_99 (c_X7_within hr3) rfl rfl ⟨by decide, by decide⟩ (rmD_z _) (Nat.le_of_ble_eq_true rfl) dX7_table_28 ?_
        refine g_if_eqB (tgt := 46) S dX7_table_31 (by decide) hf (fun c hf => ?_) (fun c hf => ?_)
        · refine g_aload_n 0 S dX7_table_34 rfl ?_
          refine g_get (v := .ref (a.2 51)) S ob_50 rfl gi_X7 (by decide) lf_X7_10 rfl dX7_table_35 ?_
          refine g_iload_n 1 S dX7_table_38 rfl ?_
          refine g_iload_n 3 S dX7_table_39 rfl ?_
          obtain ⟨r4, M5, hr4, hf⟩ := bd2_some hf
          refine g_cVI (st := []) S ob_51 rfl ok_X4_replaceLift lk_X7_118 (c_X4_replaceLift hr4) rfl rfl ⟨by decide, by decide⟩ (rmD_z _) (Nat.le_of_ble_eq_true rfl) dX7_table_40 ?_
          refine g_goto (tgt := 48) S dX7_table_43 (by decide) ?_
          exact g_iretM rt hf dX7_table_48
        · refine g_ldc S lc_X7_111 dX7_table_46 ?_
          exact g_iretM rt hf dX7_table_48
      · refine g_iload_n 3 S dX7_table_49 rfl ?_
        refine g_iconst (v := 0) S dX7_table_50 rfl ?_
        refine g_bipush (v := 99) S dX7_table_51 rfl ?_
        obtain ⟨r6, hr6, hf⟩ := bd1_some hf
        refine g_cSI (st := []) S ok_X7_within lk_X7_99 (c_X7_within hr6) rfl rfl ⟨by decide, by decide⟩ (rmD_z _) (Nat.le_of_ble_eq_true rfl) dX7_table_53 ?_
        refine g_if_eqB (tgt := 71) S dX7_table_56 (by decide) hf (fun c hf => ?_) (fun c hf => ?_)
        · refine g_aload_n 0 S dX7_table_59 rfl ?_
          refine g_get (v := .ref (a.2 51)) S ob_50 rfl gi_X7 (by decide) lf_X7_10 rfl dX7_table_60 ?_
          refine g_iload_n 1 S dX7_table_63 rfl ?_
          refine g_iload_n 3 S dX7_table_64 rfl ?_
          obtain ⟨r7, M8, hr7, hf⟩ := bd2_some hf
          refine g_cVI (st := []) S ob_51 rfl ok_X4_replaceDrag lk_X7_122 (c_X4_replaceDrag hr7) rfl rfl ⟨by decide, by decide⟩ (rmD_z _) (Nat.le_of_ble_eq_true rfl) dX7_table_65 ?_
          refine g_goto (tgt := 73) S dX7_table_68 (by decide) ?_
          exact g_iretM rt hf dX7_table_73
        · refine g_ldc S lc_X7_111 dX7_table_71 ?_
          exact g_iretM rt hf dX7_table_73
    · refine g_ldc S lc_X7_111 dX7_table_16 ?_
      exact g_iretM rt hf dX7_table_18
  · refine g_ldc S lc_X7_111 dX7_table_16 ?_
    exact g_iretM rt hf dX7_table_18
-- BridleBook.isWind(I)Z
theorem dX7_isWind_0 : decode cX7_isWind 0 = .ok (.iload_n 0, 1) := by decide +kernel
theorem dX7_isWind_1 : decode cX7_isWind 1 = .ok (.iconst 0, 1) := by decide +kernel
theorem dX7_isWind_2 : decode cX7_isWind 2 = .ok (.bipush 99, 2) := by decide +kernel
theorem dX7_isWind_4 : decode cX7_isWind 4 = .ok (.invokestatic 99, 3) := by decide +kernel
theorem dX7_isWind_7 : decode cX7_isWind 7 = .ok (.ireturn, 1) := by decide +kernel
def f_X7_isWind (z : Nat → Nat) (M : Mem) (p1 : Int32) : Option Bool := bd1 (f_X7_within z M p1 0 99) (fun r1 => some r1)
theorem c_X7_isWind {l : Launch} {G : GG} {a : AA} {M : Mem} {p1 : Int32} {r : Bool} (hf : f_X7_isWind a.1 M p1 = some r) : CtI l G a yX7_isWind cX7_isWind 1 .boolean (rmD 1) [.int p1] M (b2i r) M := by
  refine ct_I (by decide) rfl (b2i_n _) (own := RX7) (Nat.le_of_ble_eq_true rfl) (fun K hl hg S rt => ?_)
  subst hl; subst hg
  unfold f_X7_isWind at hf
  show Go K 1 a M 0 [(0, .int p1)] []
  refine g_iload_n 0 S dX7_isWind_0 rfl ?_
  refine g_iconst (v := 0) S dX7_isWind_1 rfl ?_
  refine g_bipush (v := 99) S dX7_isWind_2 rfl ?_
  obtain ⟨r1, hr1, hf⟩ := bd1_some hf
  refine g_cSI (st := []) S ok_X7_within lk_X7_99 (c_X7_within hr1) rfl rfl ⟨by decide, by decide⟩ (rmD_z _) (Nat.le_of_ble_eq_true rfl) dX7_isWind_4 ?_
  exact g_zretP rt hf dX7_isWind_7 rfl
-- BridleBook.force(IIII)I
theorem dX7_force_0 : decode cX7_force 0 = .ok (.aload_n 0, 1) := by decide +kernel
theorem dX7_force_1 : decode cX7_force 1 = .ok (.iload_n 1, 1) := by decide +kernel
theorem dX7_force_2 : decode cX7_force 2 = .ok (.invokevirtual 95, 3) := by decide +kernel
theorem dX7_force_5 : decode cX7_force 5 = .ok (.astore 5, 2) := by decide +kernel
theorem dX7_force_7 : decode cX7_force 7 = .ok (.aload 5, 2) := by decide +kernel
theorem dX7_force_9 : decode cX7_force 9 = .ok (.ifnull 27, 3) := by decide +kernel
theorem dX7_force_12 : decode cX7_force 12 = .ok (.iload_n 2, 1) := by decide +kernel
theorem dX7_force_13 : decode cX7_force 13 = .ok (.invokestatic 125, 3) := by decide +kernel
theorem dX7_force_16 : decode cX7_force 16 = .ok (.ifCond .eq 20, 3) := by decide +kernel
theorem dX7_force_19 : decode cX7_force 19 = .ok (.iload_n 3, 1) := by decide +kernel
theorem dX7_force_20 : decode cX7_force 20 = .ok (.invokestatic 115, 3) := by decide +kernel
theorem dX7_force_23 : decode cX7_force 23 = .ok (.ifCond .eq 13, 3) := by decide +kernel
theorem dX7_force_26 : decode cX7_force 26 = .ok (.iload 4, 2) := by decide +kernel
theorem dX7_force_28 : decode cX7_force 28 = .ok (.iconst 0, 1) := by decide +kernel
theorem dX7_force_29 : decode cX7_force 29 = .ok (.iconst 2, 1) := by decide +kernel
theorem dX7_force_30 : decode cX7_force 30 = .ok (.invokestatic 99, 3) := by decide +kernel
theorem dX7_force_33 : decode cX7_force 33 = .ok (.ifCond .ne 6, 3) := by decide +kernel
theorem dX7_force_36 : decode cX7_force 36 = .ok (.ldc 111, 2) := by decide +kernel
theorem dX7_force_38 : decode cX7_force 38 = .ok (.ireturn, 1) := by decide +kernel
theorem dX7_force_39 : decode cX7_force 39 = .ok (.iload 4, 2) := by decide +kernel
theorem dX7_force_41 : decode cX7_force 41 = .ok (.ifCond .ne 15, 3) := by decide +kernel
theorem dX7_force_44 : decode cX7_force 44 = .ok (.aload 5, 2) := by decide +kernel
theorem dX7_force_46 : decode cX7_force 46 = .ok (.aload_n 0, 1) := by decide +kernel
theorem dX7_force_47 : decode cX7_force 47 = .ok (.getfield 10, 3) := by decide +kernel
theorem dX7_force_50 : decode cX7_force 50 = .ok (.iload_n 2, 1) := by decide +kernel
theorem dX7_force_51 : decode cX7_force 51 = .ok (.iload_n 3, 1) := by decide +kernel
theorem dX7_force_52 : decode cX7_force 52 = .ok (.invokevirtual 128, 3) := by decide +kernel
theorem dX7_force_55 : decode cX7_force 55 = .ok (.ireturn, 1) := by decide +kernel
theorem dX7_force_56 : decode cX7_force 56 = .ok (.iload 4, 2) := by decide +kernel
theorem dX7_force_58 : decode cX7_force 58 = .ok (.iconst 1, 1) := by decide +kernel
theorem dX7_force_59 : decode cX7_force 59 = .ok (.if_icmp .ne 15, 3) := by decide +kernel
theorem dX7_force_62 : decode cX7_force 62 = .ok (.aload 5, 2) := by decide +kernel
theorem dX7_force_64 : decode cX7_force 64 = .ok (.aload_n 0, 1) := by decide +kernel
theorem dX7_force_65 : decode cX7_force 65 = .ok (.getfield 10, 3) := by decide +kernel
theorem dX7_force_68 : decode cX7_force 68 = .ok (.iload_n 2, 1) := by decide +kernel
theorem dX7_force_69 : decode cX7_force 69 = .ok (.iload_n 3, 1) := by decide +kernel
theorem dX7_force_70 : decode cX7_force 70 = .ok (.invokevirtual 132, 3) := by decide +kernel
theorem dX7_force_73 : decode cX7_force 73 = .ok (.ireturn, 1) := by decide +kernel
theorem dX7_force_74 : decode cX7_force 74 = .ok (.aload 5, 2) := by decide +kernel
theorem dX7_force_76 : decode cX7_force 76 = .ok (.aload_n 0, 1) := by decide +kernel
theorem dX7_force_77 : decode cX7_force 77 = .ok (.getfield 10, 3) := by decide +kernel
theorem dX7_force_80 : decode cX7_force 80 = .ok (.iload_n 2, 1) := by decide +kernel
theorem dX7_force_81 : decode cX7_force 81 = .ok (.iload_n 3, 1) := by decide +kernel
theorem dX7_force_82 : decode cX7_force 82 = .ok (.aload 5, 2) := by decide +kernel
theorem dX7_force_84 : decode cX7_force 84 = .ok (.getfield 112, 3) := by decide +kernel
theorem dX7_force_87 : decode cX7_force 87 = .ok (.invokevirtual 135, 3) := by decide +kernel
theorem dX7_force_90 : decode cX7_force 90 = .ok (.ireturn, 1) := by decide +kernel
def f_X7_force (z : Nat → Nat) (M : Mem) (p1 : Int32) (p2 : Int32) (p3 : Int32) (p4 : Int32) : Option Int32 := bd1 (f_X7_kiteAt z M p1) (fun r1 => mq r1 (some (-2000000000)) (fun n2 => bd1 (f_X7_isWind z M p2) (fun r3 => if r3 = true then bd1 (f_X7_isAngle z M p3) (fun r4 => if r4 = true then bd1 (f_X7_within z M p4 0 2) (fun r5 => if r5 = true then if p4 = 0 then bd1 (f_X2_upAt z n2 M p2 p3) (fun r6 => some r6) else if p4 = 1 then bd1 (f_X2_backAt z n2 M p2 p3) (fun r7 => some r7) else bd1 (f_X2_turningAt z n2 M p2 p3 (M n2 4)) (fun r8 => some r8) else some (-2000000000)) else some (-2000000000)) else some (-2000000000))))
theorem c_X7_force {l : Launch} {G : GG} {a : AA} {M : Mem} {p1 : Int32} {p2 : Int32} {p3 : Int32} {p4 : Int32} {r : Int32} (hf : f_X7_force a.1 M p1 p2 p3 p4 = some r) : CtI l G a yX7_force cX7_force 6 .int (rmD 4) [.ref (a.2 50), .int p1, .int p2, .int p3, .int p4] M r M := by
  refine ct_I (by decide) rfl rfl (own := RX7) (Nat.le_of_ble_eq_true rfl) (fun K hl hg S rt => ?_)
  subst hl; subst hg
  unfold f_X7_force at hf
  show Go K 6 a M 0 [(0, .ref (a.2 50)), (1, .int p1), (2, .int p2), (3, .int p3), (4, .int p4)] []
  refine g_aload_n 0 S dX7_force_0 rfl ?_
  refine g_iload_n 1 S dX7_force_1 rfl ?_
  obtain ⟨r1, hr1, hf⟩ := bd1_some hf
  refine g_cVQ (st := []) S ob_50 rfl ok_X7_kiteAt lk_X7_95 (c_X7_kiteAt hr1) rfl rfl ⟨by decide, by decide⟩ (rmD_z _) (Nat.le_of_ble_eq_true rfl) dX7_force_2 ?_
  rcases r1 with _ | n2
  · have hf := mq_n hf
    refine Go.st (st' := [.null]) rfl ?_
    refine g_astoreN (lv' := [(5, .null), (0, .ref (a.2 50)), (1, .int p1), (2, .int p2), (3, .int p3), (4, .int p4)]) S dX7_force_5 (by decide) rfl ?_
    refine g_aloadN 0 S dX7_force_7 rfl ?_
    refine g_ifnullN (tgt := 36) S dX7_force_9 (by decide) ?_
    refine g_ldc S lc_X7_111 dX7_force_36 ?_
    exact g_iretP rt hf dX7_force_38
  · have hn2 := vd_X7_kiteAt hr1
    have hf := mq_s hf
    refine Go.st (st' := [.ref (a.2 n2)]) rfl ?_
    refine g_astore (lv' := [(5, .ref (a.2 n2)), (0, .ref (a.2 50)), (1, .int p1), (2, .int p2), (3, .int p3), (4, .int p4)]) S dX7_force_5 (by decide) rfl ?_
    refine g_aload 0 S dX7_force_7 rfl ?_
    refine g_ifnull S dX7_force_9 ?_
    refine g_iload_n 3 S dX7_force_12 rfl ?_
    obtain ⟨r3, hr3, hf⟩ := bd1_some hf
    refine g_cSI (st := []) S ok_X7_isWind lk_X7_125 (c_X7_isWind hr3) rfl rfl ⟨by decide, by decide⟩ (rmD_z _) (Nat.le_of_ble_eq_true rfl) dX7_force_13 ?_
    refine g_if_eqB (tgt := 36) S dX7_force_16 (by decide) hf (fun c hf => ?_) (fun c hf => ?_)
    · refine g_iload_n 4 S dX7_force_19 rfl ?_
      obtain ⟨r4, hr4, hf⟩ := bd1_some hf
      refine g_cSI (st := []) S ok_X7_isAngle lk_X7_115 (c_X7_isAngle hr4) rfl rfl ⟨by decide, by decide⟩ (rmD_z _) (Nat.le_of_ble_eq_true rfl) dX7_force_20 ?_
      refine g_if_eqB (tgt := 36) S dX7_force_23 (by decide) hf (fun c hf => ?_) (fun c hf => ?_)
      · refine g_iload 5 S dX7_force_26 rfl ?_
        refine g_iconst (v := 0) S dX7_force_28 rfl ?_
        refine g_iconst (v := 2) S dX7_force_29 rfl ?_
        obtain ⟨r5, hr5, hf⟩ := bd1_some hf
        refine g_cSI (st := []) S ok_X7_within lk_X7_99 (c_X7_within hr5) rfl rfl ⟨by decide, by decide⟩ (rmD_z _) (Nat.le_of_ble_eq_true rfl) dX7_force_30 ?_
        refine g_if_neB (tgt := 39) S dX7_force_33 (by decide) hf (fun c hf => ?_) (fun c hf => ?_)
        · refine g_iload 5 S dX7_force_39 rfl ?_
          refine g_if_ne (tgt := 56) S dX7_force_41 (by decide) hf (fun c hf => ?_) (fun c hf => ?_)
          · refine g_aload 0 S dX7_force_44 rfl ?_
            refine g_aload_n 1 S dX7_force_46 rfl ?_
            refine g_get (v := .ref (a.2 51)) S ob_50 rfl gi_X7 (by decide) lf_X7_10 rfl dX7_force_47 ?_
            refine g_iload_n 3 S dX7_force_50 rfl ?_
            refine g_iload_n 4 S dX7_force_51 rfl ?_
            obtain ⟨r6, hr6, hf⟩ := bd1_some hf
            refine g_cVI (st := []) S (ob_K hn2) rfl ok_X2_upAt lk_X7_128 (c_X2_upAt hn2 hr6) rfl rfl ⟨by decide, by decide⟩ (rmD_z _) (Nat.le_of_ble_eq_true rfl) dX7_force_52 ?_
            exact g_iretP rt hf dX7_force_55
          · refine g_iload 5 S dX7_force_56 rfl ?_
            refine g_iconst (v := 1) S dX7_force_58 rfl ?_
            refine g_icmp_ne (tgt := 74) S dX7_force_59 (by decide) hf (fun c hf => ?_) (fun c hf => ?_)
            · refine g_aload 0 S dX7_force_62 rfl ?_
              refine g_aload_n 1 S dX7_force_64 rfl ?_
              refine g_get (v := .ref (a.2 51)) S ob_50 rfl gi_X7 (by decide) lf_X7_10 rfl dX7_force_65 ?_
              refine g_iload_n 3 S dX7_force_68 rfl ?_
              refine g_iload_n 4 S dX7_force_69 rfl ?_
              obtain ⟨r7, hr7, hf⟩ := bd1_some hf
              refine g_cVI (st := []) S (ob_K hn2) rfl ok_X2_backAt lk_X7_132 (c_X2_backAt hn2 hr7) rfl rfl ⟨by decide, by decide⟩ (rmD_z _) (Nat.le_of_ble_eq_true rfl) dX7_force_70 ?_
              exact g_iretP rt hf dX7_force_73
            · refine g_aload 0 S dX7_force_74 rfl ?_
              refine g_aload_n 1 S dX7_force_76 rfl ?_
              refine g_get (v := .ref (a.2 51)) S ob_50 rfl gi_X7 (by decide) lf_X7_10 rfl dX7_force_77 ?_
              refine g_iload_n 3 S dX7_force_80 rfl ?_
              refine g_iload_n 4 S dX7_force_81 rfl ?_
              refine g_aload 0 S dX7_force_82 rfl ?_
              refine g_get (v := .int (M n2 4)) S (ob_K hn2) rfl gi_X2 (by decide) lf_X7_112 rfl dX7_force_84 ?_
              obtain ⟨r8, hr8, hf⟩ := bd1_some hf
              refine g_cVI (st := []) S (ob_K hn2) rfl ok_X2_turningAt lk_X7_135 (c_X2_turningAt hn2 hr8) rfl rfl ⟨by decide, by decide⟩ (rmD_z _) (Nat.le_of_ble_eq_true rfl) dX7_force_87 ?_
              exact g_iretP rt hf dX7_force_90
        · refine g_ldc S lc_X7_111 dX7_force_36 ?_
          exact g_iretP rt hf dX7_force_38
      · refine g_ldc S lc_X7_111 dX7_force_36 ?_
        exact g_iretP rt hf dX7_force_38
    · refine g_ldc S lc_X7_111 dX7_force_36 ?_
      exact g_iretP rt hf dX7_force_38
-- BridleBook.stands(II)I
theorem dX7_stands_0 : decode cX7_stands 0 = .ok (.aload_n 0, 1) := by decide +kernel
theorem dX7_stands_1 : decode cX7_stands 1 = .ok (.iload_n 1, 1) := by decide +kernel
theorem dX7_stands_2 : decode cX7_stands 2 = .ok (.invokevirtual 95, 3) := by decide +kernel
theorem dX7_stands_5 : decode cX7_stands 5 = .ok (.astore_n 3, 1) := by decide +kernel
theorem dX7_stands_6 : decode cX7_stands 6 = .ok (.aload_n 3, 1) := by decide +kernel
theorem dX7_stands_7 : decode cX7_stands 7 = .ok (.ifnull 10, 3) := by decide +kernel
theorem dX7_stands_10 : decode cX7_stands 10 = .ok (.iload_n 2, 1) := by decide +kernel
theorem dX7_stands_11 : decode cX7_stands 11 = .ok (.invokestatic 125, 3) := by decide +kernel
theorem dX7_stands_14 : decode cX7_stands 14 = .ok (.ifCond .ne 5, 3) := by decide +kernel
theorem dX7_stands_17 : decode cX7_stands 17 = .ok (.iconst (-1), 1) := by decide +kernel
theorem dX7_stands_18 : decode cX7_stands 18 = .ok (.ireturn, 1) := by decide +kernel
theorem dX7_stands_19 : decode cX7_stands 19 = .ok (.aload_n 3, 1) := by decide +kernel
theorem dX7_stands_20 : decode cX7_stands 20 = .ok (.aload_n 0, 1) := by decide +kernel
theorem dX7_stands_21 : decode cX7_stands 21 = .ok (.getfield 10, 3) := by decide +kernel
theorem dX7_stands_24 : decode cX7_stands 24 = .ok (.iload_n 2, 1) := by decide +kernel
theorem dX7_stands_25 : decode cX7_stands 25 = .ok (.aload_n 3, 1) := by decide +kernel
theorem dX7_stands_26 : decode cX7_stands 26 = .ok (.getfield 112, 3) := by decide +kernel
theorem dX7_stands_29 : decode cX7_stands 29 = .ok (.invokevirtual 139, 3) := by decide +kernel
theorem dX7_stands_32 : decode cX7_stands 32 = .ok (.ireturn, 1) := by decide +kernel
def f_X7_stands (z : Nat → Nat) (M : Mem) (p1 : Int32) (p2 : Int32) : Option Int32 := bd1 (f_X7_kiteAt z M p1) (fun r1 => mq r1 (some (-1)) (fun n2 => bd1 (f_X7_isWind z M p2) (fun r3 => if r3 = true then bd1 (f_X2_standingAngle z n2 M p2 (M n2 4)) (fun r4 => some r4) else some (-1))))
theorem c_X7_stands {l : Launch} {G : GG} {a : AA} {M : Mem} {p1 : Int32} {p2 : Int32} {r : Int32} (hf : f_X7_stands a.1 M p1 p2 = some r) : CtI l G a yX7_stands cX7_stands 4 .int (rmD 5) [.ref (a.2 50), .int p1, .int p2] M r M := by
  refine ct_I (by decide) rfl rfl (own := RX7) (Nat.le_of_ble_eq_true rfl) (fun K hl hg S rt => ?_)
  subst hl; subst hg
  unfold f_X7_stands at hf
  show Go K 4 a M 0 [(0, .ref (a.2 50)), (1, .int p1), (2, .int p2)] []
  refine g_aload_n 0 S dX7_stands_0 rfl ?_
  refine g_iload_n 1 S dX7_stands_1 rfl ?_
  obtain ⟨r1, hr1, hf⟩ := bd1_some hf
  refine g_cVQ (st := []) S ob_50 rfl ok_X7_kiteAt lk_X7_95 (c_X7_kiteAt hr1) rfl rfl ⟨by decide, by decide⟩ (rmD_z _) (Nat.le_of_ble_eq_true rfl) dX7_stands_2 ?_
  rcases r1 with _ | n2
  · have hf := mq_n hf
    refine Go.st (st' := [.null]) rfl ?_
    refine g_astore_nN (lv' := [(3, .null), (0, .ref (a.2 50)), (1, .int p1), (2, .int p2)]) S dX7_stands_5 (by decide) rfl ?_
    refine g_aload_nN 0 S dX7_stands_6 rfl ?_
    refine g_ifnullN (tgt := 17) S dX7_stands_7 (by decide) ?_
    refine g_iconst (v := (-1)) S dX7_stands_17 rfl ?_
    exact g_iretP rt hf dX7_stands_18
  · have hn2 := vd_X7_kiteAt hr1
    have hf := mq_s hf
    refine Go.st (st' := [.ref (a.2 n2)]) rfl ?_
    refine g_astore_n (lv' := [(3, .ref (a.2 n2)), (0, .ref (a.2 50)), (1, .int p1), (2, .int p2)]) S dX7_stands_5 (by decide) rfl ?_
    refine g_aload_n 0 S dX7_stands_6 rfl ?_
    refine g_ifnull S dX7_stands_7 ?_
    refine g_iload_n 3 S dX7_stands_10 rfl ?_
    obtain ⟨r3, hr3, hf⟩ := bd1_some hf
    refine g_cSI (st := []) S ok_X7_isWind lk_X7_125 (c_X7_isWind hr3) rfl rfl ⟨by decide, by decide⟩ (rmD_z _) (Nat.le_of_ble_eq_true rfl) dX7_stands_11 ?_
    refine g_if_neB (tgt := 19) S dX7_stands_14 (by decide) hf (fun c hf => ?_) (fun c hf => ?_)
    · refine g_aload_n 0 S dX7_stands_19 rfl ?_
      refine g_aload_n 1 S dX7_stands_20 rfl ?_
      refine g_get (v := .ref (a.2 51)) S ob_50 rfl gi_X7 (by decide) lf_X7_10 rfl dX7_stands_21 ?_
      refine g_iload_n 3 S dX7_stands_24 rfl ?_
      refine g_aload_n 0 S dX7_stands_25 rfl ?_
      refine g_get (v := .int (M n2 4)) S (ob_K hn2) rfl gi_X2 (by decide) lf_X7_112 rfl dX7_stands_26 ?_
      obtain ⟨r4, hr4, hf⟩ := bd1_some hf
      refine g_cVI (st := []) S (ob_K hn2) rfl ok_X2_standingAngle lk_X7_139 (c_X2_standingAngle hn2 hr4) rfl rfl ⟨by decide, by decide⟩ (rmD_z _) (Nat.le_of_ble_eq_true rfl) dX7_stands_29 ?_
      exact g_iretP rt hf dX7_stands_32
    · refine g_iconst (v := (-1)) S dX7_stands_17 rfl ?_
      exact g_iretP rt hf dX7_stands_18
-- BridleBook.steady(II)I
theorem dX7_steady_0 : decode cX7_steady 0 = .ok (.aload_n 0, 1) := by decide +kernel
theorem dX7_steady_1 : decode cX7_steady 1 = .ok (.iload_n 1, 1) := by decide +kernel
theorem dX7_steady_2 : decode cX7_steady 2 = .ok (.invokevirtual 95, 3) := by decide +kernel
theorem dX7_steady_5 : decode cX7_steady 5 = .ok (.astore_n 3, 1) := by decide +kernel
theorem dX7_steady_6 : decode cX7_steady 6 = .ok (.aload_n 3, 1) := by decide +kernel
theorem dX7_steady_7 : decode cX7_steady 7 = .ok (.ifnull 10, 3) := by decide +kernel
theorem dX7_steady_10 : decode cX7_steady 10 = .ok (.iload_n 2, 1) := by decide +kernel
theorem dX7_steady_11 : decode cX7_steady 11 = .ok (.invokestatic 125, 3) := by decide +kernel
theorem dX7_steady_14 : decode cX7_steady 14 = .ok (.ifCond .ne 5, 3) := by decide +kernel
theorem dX7_steady_17 : decode cX7_steady 17 = .ok (.iconst (-1), 1) := by decide +kernel
theorem dX7_steady_18 : decode cX7_steady 18 = .ok (.ireturn, 1) := by decide +kernel
theorem dX7_steady_19 : decode cX7_steady 19 = .ok (.aload_n 3, 1) := by decide +kernel
theorem dX7_steady_20 : decode cX7_steady 20 = .ok (.aload_n 0, 1) := by decide +kernel
theorem dX7_steady_21 : decode cX7_steady 21 = .ok (.getfield 10, 3) := by decide +kernel
theorem dX7_steady_24 : decode cX7_steady 24 = .ok (.iload_n 2, 1) := by decide +kernel
theorem dX7_steady_25 : decode cX7_steady 25 = .ok (.aload_n 3, 1) := by decide +kernel
theorem dX7_steady_26 : decode cX7_steady 26 = .ok (.getfield 112, 3) := by decide +kernel
theorem dX7_steady_29 : decode cX7_steady 29 = .ok (.invokevirtual 139, 3) := by decide +kernel
theorem dX7_steady_32 : decode cX7_steady 32 = .ok (.istore 4, 2) := by decide +kernel
theorem dX7_steady_34 : decode cX7_steady 34 = .ok (.iload 4, 2) := by decide +kernel
theorem dX7_steady_36 : decode cX7_steady 36 = .ok (.bipush (-2), 2) := by decide +kernel
theorem dX7_steady_38 : decode cX7_steady 38 = .ok (.if_icmp .ne 6, 3) := by decide +kernel
theorem dX7_steady_41 : decode cX7_steady 41 = .ok (.bipush (-2), 2) := by decide +kernel
theorem dX7_steady_43 : decode cX7_steady 43 = .ok (.ireturn, 1) := by decide +kernel
theorem dX7_steady_44 : decode cX7_steady 44 = .ok (.aload_n 3, 1) := by decide +kernel
theorem dX7_steady_45 : decode cX7_steady 45 = .ok (.aload_n 0, 1) := by decide +kernel
theorem dX7_steady_46 : decode cX7_steady 46 = .ok (.getfield 10, 3) := by decide +kernel
theorem dX7_steady_49 : decode cX7_steady 49 = .ok (.iload_n 2, 1) := by decide +kernel
theorem dX7_steady_50 : decode cX7_steady 50 = .ok (.iload 4, 2) := by decide +kernel
theorem dX7_steady_52 : decode cX7_steady 52 = .ok (.aload_n 3, 1) := by decide +kernel
theorem dX7_steady_53 : decode cX7_steady 53 = .ok (.getfield 112, 3) := by decide +kernel
theorem dX7_steady_56 : decode cX7_steady 56 = .ok (.invokevirtual 142, 3) := by decide +kernel
theorem dX7_steady_59 : decode cX7_steady 59 = .ok (.ifCond .eq 7, 3) := by decide +kernel
theorem dX7_steady_62 : decode cX7_steady 62 = .ok (.iconst 1, 1) := by decide +kernel
theorem dX7_steady_63 : decode cX7_steady 63 = .ok (.goto 4, 3) := by decide +kernel
theorem dX7_steady_66 : decode cX7_steady 66 = .ok (.iconst 0, 1) := by decide +kernel
theorem dX7_steady_67 : decode cX7_steady 67 = .ok (.ireturn, 1) := by decide +kernel
def f_X7_steady (z : Nat → Nat) (M : Mem) (p1 : Int32) (p2 : Int32) : Option Int32 := bd1 (f_X7_kiteAt z M p1) (fun r1 => mq r1 (some (-1)) (fun n2 => bd1 (f_X7_isWind z M p2) (fun r3 => if r3 = true then bd1 (f_X2_standingAngle z n2 M p2 (M n2 4)) (fun r4 => if r4 = (-2) then some (-2) else bd1 (f_X2_isSteadyAt z n2 M p2 r4 (M n2 4)) (fun r5 => if r5 = true then some 1 else some 0)) else some (-1))))
theorem c_X7_steady {l : Launch} {G : GG} {a : AA} {M : Mem} {p1 : Int32} {p2 : Int32} {r : Int32} (hf : f_X7_steady a.1 M p1 p2 = some r) : CtI l G a yX7_steady cX7_steady 5 .int (rmD 5) [.ref (a.2 50), .int p1, .int p2] M r M := by
  refine ct_I (by decide) rfl rfl (own := RX7) (Nat.le_of_ble_eq_true rfl) (fun K hl hg S rt => ?_)
  subst hl; subst hg
  unfold f_X7_steady at hf
  show Go K 5 a M 0 [(0, .ref (a.2 50)), (1, .int p1), (2, .int p2)] []
  refine g_aload_n 0 S dX7_steady_0 rfl ?_
  refine g_iload_n 1 S dX7_steady_1 rfl ?_
  obtain ⟨r1, hr1, hf⟩ := bd1_some hf
  refine g_cVQ (st := []) S ob_50 rfl ok_X7_kiteAt lk_X7_95 (c_X7_kiteAt hr1) rfl rfl ⟨by decide, by decide⟩ (rmD_z _) (Nat.le_of_ble_eq_true rfl) dX7_steady_2 ?_
  rcases r1 with _ | n2
  · have hf := mq_n hf
    refine Go.st (st' := [.null]) rfl ?_
    refine g_astore_nN (lv' := [(3, .null), (0, .ref (a.2 50)), (1, .int p1), (2, .int p2)]) S dX7_steady_5 (by decide) rfl ?_
    refine g_aload_nN 0 S dX7_steady_6 rfl ?_
    refine g_ifnullN (tgt := 17) S dX7_steady_7 (by decide) ?_
    refine g_iconst (v := (-1)) S dX7_steady_17 rfl ?_
    exact g_iretP rt hf dX7_steady_18
  · have hn2 := vd_X7_kiteAt hr1
    have hf := mq_s hf
    refine Go.st (st' := [.ref (a.2 n2)]) rfl ?_
    refine g_astore_n (lv' := [(3, .ref (a.2 n2)), (0, .ref (a.2 50)), (1, .int p1), (2, .int p2)]) S dX7_steady_5 (by decide) rfl ?_
    refine g_aload_n 0 S dX7_steady_6 rfl ?_
    refine g_ifnull S dX7_steady_7 ?_
    refine g_iload_n 3 S dX7_steady_10 rfl ?_
    obtain ⟨r3, hr3, hf⟩ := bd1_some hf
    refine g_cSI (st := []) S ok_X7_isWind lk_X7_125 (c_X7_isWind hr3) rfl rfl ⟨by decide, by decide⟩ (rmD_z _) (Nat.le_of_ble_eq_true rfl) dX7_steady_11 ?_
    refine g_if_neB (tgt := 19) S dX7_steady_14 (by decide) hf (fun c hf => ?_) (fun c hf => ?_)
    · refine g_aload_n 0 S dX7_steady_19 rfl ?_
      refine g_aload_n 1 S dX7_steady_20 rfl ?_
      refine g_get (v := .ref (a.2 51)) S ob_50 rfl gi_X7 (by decide) lf_X7_10 rfl dX7_steady_21 ?_
      refine g_iload_n 3 S dX7_steady_24 rfl ?_
      refine g_aload_n 0 S dX7_steady_25 rfl ?_
      refine g_get (v := .int (M n2 4)) S (ob_K hn2) rfl gi_X2 (by decide) lf_X7_112 rfl dX7_steady_26 ?_
      obtain ⟨r4, hr4, hf⟩ := bd1_some hf
      refine g_cVI (st := []) S (ob_K hn2) rfl ok_X2_standingAngle lk_X7_139 (c_X2_standingAngle hn2 hr4) rfl rfl ⟨by decide, by decide⟩ (rmD_z _) (Nat.le_of_ble_eq_true rfl) dX7_steady_29 ?_
      refine g_istore (lv' := [(4, .int r4), (3, .ref (a.2 n2)), (0, .ref (a.2 50)), (1, .int p1), (2, .int p2)]) S dX7_steady_32 (by decide) rfl ?_
      refine g_iload 0 S dX7_steady_34 rfl ?_
      refine g_bipush (v := (-2)) S dX7_steady_36 rfl ?_
      refine g_icmp_ne (tgt := 44) S dX7_steady_38 (by decide) hf (fun c hf => ?_) (fun c hf => ?_)
      · refine g_bipush (v := (-2)) S dX7_steady_41 rfl ?_
        exact g_iretP rt hf dX7_steady_43
      · refine g_aload_n 1 S dX7_steady_44 rfl ?_
        refine g_aload_n 2 S dX7_steady_45 rfl ?_
        refine g_get (v := .ref (a.2 51)) S ob_50 rfl gi_X7 (by decide) lf_X7_10 rfl dX7_steady_46 ?_
        refine g_iload_n 4 S dX7_steady_49 rfl ?_
        refine g_iload 0 S dX7_steady_50 rfl ?_
        refine g_aload_n 1 S dX7_steady_52 rfl ?_
        refine g_get (v := .int (M n2 4)) S (ob_K hn2) rfl gi_X2 (by decide) lf_X7_112 rfl dX7_steady_53 ?_
        obtain ⟨r5, hr5, hf⟩ := bd1_some hf
        refine g_cVI (st := []) S (ob_K hn2) rfl ok_X2_isSteadyAt lk_X7_142 (c_X2_isSteadyAt hn2 hr5) rfl rfl ⟨by decide, by decide⟩ (rmD_z _) (Nat.le_of_ble_eq_true rfl) dX7_steady_56 ?_
        refine g_if_eqB (tgt := 66) S dX7_steady_59 (by decide) hf (fun c hf => ?_) (fun c hf => ?_)
        · refine g_iconst (v := 1) S dX7_steady_62 rfl ?_
          refine g_goto (tgt := 67) S dX7_steady_63 (by decide) ?_
          exact g_iretP rt hf dX7_steady_67
        · refine g_iconst (v := 0) S dX7_steady_66 rfl ?_
          exact g_iretP rt hf dX7_steady_67
    · refine g_iconst (v := (-1)) S dX7_steady_17 rfl ?_
      exact g_iretP rt hf dX7_steady_18
