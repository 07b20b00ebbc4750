-- BridleBook.tree(I)I
theorem dX7_tree_0 : decode cX7_tree 0 = .ok (.iload_n 1, 1) := by decide +kernel
theorem dX7_tree_1 : decode cX7_tree 1 = .ok (.invokestatic 209, 3) := by decide +kernel
theorem dX7_tree_4 : decode cX7_tree 4 = .ok (.ifCond .eq 11, 3) := by decide +kernel
theorem dX7_tree_7 : decode cX7_tree 7 = .ok (.aload_n 0, 1) := by decide +kernel
theorem dX7_tree_8 : decode cX7_tree 8 = .ok (.iload_n 1, 1) := by decide +kernel
theorem dX7_tree_9 : decode cX7_tree 9 = .ok (.invokevirtual 216, 3) := by decide +kernel
theorem dX7_tree_12 : decode cX7_tree 12 = .ok (.ifCond .eq 5, 3) := by decide +kernel
theorem dX7_tree_15 : decode cX7_tree 15 = .ok (.iconst (-1), 1) := by decide +kernel
theorem dX7_tree_16 : decode cX7_tree 16 = .ok (.ireturn, 1) := by decide +kernel
theorem dX7_tree_17 : decode cX7_tree 17 = .ok (.aload_n 0, 1) := by decide +kernel
theorem dX7_tree_18 : decode cX7_tree 18 = .ok (.getfield 62, 3) := by decide +kernel
theorem dX7_tree_21 : decode cX7_tree 21 = .ok (.bipush 20, 2) := by decide +kernel
theorem dX7_tree_23 : decode cX7_tree 23 = .ok (.if_icmp .lt 6, 3) := by decide +kernel
theorem dX7_tree_26 : decode cX7_tree 26 = .ok (.bipush (-3), 2) := by decide +kernel
theorem dX7_tree_28 : decode cX7_tree 28 = .ok (.ireturn, 1) := by decide +kernel
theorem dX7_tree_29 : decode cX7_tree 29 = .ok (.aload_n 0, 1) := by decide +kernel
theorem dX7_tree_30 : decode cX7_tree 30 = .ok (.getfield 59, 3) := by decide +kernel
theorem dX7_tree_33 : decode cX7_tree 33 = .ok (.aload_n 0, 1) := by decide +kernel
theorem dX7_tree_34 : decode cX7_tree 34 = .ok (.getfield 62, 3) := by decide +kernel
theorem dX7_tree_37 : decode cX7_tree 37 = .ok (.iload_n 1, 1) := by decide +kernel
theorem dX7_tree_38 : decode cX7_tree 38 = .ok (.iastore, 1) := by decide +kernel
theorem dX7_tree_39 : decode cX7_tree 39 = .ok (.aload_n 0, 1) := by decide +kernel
theorem dX7_tree_40 : decode cX7_tree 40 = .ok (.dup, 1) := by decide +kernel
theorem dX7_tree_41 : decode cX7_tree 41 = .ok (.getfield 62, 3) := by decide +kernel
theorem dX7_tree_44 : decode cX7_tree 44 = .ok (.iconst 1, 1) := by decide +kernel
theorem dX7_tree_45 : decode cX7_tree 45 = .ok (.iadd, 1) := by decide +kernel
theorem dX7_tree_46 : decode cX7_tree 46 = .ok (.putfield 62, 3) := by decide +kernel
theorem dX7_tree_49 : decode cX7_tree 49 = .ok (.aload_n 0, 1) := by decide +kernel
theorem dX7_tree_50 : decode cX7_tree 50 = .ok (.getfield 62, 3) := by decide +kernel
theorem dX7_tree_53 : decode cX7_tree 53 = .ok (.ireturn, 1) := by decide +kernel
def f_X7_tree (z : Nat → Nat) (M : Mem) (p1 : Int32) : Option (Int32 × Mem) := bd1 (f_X7_isPlace z M p1) (fun r1 => if r1 = true then bd1 (f_X7_hasTreeAt z M p1) (fun r2 => if r2 = true then some ((-1), M) else if (M 50 11) < 20 then ck (inb (M 50 11) 20) (lt (mu (mu M 61 (Int32.toNatClampNeg (M 50 11)) p1) 50 11 (((mu M 61 (Int32.toNatClampNeg (M 50 11)) p1) 50 11) + 1)) (fun M3 => some ((M3 50 11), M3))) else some ((-3), M)) else some ((-1), M))
theorem c_X7_tree {l : Launch} {G : GG} {a : AA} {M : Mem} {p1 : Int32} {r : Int32} {M' : Mem} (hf : f_X7_tree a.1 M p1 = some (r, M')) : CtI l G a yX7_tree cX7_tree 2 .int (rmD 2) [.ref (a.2 50), .int p1] M r M' := by
  refine ct_I (by decide) rfl rfl (own := RX7) (Nat.le_of_ble_eq_true rfl) (fun K hl hg S rt => ?_)
  subst hl; subst hg
  unfold f_X7_tree at hf
  show Go K 2 a M 0 [(0, .ref (a.2 50)), (1, .int p1)] []
  refine g_iload_n 1 S dX7_tree_0 rfl ?_
  obtain ⟨r1, hr1, hf⟩ := bd1_some hf
  refine g_cSI (st := []) S ok_X7_isPlace lk_X7_209 (c_X7_isPlace hr1) rfl rfl ⟨by decide, by decide⟩ (rmD_z _) (Nat.le_of_ble_eq_true rfl) dX7_tree_1 ?_
  refine g_if_eqB (tgt := 15) S dX7_tree_4 (by decide) hf (fun c hf => ?_) (fun c hf => ?_)
  · refine g_aload_n 0 S dX7_tree_7 rfl ?_
    refine g_iload_n 1 S dX7_tree_8 rfl ?_
    obtain ⟨r2, hr2, hf⟩ := bd1_some hf
    refine g_cVI (st := []) S ob_50 rfl ok_X7_hasTreeAt lk_X7_216 (c_X7_hasTreeAt hr2) rfl rfl ⟨by decide, by decide⟩ (rmD_z _) (Nat.le_of_ble_eq_true rfl) dX7_tree_9 ?_
    refine g_if_eqB (tgt := 17) S dX7_tree_12 (by decide) hf (fun c hf => ?_) (fun c hf => ?_)
    · refine g_iconst (v := (-1)) S dX7_tree_15 rfl ?_
      exact g_iretM rt hf dX7_tree_16
    · refine g_aload_n 0 S dX7_tree_17 rfl ?_
      refine g_get (v := .int (M 50 11)) S ob_50 rfl gi_X7 (by decide) lf_X7_62 rfl dX7_tree_18 ?_
      refine g_bipush (v := 20) S dX7_tree_21 rfl ?_
      refine g_icmp_lt (tgt := 29) S dX7_tree_23 (by decide) hf (fun c hf => ?_) (fun c hf => ?_)
      · refine g_aload_n 0 S dX7_tree_29 rfl ?_
        refine g_get (v := .ref (a.2 61)) S ob_50 rfl gi_X7 (by decide) lf_X7_59 rfl dX7_tree_30 ?_
        refine g_aload_n 0 S dX7_tree_33 rfl ?_
        refine g_get (v := .int (M 50 11)) S ob_50 rfl gi_X7 (by decide) lf_X7_62 rfl dX7_tree_34 ?_
        refine g_iload_n 1 S dX7_tree_37 rfl ?_
        refine g_iast S ia_61 dX7_tree_38 hf (fun hf => ?_)
        refine g_aload_n 0 S dX7_tree_39 rfl ?_
        refine g_dup S dX7_tree_40 rfl ?_
        refine g_get (v := .int ((mu M 61 (Int32.toNatClampNeg (M 50 11)) p1) 50 11)) S ob_50 rfl gi_X7 (by decide) lf_X7_62 rfl dX7_tree_41 ?_
        refine g_iconst (v := 1) S dX7_tree_44 rfl ?_
        refine g_iadd S dX7_tree_45 ?_
        refine g_put (ty := .int) S ob_50 rfl gi_X7 tyX7_ok nmX7 (by decide) lf_X7_62 rfl (by decide +kernel) rfl rfl (Nat.le_of_ble_eq_true rfl) rfl dX7_tree_46 ?_
        obtain ⟨M3, eM3, hf⟩ := lt_some hf
        refine Go.M eM3 ?_
        refine g_aload_n 0 S dX7_tree_49 rfl ?_
        refine g_get (v := .int (M3 50 11)) S ob_50 rfl gi_X7 (by decide) lf_X7_62 rfl dX7_tree_50 ?_
        exact g_iretM rt hf dX7_tree_53
      · refine g_bipush (v := (-3)) S dX7_tree_26 rfl ?_
        exact g_iretM rt hf dX7_tree_28
  · refine g_iconst (v := (-1)) S dX7_tree_15 rfl ?_
    exact g_iretM rt hf dX7_tree_16
-- BridleBook.flyerAt(I)LBridleBook$Flyer;
theorem dX7_flyerAt_0 : decode cX7_flyerAt 0 = .ok (.iload_n 1, 1) := by decide +kernel
theorem dX7_flyerAt_1 : decode cX7_flyerAt 1 = .ok (.iconst 0, 1) := by decide +kernel
theorem dX7_flyerAt_2 : decode cX7_flyerAt 2 = .ok (.aload_n 0, 1) := by decide +kernel
theorem dX7_flyerAt_3 : decode cX7_flyerAt 3 = .ok (.getfield 52, 3) := by decide +kernel
theorem dX7_flyerAt_6 : decode cX7_flyerAt 6 = .ok (.iconst 1, 1) := by decide +kernel
theorem dX7_flyerAt_7 : decode cX7_flyerAt 7 = .ok (.isub, 1) := by decide +kernel
theorem dX7_flyerAt_8 : decode cX7_flyerAt 8 = .ok (.invokestatic 99, 3) := by decide +kernel
theorem dX7_flyerAt_11 : decode cX7_flyerAt 11 = .ok (.ifCond .eq 12, 3) := by decide +kernel
theorem dX7_flyerAt_14 : decode cX7_flyerAt 14 = .ok (.aload_n 0, 1) := by decide +kernel
theorem dX7_flyerAt_15 : decode cX7_flyerAt 15 = .ok (.getfield 48, 3) := by decide +kernel
theorem dX7_flyerAt_18 : decode cX7_flyerAt 18 = .ok (.iload_n 1, 1) := by decide +kernel
theorem dX7_flyerAt_19 : decode cX7_flyerAt 19 = .ok (.aaload, 1) := by decide +kernel
theorem dX7_flyerAt_20 : decode cX7_flyerAt 20 = .ok (.goto 4, 3) := by decide +kernel
theorem dX7_flyerAt_23 : decode cX7_flyerAt 23 = .ok (.aconst_null, 1) := by decide +kernel
theorem dX7_flyerAt_24 : decode cX7_flyerAt 24 = .ok (.areturn, 1) := by decide +kernel
def f_X7_flyerAt (z : Nat → Nat) (M : Mem) (p1 : Int32) : Option (Option Nat) := bd1 (f_X7_within z M p1 0 ((M 50 8) - 1)) (fun r1 => if r1 = true then ck (inb p1 10) (if (Int32.toNatClampNeg p1) < z 2 then some (some (300 + 1 * (Int32.toNatClampNeg p1))) else some none) else some none)
theorem c_X7_flyerAt {l : Launch} {G : GG} {a : AA} {M : Mem} {p1 : Int32} {r : Option Nat} (hf : f_X7_flyerAt a.1 M p1 = some r) : CtQ l G a yX7_flyerAt cX7_flyerAt 2 "BridleBook$Flyer" (rmD 1) [.ref (a.2 50), .int p1] M r M := by
  refine ct_Q (by decide) rfl (own := RX7) (Nat.le_of_ble_eq_true rfl) (fun K hl hg S rt => ?_)
  subst hl; subst hg
  unfold f_X7_flyerAt at hf
  show Go K 2 a M 0 [(0, .ref (a.2 50)), (1, .int p1)] []
  refine g_iload_n 1 S dX7_flyerAt_0 rfl ?_
  refine g_iconst (v := 0) S dX7_flyerAt_1 rfl ?_
  refine g_aload_n 0 S dX7_flyerAt_2 rfl ?_
  refine g_get (v := .int (M 50 8)) S ob_50 rfl gi_X7 (by decide) lf_X7_52 rfl dX7_flyerAt_3 ?_
  refine g_iconst (v := 1) S dX7_flyerAt_6 rfl ?_
  refine g_isub S dX7_flyerAt_7 ?_
  obtain ⟨r1, hr1, hf⟩ := bd1_some hf
  refine g_cSI (st := []) S ok_X7_within lk_X7_99 (c_X7_within hr1) rfl rfl ⟨by decide, by decide⟩ (rmD_z _) (Nat.le_of_ble_eq_true rfl) dX7_flyerAt_8 ?_
  refine g_if_eqB (tgt := 23) S dX7_flyerAt_11 (by decide) hf (fun c hf => ?_) (fun c hf => ?_)
  · refine g_aload_n 0 S dX7_flyerAt_14 rfl ?_
    refine g_get (v := .ref (a.2 58)) S ob_50 rfl gi_X7 (by decide) lf_X7_48 rfl dX7_flyerAt_15 ?_
    refine g_iload_n 1 S dX7_flyerAt_18 rfl ?_
    refine g_aald (t0 := 4) (base := 300) (step := 1) (cnt := a.1 2) S (in_fix (by decide)) rfl rfl dX7_flyerAt_19 hf (fun c hf => ?_) (fun c hf => ?_)
    · refine g_goto (tgt := 24) S dX7_flyerAt_20 (by decide) ?_
      exact g_aretS rt hf dX7_flyerAt_24
    · refine g_goto (tgt := 24) S dX7_flyerAt_20 (by decide) ?_
      exact g_aretN rt hf dX7_flyerAt_24
  · refine g_null S dX7_flyerAt_23 ?_
    exact g_aretN rt hf dX7_flyerAt_24
theorem vd_X7_flyerAt {z : Nat → Nat} {M : Mem} {p1 : Int32} {n : Nat} (h : f_X7_flyerAt z M p1 = some (some n)) : vF z n := by
  unfold f_X7_flyerAt at h
  obtain ⟨r, -, h⟩ := bd1_some h
  refine sp_if h (fun _ h => ?_) (fun _ h => ?_)
  · obtain ⟨h2, h⟩ := ck_some h
    refine sp_if h (fun c h => ?_) (fun _ h => ?_)
    · cases h
      exact ⟨p1.toNatClampNeg, c, by omega⟩
    · cases h
  · cases h
-- BridleBook.agree(III)I
theorem dX7_agree_0 : decode cX7_agree 0 = .ok (.aload_n 0, 1) := by decide +kernel
theorem dX7_agree_1 : decode cX7_agree 1 = .ok (.iload_n 1, 1) := by decide +kernel
theorem dX7_agree_2 : decode cX7_agree 2 = .ok (.invokevirtual 219, 3) := by decide +kernel
theorem dX7_agree_5 : decode cX7_agree 5 = .ok (.ifnull 25, 3) := by decide +kernel
theorem dX7_agree_8 : decode cX7_agree 8 = .ok (.aload_n 0, 1) := by decide +kernel
theorem dX7_agree_9 : decode cX7_agree 9 = .ok (.iload_n 2, 1) := by decide +kernel
theorem dX7_agree_10 : decode cX7_agree 10 = .ok (.invokevirtual 219, 3) := by decide +kernel
theorem dX7_agree_13 : decode cX7_agree 13 = .ok (.ifnull 17, 3) := by decide +kernel
theorem dX7_agree_16 : decode cX7_agree 16 = .ok (.iload_n 1, 1) := by decide +kernel
theorem dX7_agree_17 : decode cX7_agree 17 = .ok (.iload_n 2, 1) := by decide +kernel
theorem dX7_agree_18 : decode cX7_agree 18 = .ok (.if_icmp .eq 12, 3) := by decide +kernel
theorem dX7_agree_21 : decode cX7_agree 21 = .ok (.iload_n 3, 1) := by decide +kernel
theorem dX7_agree_22 : decode cX7_agree 22 = .ok (.iconst 0, 1) := by decide +kernel
theorem dX7_agree_23 : decode cX7_agree 23 = .ok (.iconst 1, 1) := by decide +kernel
theorem dX7_agree_24 : decode cX7_agree 24 = .ok (.invokestatic 99, 3) := by decide +kernel
theorem dX7_agree_27 : decode cX7_agree 27 = .ok (.ifCond .ne 5, 3) := by decide +kernel
theorem dX7_agree_30 : decode cX7_agree 30 = .ok (.iconst (-1), 1) := by decide +kernel
theorem dX7_agree_31 : decode cX7_agree 31 = .ok (.ireturn, 1) := by decide +kernel
theorem dX7_agree_32 : decode cX7_agree 32 = .ok (.aload_n 0, 1) := by decide +kernel
theorem dX7_agree_33 : decode cX7_agree 33 = .ok (.getfield 55, 3) := by decide +kernel
theorem dX7_agree_36 : decode cX7_agree 36 = .ok (.iload_n 1, 1) := by decide +kernel
theorem dX7_agree_37 : decode cX7_agree 37 = .ok (.bipush 10, 2) := by decide +kernel
theorem dX7_agree_39 : decode cX7_agree 39 = .ok (.imul, 1) := by decide +kernel
theorem dX7_agree_40 : decode cX7_agree 40 = .ok (.iload_n 2, 1) := by decide +kernel
theorem dX7_agree_41 : decode cX7_agree 41 = .ok (.iadd, 1) := by decide +kernel
theorem dX7_agree_42 : decode cX7_agree 42 = .ok (.baload, 1) := by decide +kernel
theorem dX7_agree_43 : decode cX7_agree 43 = .ok (.ifCond .eq 7, 3) := by decide +kernel
theorem dX7_agree_46 : decode cX7_agree 46 = .ok (.iconst 1, 1) := by decide +kernel
theorem dX7_agree_47 : decode cX7_agree 47 = .ok (.goto 4, 3) := by decide +kernel
theorem dX7_agree_50 : decode cX7_agree 50 = .ok (.iconst 0, 1) := by decide +kernel
theorem dX7_agree_51 : decode cX7_agree 51 = .ok (.istore 4, 2) := by decide +kernel
theorem dX7_agree_53 : decode cX7_agree 53 = .ok (.aload_n 0, 1) := by decide +kernel
theorem dX7_agree_54 : decode cX7_agree 54 = .ok (.getfield 55, 3) := by decide +kernel
theorem dX7_agree_57 : decode cX7_agree 57 = .ok (.iload_n 1, 1) := by decide +kernel
theorem dX7_agree_58 : decode cX7_agree 58 = .ok (.bipush 10, 2) := by decide +kernel
theorem dX7_agree_60 : decode cX7_agree 60 = .ok (.imul, 1) := by decide +kernel
theorem dX7_agree_61 : decode cX7_agree 61 = .ok (.iload_n 2, 1) := by decide +kernel
theorem dX7_agree_62 : decode cX7_agree 62 = .ok (.iadd, 1) := by decide +kernel
theorem dX7_agree_63 : decode cX7_agree 63 = .ok (.iload_n 3, 1) := by decide +kernel
theorem dX7_agree_64 : decode cX7_agree 64 = .ok (.iconst 1, 1) := by decide +kernel
theorem dX7_agree_65 : decode cX7_agree 65 = .ok (.if_icmp .ne 7, 3) := by decide +kernel
theorem dX7_agree_68 : decode cX7_agree 68 = .ok (.iconst 1, 1) := by decide +kernel
theorem dX7_agree_69 : decode cX7_agree 69 = .ok (.goto 4, 3) := by decide +kernel
theorem dX7_agree_72 : decode cX7_agree 72 = .ok (.iconst 0, 1) := by decide +kernel
theorem dX7_agree_73 : decode cX7_agree 73 = .ok (.bastore, 1) := by decide +kernel
theorem dX7_agree_74 : decode cX7_agree 74 = .ok (.aload_n 0, 1) := by decide +kernel
theorem dX7_agree_75 : decode cX7_agree 75 = .ok (.getfield 55, 3) := by decide +kernel
theorem dX7_agree_78 : decode cX7_agree 78 = .ok (.iload_n 2, 1) := by decide +kernel
theorem dX7_agree_79 : decode cX7_agree 79 = .ok (.bipush 10, 2) := by decide +kernel
theorem dX7_agree_81 : decode cX7_agree 81 = .ok (.imul, 1) := by decide +kernel
theorem dX7_agree_82 : decode cX7_agree 82 = .ok (.iload_n 1, 1) := by decide +kernel
theorem dX7_agree_83 : decode cX7_agree 83 = .ok (.iadd, 1) := by decide +kernel
theorem dX7_agree_84 : decode cX7_agree 84 = .ok (.iload_n 3, 1) := by decide +kernel
theorem dX7_agree_85 : decode cX7_agree 85 = .ok (.iconst 1, 1) := by decide +kernel
theorem dX7_agree_86 : decode cX7_agree 86 = .ok (.if_icmp .ne 7, 3) := by decide +kernel
theorem dX7_agree_89 : decode cX7_agree 89 = .ok (.iconst 1, 1) := by decide +kernel
theorem dX7_agree_90 : decode cX7_agree 90 = .ok (.goto 4, 3) := by decide +kernel
theorem dX7_agree_93 : decode cX7_agree 93 = .ok (.iconst 0, 1) := by decide +kernel
theorem dX7_agree_94 : decode cX7_agree 94 = .ok (.bastore, 1) := by decide +kernel
theorem dX7_agree_95 : decode cX7_agree 95 = .ok (.iload 4, 2) := by decide +kernel
theorem dX7_agree_97 : decode cX7_agree 97 = .ok (.ireturn, 1) := by decide +kernel
def f_X7_agree (z : Nat → Nat) (M : Mem) (p1 : Int32) (p2 : Int32) (p3 : Int32) : Option (Int32 × Mem) := bd1 (f_X7_flyerAt z M p1) (fun r1 => mq r1 (some ((-1), M)) (fun n2 => bd1 (f_X7_flyerAt z M p2) (fun r3 => mq r3 (some ((-1), M)) (fun n4 => if p1 = p2 then some ((-1), M) else bd1 (f_X7_within z M p3 0 1) (fun r5 => if r5 = true then ck (inb ((p1 * 10) + p2) 100) (if (M 60 (Int32.toNatClampNeg ((p1 * 10) + p2))) = 0 then if p3 = 1 then ck (inb ((p1 * 10) + p2) 100) (if p3 = 1 then ck (inb ((p2 * 10) + p1) 100) (lt (mu (mu M 60 (Int32.toNatClampNeg ((p1 * 10) + p2)) 1) 60 (Int32.toNatClampNeg ((p2 * 10) + p1)) 1) (fun M6 => some (0, M6))) else ck (inb ((p2 * 10) + p1) 100) (lt (mu (mu M 60 (Int32.toNatClampNeg ((p1 * 10) + p2)) 1) 60 (Int32.toNatClampNeg ((p2 * 10) + p1)) 0) (fun M7 => some (0, M7)))) else ck (inb ((p1 * 10) + p2) 100) (if p3 = 1 then ck (inb ((p2 * 10) + p1) 100) (lt (mu (mu M 60 (Int32.toNatClampNeg ((p1 * 10) + p2)) 0) 60 (Int32.toNatClampNeg ((p2 * 10) + p1)) 1) (fun M8 => some (0, M8))) else ck (inb ((p2 * 10) + p1) 100) (lt (mu (mu M 60 (Int32.toNatClampNeg ((p1 * 10) + p2)) 0) 60 (Int32.toNatClampNeg ((p2 * 10) + p1)) 0) (fun M9 => some (0, M9)))) else if p3 = 1 then ck (inb ((p1 * 10) + p2) 100) (if p3 = 1 then ck (inb ((p2 * 10) + p1) 100) (lt (mu (mu M 60 (Int32.toNatClampNeg ((p1 * 10) + p2)) 1) 60 (Int32.toNatClampNeg ((p2 * 10) + p1)) 1) (fun M10 => some (1, M10))) else ck (inb ((p2 * 10) + p1) 100) (lt (mu (mu M 60 (Int32.toNatClampNeg ((p1 * 10) + p2)) 1) 60 (Int32.toNatClampNeg ((p2 * 10) + p1)) 0) (fun M11 => some (1, M11)))) else ck (inb ((p1 * 10) + p2) 100) (if p3 = 1 then ck (inb ((p2 * 10) + p1) 100) (lt (mu (mu M 60 (Int32.toNatClampNeg ((p1 * 10) + p2)) 0) 60 (Int32.toNatClampNeg ((p2 * 10) + p1)) 1) (fun M12 => some (1, M12))) else ck (inb ((p2 * 10) + p1) 100) (lt (mu (mu M 60 (Int32.toNatClampNeg ((p1 * 10) + p2)) 0) 60 (Int32.toNatClampNeg ((p2 * 10) + p1)) 0) (fun M13 => some (1, M13))))) else some ((-1), M))))))
theorem c_X7_agree {l : Launch} {G : GG} {a : AA} {M : Mem} {p1 : Int32} {p2 : Int32} {p3 : Int32} {r : Int32} {M' : Mem} (hf : f_X7_agree a.1 M p1 p2 p3 = some (r, M')) : CtI l G a yX7_agree cX7_agree 5 .int (rmD 2) [.ref (a.2 50), .int p1, .int p2, .int p3] M r M' := by
  refine ct_I (by decide) rfl rfl (own := RX7) (Nat.le_of_ble_eq_true rfl) (fun K hl hg S rt => ?_)
  subst hl; subst hg
  unfold f_X7_agree at hf
  show Go K 5 a M 0 [(0, .ref (a.2 50)), (1, .int p1), (2, .int p2), (3, .int p3)] []
  refine g_aload_n 0 S dX7_agree_0 rfl ?_
  refine g_iload_n 1 S dX7_agree_1 rfl ?_
  obtain ⟨r1, hr1, hf⟩ := bd1_some hf
  refine g_cVQ (st := []) S ob_50 rfl ok_X7_flyerAt lk_X7_219 (c_X7_flyerAt hr1) rfl rfl ⟨by decide, by decide⟩ (rmD_z _) (Nat.le_of_ble_eq_true rfl) dX7_agree_2 ?_
  rcases r1 with _ | n2
  · have hf := mq_n hf
    refine Go.st (st' := [.null]) rfl ?_
    refine g_ifnullN (tgt := 30) S dX7_agree_5 (by decide) ?_
    refine g_iconst (v := (-1)) S dX7_agree_30 rfl ?_
    exact g_iretM rt hf dX7_agree_31
  · have hn2 := vd_X7_flyerAt hr1
    have hf := mq_s hf
    refine Go.st (st' := [.ref (a.2 n2)]) rfl ?_
    refine g_ifnull S dX7_agree_5 ?_
    refine g_aload_n 0 S dX7_agree_8 rfl ?_
    refine g_iload_n 2 S dX7_agree_9 rfl ?_
    obtain ⟨r3, hr3, hf⟩ := bd1_some hf
    refine g_cVQ (st := []) S ob_50 rfl ok_X7_flyerAt lk_X7_219 (c_X7_flyerAt hr3) rfl rfl ⟨by decide, by decide⟩ (rmD_z _) (Nat.le_of_ble_eq_true rfl) dX7_agree_10 ?_
    rcases r3 with _ | n4
    · have hf := mq_n hf
      refine Go.st (st' := [.null]) rfl ?_
      refine g_ifnullN (tgt := 30) S dX7_agree_13 (by decide) ?_
      refine g_iconst (v := (-1)) S dX7_agree_30 rfl ?_
      exact g_iretM rt hf dX7_agree_31
    · have hn4 := vd_X7_flyerAt hr3
      have hf := mq_s hf
      refine Go.st (st' := [.ref (a.2 n4)]) rfl ?_
      refine g_ifnull S dX7_agree_13 ?_
      refine g_iload_n 1 S dX7_agree_16 rfl ?_
      refine g_iload_n 2 S dX7_agree_17 rfl ?_
      refine g_icmp_eq (tgt := 30) S dX7_agree_18 (by decide) hf (fun c hf => ?_) (fun c hf => ?_)
      · refine g_iconst (v := (-1)) S dX7_agree_30 rfl ?_
        exact g_iretM rt hf dX7_agree_31
      · refine g_iload_n 3 S dX7_agree_21 rfl ?_
        refine g_iconst (v := 0) S dX7_agree_22 rfl ?_
        refine g_iconst (v := 1) S dX7_agree_23 rfl ?_
        obtain ⟨r5, hr5, hf⟩ := bd1_some hf
        refine g_cSI (st := []) S ok_X7_within lk_X7_99 (c_X7_within hr5) rfl rfl ⟨by decide, by decide⟩ (rmD_z _) (Nat.le_of_ble_eq_true rfl) dX7_agree_24 ?_
        refine g_if_neB (tgt := 32) S dX7_agree_27 (by decide) hf (fun c hf => ?_) (fun c hf => ?_)
        · refine g_aload_n 0 S dX7_agree_32 rfl ?_
          refine g_get (v := .ref (a.2 60)) S ob_50 rfl gi_X7 (by decide) lf_X7_55 rfl dX7_agree_33 ?_
          refine g_iload_n 1 S dX7_agree_36 rfl ?_
          refine g_bipush (v := 10) S dX7_agree_37 rfl ?_
          refine g_imul S dX7_agree_39 ?_
          refine g_iload_n 2 S dX7_agree_40 rfl ?_
          refine g_iadd S dX7_agree_41 ?_
          refine g_zald S za_60 dX7_agree_42 hf (fun hf => ?_)
          refine g_if_eq (tgt := 50) S dX7_agree_43 (by decide) hf (fun c hf => ?_) (fun c hf => ?_)
          · refine g_iconst (v := 0) S dX7_agree_50 rfl ?_
            refine g_istore (lv' := [(4, .int 0), (0, .ref (a.2 50)), (1, .int p1), (2, .int p2), (3, .int p3)]) S dX7_agree_51 (by decide) rfl ?_
            refine g_aload_n 1 S dX7_agree_53 rfl ?_
            refine g_get (v := .ref (a.2 60)) S ob_50 rfl gi_X7 (by decide) lf_X7_55 rfl dX7_agree_54 ?_
            refine g_iload_n 2 S dX7_agree_57 rfl ?_
            refine g_bipush (v := 10) S dX7_agree_58 rfl ?_
            refine g_imul S dX7_agree_60 ?_
            refine g_iload_n 3 S dX7_agree_61 rfl ?_
            refine g_iadd S dX7_agree_62 ?_
            refine g_iload_n 4 S dX7_agree_63 rfl ?_
            refine g_iconst (v := 1) S dX7_agree_64 rfl ?_
            refine g_icmp_ne (tgt := 72) S dX7_agree_65 (by decide) hf (fun c hf => ?_) (fun c hf => ?_)
            · refine g_iconst (v := 1) S dX7_agree_68 rfl ?_
              refine g_goto (tgt := 73) S dX7_agree_69 (by decide) ?_
              refine g_zast S za_60 dX7_agree_73 rfl hf (fun hf => ?_)
              refine g_aload_n 1 S dX7_agree_74 rfl ?_
              refine g_get (v := .ref (a.2 60)) S ob_50 rfl gi_X7 (by decide) lf_X7_55 rfl dX7_agree_75 ?_
              refine g_iload_n 3 S dX7_agree_78 rfl ?_
              refine g_bipush (v := 10) S dX7_agree_79 rfl ?_
              refine g_imul S dX7_agree_81 ?_
              refine g_iload_n 2 S dX7_agree_82 rfl ?_
              refine g_iadd S dX7_agree_83 ?_
              refine g_iload_n 4 S dX7_agree_84 rfl ?_
              refine g_iconst (v := 1) S dX7_agree_85 rfl ?_
              refine g_icmp_ne (tgt := 93) S dX7_agree_86 (by decide) hf (fun c hf => ?_) (fun c hf => ?_)
              · refine g_iconst (v := 1) S dX7_agree_89 rfl ?_
                refine g_goto (tgt := 94) S dX7_agree_90 (by decide) ?_
                refine g_zast S za_60 dX7_agree_94 rfl hf (fun hf => ?_)
                obtain ⟨M6, eM6, hf⟩ := lt_some hf
                refine Go.M eM6 ?_
                refine g_iload 0 S dX7_agree_95 rfl ?_
                exact g_iretM rt hf dX7_agree_97
              · refine g_iconst (v := 0) S dX7_agree_93 rfl ?_
                refine g_zast S za_60 dX7_agree_94 rfl hf (fun hf => ?_)
                obtain ⟨M7, eM7, hf⟩ := lt_some hf
                refine Go.M eM7 ?_
                refine g_iload 0 S dX7_agree_95 rfl ?_
                exact g_iretM rt hf dX7_agree_97
            · refine g_iconst (v := 0) S dX7_agree_72 rfl ?_
              refine g_zast S za_60 dX7_agree_73 rfl hf (fun hf => ?_)
              refine g_aload_n 1 S dX7_agree_74 rfl ?_
              refine g_get (v := .ref (a.2 60)) S ob_50 rfl gi_X7 (by decide) lf_X7_55 rfl dX7_agree_75 ?_
              refine g_iload_n 3 S dX7_agree_78 rfl ?_
              refine g_bipush (v := 10) S dX7_agree_79 rfl ?_
              refine g_imul S dX7_agree_81 ?_
              refine g_iload_n 2 S dX7_agree_82 rfl ?_
              refine g_iadd S dX7_agree_83 ?_
              refine g_iload_n 4 S dX7_agree_84 rfl ?_
              refine g_iconst (v := 1) S dX7_agree_85 rfl ?_
              refine g_icmp_ne (tgt := 93) S dX7_agree_86 (by decide) hf (fun c hf => ?_) (fun c hf => ?_)
              · refine g_iconst (v := 1) S dX7_agree_89 rfl ?_
                refine g_goto (tgt := 94) S dX7_agree_90 (by decide) ?_
                refine g_zast S za_60 dX7_agree_94 rfl hf (fun hf => ?_)
                obtain ⟨M8, eM8, hf⟩ := lt_some hf
                refine Go.M eM8 ?_
                refine g_iload 0 S dX7_agree_95 rfl ?_
                exact g_iretM rt hf dX7_agree_97
              · refine g_iconst (v := 0) S dX7_agree_93 rfl ?_
                refine g_zast S za_60 dX7_agree_94 rfl hf (fun hf => ?_)
                obtain ⟨M9, eM9, hf⟩ := lt_some hf
                refine Go.M eM9 ?_
                refine g_iload 0 S dX7_agree_95 rfl ?_
                exact g_iretM rt hf dX7_agree_97
          · refine g_iconst (v := 1) S dX7_agree_46 rfl ?_
            refine g_goto (tgt := 51) S dX7_agree_47 (by decide) ?_
            refine g_istore (lv' := [(4, .int 1), (0, .ref (a.2 50)), (1, .int p1), (2, .int p2), (3, .int p3)]) S dX7_agree_51 (by decide) rfl ?_
            refine g_aload_n 1 S dX7_agree_53 rfl ?_
            refine g_get (v := .ref (a.2 60)) S ob_50 rfl gi_X7 (by decide) lf_X7_55 rfl dX7_agree_54 ?_
            refine g_iload_n 2 S dX7_agree_57 rfl ?_
            refine g_bipush (v := 10) S dX7_agree_58 rfl ?_
            refine g_imul S dX7_agree_60 ?_
            refine g_iload_n 3 S dX7_agree_61 rfl ?_
            refine g_iadd S dX7_agree_62 ?_
            refine g_iload_n 4 S dX7_agree_63 rfl ?_
            refine g_iconst (v := 1) S dX7_agree_64 rfl ?_
            refine g_icmp_ne (tgt := 72) S dX7_agree_65 (by decide) hf (fun c hf => ?_) (fun c hf => ?_)
            · refine g_iconst (v := 1) S dX7_agree_68 rfl ?_
              refine g_goto (tgt := 73) S dX7_agree_69 (by decide) ?_
              refine g_zast S za_60 dX7_agree_73 rfl hf (fun hf => ?_)
              refine g_aload_n 1 S dX7_agree_74 rfl ?_
              refine g_get (v := .ref (a.2 60)) S ob_50 rfl gi_X7 (by decide) lf_X7_55 rfl dX7_agree_75 ?_
              refine g_iload_n 3 S dX7_agree_78 rfl ?_
              refine g_bipush (v := 10) S dX7_agree_79 rfl ?_
              refine g_imul S dX7_agree_81 ?_
              refine g_iload_n 2 S dX7_agree_82 rfl ?_
              refine g_iadd S dX7_agree_83 ?_
              refine g_iload_n 4 S dX7_agree_84 rfl ?_
              refine g_iconst (v := 1) S dX7_agree_85 rfl ?_
              refine g_icmp_ne (tgt := 93) S dX7_agree_86 (by decide) hf (fun c hf => ?_) (fun c hf => ?_)
              · refine g_iconst (v := 1) S dX7_agree_89 rfl ?_
                refine g_goto (tgt := 94) S dX7_agree_90 (by decide) ?_
                refine g_zast S za_60 dX7_agree_94 rfl hf (fun hf => ?_)
                obtain ⟨M10, eM10, hf⟩ := lt_some hf
                refine Go.M eM10 ?_
                refine g_iload 0 S dX7_agree_95 rfl ?_
                exact g_iretM rt hf dX7_agree_97
              · refine g_iconst (v := 0) S dX7_agree_93 rfl ?_
                refine g_zast S za_60 dX7_agree_94 rfl hf (fun hf => ?_)
                obtain ⟨M11, eM11, hf⟩ := lt_some hf
                refine Go.M eM11 ?_
                refine g_iload 0 S dX7_agree_95 rfl ?_
                exact g_iretM rt hf dX7_agree_97
            · refine g_iconst (v := 0) S dX7_agree_72 rfl ?_
              refine g_zast S za_60 dX7_agree_73 rfl hf (fun hf => ?_)
              refine g_aload_n 1 S dX7_agree_74 rfl ?_
              refine g_get (v := .ref (a.2 60)) S ob_50 rfl gi_X7 (by decide) lf_X7_55 rfl dX7_agree_75 ?_
              refine g_iload_n 3 S dX7_agree_78 rfl ?_
              refine g_bipush (v := 10) S dX7_agree_79 rfl ?_
              refine g_imul S dX7_agree_81 ?_
              refine g_iload_n 2 S dX7_agree_82 rfl ?_
              refine g_iadd S dX7_agree_83 ?_
              refine g_iload_n 4 S dX7_agree_84 rfl ?_
              refine g_iconst (v := 1) S dX7_agree_85 rfl ?_
              refine g_icmp_ne (tgt := 93) S dX7_agree_86 (by decide) hf (fun c hf => ?_) (fun c hf => ?_)
              · refine g_iconst (v := 1) S dX7_agree_89 rfl ?_
                refine g_goto (tgt := 94) S dX7_agree_90 (by decide) ?_
                refine g_zast S za_60 dX7_agree_94 rfl hf (fun hf => ?_)
                obtain ⟨M12, eM12, hf⟩ := lt_some hf
                refine Go.M eM12 ?_
                refine g_iload 0 S dX7_agree_95 rfl ?_
                exact g_iretM rt hf dX7_agree_97
              · refine g_iconst (v := 0) S dX7_agree_93 rfl ?_
                refine g_zast S za_60 dX7_agree_94 rfl hf (fun hf => ?_)
                obtain ⟨M13, eM13, hf⟩ := lt_some hf
                refine Go.M eM13 ?_
                refine g_iload 0 S dX7_agree_95 rfl ?_
                exact g_iretM rt hf dX7_agree_97
        · refine g_iconst (v := (-1)) S dX7_agree_30 rfl ?_
          exact g_iretM rt hf dX7_agree_31
-- BridleBook.spreadCone(LBridleBook$Cone;LBridleBook$Flyer;)V
theorem dX7_spreadCone_0 : decode cX7_spreadCone 0 = .ok (.aload_n 0, 1) := by decide +kernel
theorem dX7_spreadCone_1 : decode cX7_spreadCone 1 = .ok (.aload_n 2, 1) := by decide +kernel
theorem dX7_spreadCone_2 : decode cX7_spreadCone 2 = .ok (.getfield 299, 3) := by decide +kernel
theorem dX7_spreadCone_5 : decode cX7_spreadCone 5 = .ok (.invokevirtual 150, 3) := by decide +kernel
theorem dX7_spreadCone_8 : decode cX7_spreadCone 8 = .ok (.astore_n 3, 1) := by decide +kernel
theorem dX7_spreadCone_9 : decode cX7_spreadCone 9 = .ok (.aload_n 3, 1) := by decide +kernel
theorem dX7_spreadCone_10 : decode cX7_spreadCone 10 = .ok (.ifnonnull 7, 3) := by decide +kernel
theorem dX7_spreadCone_13 : decode cX7_spreadCone 13 = .ok (.iconst 0, 1) := by decide +kernel
theorem dX7_spreadCone_14 : decode cX7_spreadCone 14 = .ok (.goto 7, 3) := by decide +kernel
theorem dX7_spreadCone_17 : decode cX7_spreadCone 17 = .ok (.aload_n 3, 1) := by decide +kernel
theorem dX7_spreadCone_18 : decode cX7_spreadCone 18 = .ok (.getfield 154, 3) := by decide +kernel
theorem dX7_spreadCone_21 : decode cX7_spreadCone 21 = .ok (.istore 4, 2) := by decide +kernel
theorem dX7_spreadCone_23 : decode cX7_spreadCone 23 = .ok (.aload_n 1, 1) := by decide +kernel
theorem dX7_spreadCone_24 : decode cX7_spreadCone 24 = .ok (.aload_n 2, 1) := by decide +kernel
theorem dX7_spreadCone_25 : decode cX7_spreadCone 25 = .ok (.aload_n 0, 1) := by decide +kernel
theorem dX7_spreadCone_26 : decode cX7_spreadCone 26 = .ok (.getfield 65, 3) := by decide +kernel
theorem dX7_spreadCone_29 : decode cX7_spreadCone 29 = .ok (.iload 4, 2) := by decide +kernel
theorem dX7_spreadCone_31 : decode cX7_spreadCone 31 = .ok (.iload 4, 2) := by decide +kernel
theorem dX7_spreadCone_33 : decode cX7_spreadCone 33 = .ok (.aload_n 0, 1) := by decide +kernel
theorem dX7_spreadCone_34 : decode cX7_spreadCone 34 = .ok (.getfield 68, 3) := by decide +kernel
theorem dX7_spreadCone_37 : decode cX7_spreadCone 37 = .ok (.invokestatic 272, 3) := by decide +kernel
theorem dX7_spreadCone_40 : decode cX7_spreadCone 40 = .ok (.invokevirtual 300, 3) := by decide +kernel
theorem dX7_spreadCone_43 : decode cX7_spreadCone 43 = .ok (.return_, 1) := by decide +kernel
def f_X7_spreadCone_21 (z : Nat → Nat) (u1 : Nat) (u2 : Nat) (M : Mem) (s0 : Int32) : Option Mem := bd1 (f_X0_spread z u1 u2 M (M 50 12) s0 (imin s0 (M 50 13))) (fun M3 => some M3)
theorem t_X7_spreadCone_21 {K : KK} {a : AA} {u1 : Nat} (hu1 : vC u1) {u2 : Nat} (hu2 : vF a.1 u2) (S : Sx K RX7 cX7_spreadCone 5 (rmD 3))  {M' : Mem} (rt : RtV K a cX7_spreadCone M') (M : Mem) (s0 : Int32) (hf : f_X7_spreadCone_21 a.1 u1 u2 M s0 = some M') : Go K 5 a M 21 [(0, .ref (a.2 50)), (1, .ref (a.2 u1)), (2, .ref (a.2 u2))] [.int s0] := by
  unfold f_X7_spreadCone_21 at hf
  refine g_istore (lv' := [(4, .int s0), (0, .ref (a.2 50)), (1, .ref (a.2 u1)), (2, .ref (a.2 u2))]) S dX7_spreadCone_21 (by decide) rfl ?_
  refine g_aload_n 2 S dX7_spreadCone_23 rfl ?_
  refine g_aload_n 3 S dX7_spreadCone_24 rfl ?_
  refine g_aload_n 1 S dX7_spreadCone_25 rfl ?_
  refine g_get (v := .int (M 50 12)) S ob_50 rfl gi_X7 (by decide) lf_X7_65 rfl dX7_spreadCone_26 ?_
  refine g_iload 0 S dX7_spreadCone_29 rfl ?_
  refine g_iload 0 S dX7_spreadCone_31 rfl ?_
  refine g_aload_n 1 S dX7_spreadCone_33 rfl ?_
  refine g_get (v := .int (M 50 13)) S ob_50 rfl gi_X7 (by decide) lf_X7_68 rfl dX7_spreadCone_34 ?_
  refine g_mmin S lk_X7_272 (by decide) (Nat.le_of_ble_eq_true rfl) dX7_spreadCone_37 ?_
  obtain ⟨M3, hM3, hf⟩ := bd1_some hf
  refine g_cVV (st := []) S (ob_C hu1) rfl ok_X0_spread lk_X7_300 (c_X0_spread hu1 hu2 hM3) rfl rfl ⟨by decide, by decide⟩ (rmD_z _) (Nat.le_of_ble_eq_true rfl) dX7_spreadCone_40 ?_
  exact g_vretM rt hf dX7_spreadCone_43
def f_X7_spreadCone (z : Nat → Nat) (u1 : Nat) (u2 : Nat) (M : Mem) : Option Mem := bd1 (f_X7_lineAt z M (M u2 2)) (fun r1 => mq r1 (f_X7_spreadCone_21 z u1 u2 M 0) (fun n2 => f_X7_spreadCone_21 z u1 u2 M (M n2 0)))
theorem c_X7_spreadCone {l : Launch} {G : GG} {a : AA} {u1 : Nat} (hu1 : vC u1) {u2 : Nat} (hu2 : vF a.1 u2) {M : Mem}  {M' : Mem} (hf : f_X7_spreadCone a.1 u1 u2 M = some M') : CtV l G a yX7_spreadCone cX7_spreadCone 5 (rmD 3) [.ref (a.2 50), .ref (a.2 u1), .ref (a.2 u2)] M M' := by
  refine ct_V (by decide) rfl (own := RX7) (Nat.le_of_ble_eq_true rfl) (fun K hl hg S rt => ?_)
  subst hl; subst hg
  unfold f_X7_spreadCone at hf
  show Go K 5 a M 0 [(0, .ref (a.2 50)), (1, .ref (a.2 u1)), (2, .ref (a.2 u2))] []
  refine g_aload_n 0 S dX7_spreadCone_0 rfl ?_
  refine g_aload_n 2 S dX7_spreadCone_1 rfl ?_
  refine g_get (v := .int (M u2 2)) S (ob_F hu2) rfl gi_X1 (by decide) lf_X7_299 rfl dX7_spreadCone_2 ?_
  obtain ⟨r1, hr1, hf⟩ := bd1_some hf
  refine g_cVQ (st := []) S ob_50 rfl ok_X7_lineAt lk_X7_150 (c_X7_lineAt hr1) rfl rfl ⟨by decide, by decide⟩ (rmD_z _) (Nat.le_of_ble_eq_true rfl) dX7_spreadCone_5 ?_
  rcases r1 with _ | n2
  · have hf := mq_n hf
    refine Go.st (st' := [.null]) rfl ?_
    refine g_astore_nN (lv' := [(3, .null), (0, .ref (a.2 50)), (1, .ref (a.2 u1)), (2, .ref (a.2 u2))]) S dX7_spreadCone_8 (by decide) rfl ?_
    refine g_aload_nN 0 S dX7_spreadCone_9 rfl ?_
    refine g_ifnonnullN S dX7_spreadCone_10 ?_
    refine g_iconst (v := 0) S dX7_spreadCone_13 rfl ?_
    refine g_goto (tgt := 21) S dX7_spreadCone_14 (by decide) ?_
    refine Go.sub [1, 2, 3] rfl ?_
    exact t_X7_spreadCone_21 hu1 hu2 S rt _ _ hf
  · have hn2 := vd_X7_lineAt hr1
    have hf := mq_s hf
    refine Go.st (st' := [.ref (a.2 n2)]) rfl ?_
    refine g_astore_n (lv' := [(3, .ref (a.2 n2)), (0, .ref (a.2 50)), (1, .ref (a.2 u1)), (2, .ref (a.2 u2))]) S dX7_spreadCone_8 (by decide) rfl ?_
    refine g_aload_n 0 S dX7_spreadCone_9 rfl ?_
    refine g_ifnonnull (tgt := 17) S dX7_spreadCone_10 (by decide) ?_
    refine g_aload_n 0 S dX7_spreadCone_17 rfl ?_
    refine g_get (v := .int (M n2 0)) S (ob_L hn2) rfl gi_X3 (by decide) lf_X7_154 rfl dX7_spreadCone_18 ?_
    refine Go.sub [1, 2, 3] rfl ?_
    exact t_X7_spreadCone_21 hu1 hu2 S rt _ _ hf
-- BridleBook.isInTheWay(II)Z
theorem dX7_isInTheWay_0 : decode cX7_isInTheWay 0 = .ok (.aload_n 0, 1) := by decide +kernel
theorem dX7_isInTheWay_1 : decode cX7_isInTheWay 1 = .ok (.iload_n 2, 1) := by decide +kernel
theorem dX7_isInTheWay_2 : decode cX7_isInTheWay 2 = .ok (.invokevirtual 219, 3) := by decide +kernel
theorem dX7_isInTheWay_5 : decode cX7_isInTheWay 5 = .ok (.astore_n 3, 1) := by decide +kernel
theorem dX7_isInTheWay_6 : decode cX7_isInTheWay 6 = .ok (.aload_n 3, 1) := by decide +kernel
theorem dX7_isInTheWay_7 : decode cX7_isInTheWay 7 = .ok (.ifnull 24, 3) := by decide +kernel
theorem dX7_isInTheWay_10 : decode cX7_isInTheWay 10 = .ok (.aload_n 3, 1) := by decide +kernel
theorem dX7_isInTheWay_11 : decode cX7_isInTheWay 11 = .ok (.getfield 227, 3) := by decide +kernel
theorem dX7_isInTheWay_14 : decode cX7_isInTheWay 14 = .ok (.ifCond .eq 17, 3) := by decide +kernel
theorem dX7_isInTheWay_17 : decode cX7_isInTheWay 17 = .ok (.aload_n 0, 1) := by decide +kernel
theorem dX7_isInTheWay_18 : decode cX7_isInTheWay 18 = .ok (.getfield 55, 3) := by decide +kernel
theorem dX7_isInTheWay_21 : decode cX7_isInTheWay 21 = .ok (.iload_n 1, 1) := by decide +kernel
theorem dX7_isInTheWay_22 : decode cX7_isInTheWay 22 = .ok (.bipush 10, 2) := by decide +kernel
theorem dX7_isInTheWay_24 : decode cX7_isInTheWay 24 = .ok (.imul, 1) := by decide +kernel
theorem dX7_isInTheWay_25 : decode cX7_isInTheWay 25 = .ok (.iload_n 2, 1) := by decide +kernel
theorem dX7_isInTheWay_26 : decode cX7_isInTheWay 26 = .ok (.iadd, 1) := by decide +kernel
theorem dX7_isInTheWay_27 : decode cX7_isInTheWay 27 = .ok (.baload, 1) := by decide +kernel
theorem dX7_isInTheWay_28 : decode cX7_isInTheWay 28 = .ok (.ifCond .eq 5, 3) := by decide +kernel
theorem dX7_isInTheWay_31 : decode cX7_isInTheWay 31 = .ok (.iconst 0, 1) := by decide +kernel
theorem dX7_isInTheWay_32 : decode cX7_isInTheWay 32 = .ok (.ireturn, 1) := by decide +kernel
theorem dX7_isInTheWay_33 : decode cX7_isInTheWay 33 = .ok (.aload_n 0, 1) := by decide +kernel
theorem dX7_isInTheWay_34 : decode cX7_isInTheWay 34 = .ok (.aload_n 0, 1) := by decide +kernel
theorem dX7_isInTheWay_35 : decode cX7_isInTheWay 35 = .ok (.getfield 78, 3) := by decide +kernel
theorem dX7_isInTheWay_38 : decode cX7_isInTheWay 38 = .ok (.aload_n 3, 1) := by decide +kernel
theorem dX7_isInTheWay_39 : decode cX7_isInTheWay 39 = .ok (.invokevirtual 231, 3) := by decide +kernel
theorem dX7_isInTheWay_42 : decode cX7_isInTheWay 42 = .ok (.aload_n 0, 1) := by decide +kernel
theorem dX7_isInTheWay_43 : decode cX7_isInTheWay 43 = .ok (.getfield 74, 3) := by decide +kernel
theorem dX7_isInTheWay_46 : decode cX7_isInTheWay 46 = .ok (.aload_n 0, 1) := by decide +kernel
theorem dX7_isInTheWay_47 : decode cX7_isInTheWay 47 = .ok (.getfield 78, 3) := by decide +kernel
theorem dX7_isInTheWay_50 : decode cX7_isInTheWay 50 = .ok (.invokevirtual 307, 3) := by decide +kernel
theorem dX7_isInTheWay_53 : decode cX7_isInTheWay 53 = .ok (.ireturn, 1) := by decide +kernel
def f_X7_isInTheWay (z : Nat → Nat) (M : Mem) (p1 : Int32) (p2 : Int32) : Option (Bool × Mem) := bd1 (f_X7_flyerAt z M p2) (fun r1 => mq r1 (some (false, M)) (fun n2 => if (M n2 3) = 0 then some (false, M) else ck (inb ((p1 * 10) + p2) 100) (if (M 60 (Int32.toNatClampNeg ((p1 * 10) + p2))) = 0 then bd1 (f_X7_spreadCone z 66 n2 M) (fun M3 => bd1 (f_X0_meets z 65 66 M3) (fun r4 => some (r4, M3))) else some (false, M))))
theorem c_X7_isInTheWay {l : Launch} {G : GG} {a : AA} {M : Mem} {p1 : Int32} {p2 : Int32} {r : Bool} {M' : Mem} (hf : f_X7_isInTheWay a.1 M p1 p2 = some (r, M')) : CtI l G a yX7_isInTheWay cX7_isInTheWay 4 .boolean (rmD 4) [.ref (a.2 50), .int p1, .int p2] M (b2i r) M' := by
  refine ct_I (by decide) rfl (b2i_n _) (own := RX7) (Nat.le_of_ble_eq_true rfl) (fun K hl hg S rt => ?_)
  subst hl; subst hg
  unfold f_X7_isInTheWay at hf
  show Go K 4 a M 0 [(0, .ref (a.2 50)), (1, .int p1), (2, .int p2)] []
  refine g_aload_n 0 S dX7_isInTheWay_0 rfl ?_
  refine g_iload_n 2 S dX7_isInTheWay_1 rfl ?_
  obtain ⟨r1, hr1, hf⟩ := bd1_some hf
  refine g_cVQ (st := []) S ob_50 rfl ok_X7_flyerAt lk_X7_219 (c_X7_flyerAt hr1) rfl rfl ⟨by decide, by decide⟩ (rmD_z _) (Nat.le_of_ble_eq_true rfl) dX7_isInTheWay_2 ?_
  rcases r1 with _ | n2
  · have hf := mq_n hf
    refine Go.st (st' := [.null]) rfl ?_
    refine g_astore_nN (lv' := [(3, .null), (0, .ref (a.2 50)), (1, .int p1), (2, .int p2)]) S dX7_isInTheWay_5 (by decide) rfl ?_
    refine g_aload_nN 0 S dX7_isInTheWay_6 rfl ?_
    refine g_ifnullN (tgt := 31) S dX7_isInTheWay_7 (by decide) ?_
    refine g_iconst (v := 0) S dX7_isInTheWay_31 rfl ?_
    exact g_zretM rt hf dX7_isInTheWay_32 rfl
  · have hn2 := vd_X7_flyerAt hr1
    have hf := mq_s hf
    refine Go.st (st' := [.ref (a.2 n2)]) rfl ?_
    refine g_astore_n (lv' := [(3, .ref (a.2 n2)), (0, .ref (a.2 50)), (1, .int p1), (2, .int p2)]) S dX7_isInTheWay_5 (by decide) rfl ?_
    refine g_aload_n 0 S dX7_isInTheWay_6 rfl ?_
    refine g_ifnull S dX7_isInTheWay_7 ?_
    refine g_aload_n 0 S dX7_isInTheWay_10 rfl ?_
    refine g_get (v := .int (M n2 3)) S (ob_F hn2) rfl gi_X1 (by decide) lf_X7_227 rfl dX7_isInTheWay_11 ?_
    refine g_if_eq (tgt := 31) S dX7_isInTheWay_14 (by decide) hf (fun c hf => ?_) (fun c hf => ?_)
    · refine g_iconst (v := 0) S dX7_isInTheWay_31 rfl ?_
      exact g_zretM rt hf dX7_isInTheWay_32 rfl
    · refine g_aload_n 1 S dX7_isInTheWay_17 rfl ?_
      refine g_get (v := .ref (a.2 60)) S ob_50 rfl gi_X7 (by decide) lf_X7_55 rfl dX7_isInTheWay_18 ?_
      refine g_iload_n 2 S dX7_isInTheWay_21 rfl ?_
      refine g_bipush (v := 10) S dX7_isInTheWay_22 rfl ?_
      refine g_imul S dX7_isInTheWay_24 ?_
      refine g_iload_n 3 S dX7_isInTheWay_25 rfl ?_
      refine g_iadd S dX7_isInTheWay_26 ?_
      refine g_zald S za_60 dX7_isInTheWay_27 hf (fun hf => ?_)
      refine g_if_eq (tgt := 33) S dX7_isInTheWay_28 (by decide) hf (fun c hf => ?_) (fun c hf => ?_)
      · refine g_aload_n 1 S dX7_isInTheWay_33 rfl ?_
        refine g_aload_n 1 S dX7_isInTheWay_34 rfl ?_
        refine g_get (v := .ref (a.2 66)) S ob_50 rfl gi_X7 (by decide) lf_X7_78 rfl dX7_isInTheWay_35 ?_
        refine g_aload_n 0 S dX7_isInTheWay_38 rfl ?_
        obtain ⟨M3, hM3, hf⟩ := bd1_some hf
        refine g_cVV (st := []) S ob_50 rfl ok_X7_spreadCone lk_X7_231 (c_X7_spreadCone (Or.inr rfl) hn2 hM3) rfl rfl ⟨by decide, by decide⟩ (rmD_z _) (Nat.le_of_ble_eq_true rfl) dX7_isInTheWay_39 ?_
        refine g_aload_n 1 S dX7_isInTheWay_42 rfl ?_
        refine g_get (v := .ref (a.2 65)) S ob_50 rfl gi_X7 (by decide) lf_X7_74 rfl dX7_isInTheWay_43 ?_
        refine g_aload_n 1 S dX7_isInTheWay_46 rfl ?_
        refine g_get (v := .ref (a.2 66)) S ob_50 rfl gi_X7 (by decide) lf_X7_78 rfl dX7_isInTheWay_47 ?_
        obtain ⟨r4, hr4, hf⟩ := bd1_some hf
        refine g_cVI (st := []) S (ob_C (Or.inl rfl)) rfl ok_X0_meets lk_X7_307 (c_X0_meets (Or.inl rfl) (Or.inr rfl) hr4) rfl rfl ⟨by decide, by decide⟩ (rmD_z _) (Nat.le_of_ble_eq_true rfl) dX7_isInTheWay_50 ?_
        exact g_zretM rt hf dX7_isInTheWay_53 rfl
      · refine g_iconst (v := 0) S dX7_isInTheWay_31 rfl ?_
        exact g_zretM rt hf dX7_isInTheWay_32 rfl
-- BridleBook.reasonAgainst(ILBridleBook$Flyer;)I
theorem dX7_reasonAgainst_0 : decode cX7_reasonAgainst 0 = .ok (.aload_n 0, 1) := by decide +kernel
theorem dX7_reasonAgainst_1 : decode cX7_reasonAgainst 1 = .ok (.aload_n 0, 1) := by decide +kernel
theorem dX7_reasonAgainst_2 : decode cX7_reasonAgainst 2 = .ok (.getfield 74, 3) := by decide +kernel
theorem dX7_reasonAgainst_5 : decode cX7_reasonAgainst 5 = .ok (.aload_n 2, 1) := by decide +kernel
theorem dX7_reasonAgainst_6 : decode cX7_reasonAgainst 6 = .ok (.invokevirtual 231, 3) := by decide +kernel
theorem dX7_reasonAgainst_9 : decode cX7_reasonAgainst 9 = .ok (.iconst 0, 1) := by decide +kernel
theorem dX7_reasonAgainst_10 : decode cX7_reasonAgainst 10 = .ok (.istore_n 3, 1) := by decide +kernel
theorem dX7_reasonAgainst_11 : decode cX7_reasonAgainst 11 = .ok (.iload_n 3, 1) := by decide +kernel
theorem dX7_reasonAgainst_12 : decode cX7_reasonAgainst 12 = .ok (.aload_n 0, 1) := by decide +kernel
theorem dX7_reasonAgainst_13 : decode cX7_reasonAgainst 13 = .ok (.getfield 62, 3) := by decide +kernel
theorem dX7_reasonAgainst_16 : decode cX7_reasonAgainst 16 = .ok (.if_icmp .ge 27, 3) := by decide +kernel
theorem dX7_reasonAgainst_19 : decode cX7_reasonAgainst 19 = .ok (.aload_n 0, 1) := by decide +kernel
theorem dX7_reasonAgainst_20 : decode cX7_reasonAgainst 20 = .ok (.getfield 74, 3) := by decide +kernel
theorem dX7_reasonAgainst_23 : decode cX7_reasonAgainst 23 = .ok (.aload_n 0, 1) := by decide +kernel
theorem dX7_reasonAgainst_24 : decode cX7_reasonAgainst 24 = .ok (.getfield 59, 3) := by decide +kernel
theorem dX7_reasonAgainst_27 : decode cX7_reasonAgainst 27 = .ok (.iload_n 3, 1) := by decide +kernel
theorem dX7_reasonAgainst_28 : decode cX7_reasonAgainst 28 = .ok (.iaload, 1) := by decide +kernel
theorem dX7_reasonAgainst_29 : decode cX7_reasonAgainst 29 = .ok (.invokevirtual 235, 3) := by decide +kernel
theorem dX7_reasonAgainst_32 : decode cX7_reasonAgainst 32 = .ok (.ifCond .eq 5, 3) := by decide +kernel
theorem dX7_reasonAgainst_35 : decode cX7_reasonAgainst 35 = .ok (.iconst 1, 1) := by decide +kernel
theorem dX7_reasonAgainst_36 : decode cX7_reasonAgainst 36 = .ok (.ireturn, 1) := by decide +kernel
theorem dX7_reasonAgainst_37 : decode cX7_reasonAgainst 37 = .ok (.iinc 3 1, 3) := by decide +kernel
theorem dX7_reasonAgainst_40 : decode cX7_reasonAgainst 40 = .ok (.goto (-29), 3) := by decide +kernel
theorem dX7_reasonAgainst_43 : decode cX7_reasonAgainst 43 = .ok (.iconst 0, 1) := by decide +kernel
theorem dX7_reasonAgainst_44 : decode cX7_reasonAgainst 44 = .ok (.istore_n 3, 1) := by decide +kernel
theorem dX7_reasonAgainst_45 : decode cX7_reasonAgainst 45 = .ok (.iload_n 3, 1) := by decide +kernel
theorem dX7_reasonAgainst_46 : decode cX7_reasonAgainst 46 = .ok (.aload_n 0, 1) := by decide +kernel
theorem dX7_reasonAgainst_47 : decode cX7_reasonAgainst 47 = .ok (.getfield 52, 3) := by decide +kernel
theorem dX7_reasonAgainst_50 : decode cX7_reasonAgainst 50 = .ok (.if_icmp .ge 25, 3) := by decide +kernel
theorem dX7_reasonAgainst_53 : decode cX7_reasonAgainst 53 = .ok (.iload_n 3, 1) := by decide +kernel
theorem dX7_reasonAgainst_54 : decode cX7_reasonAgainst 54 = .ok (.iload_n 1, 1) := by decide +kernel
theorem dX7_reasonAgainst_55 : decode cX7_reasonAgainst 55 = .ok (.if_icmp .eq 14, 3) := by decide +kernel
theorem dX7_reasonAgainst_58 : decode cX7_reasonAgainst 58 = .ok (.aload_n 0, 1) := by decide +kernel
theorem dX7_reasonAgainst_59 : decode cX7_reasonAgainst 59 = .ok (.iload_n 1, 1) := by decide +kernel
theorem dX7_reasonAgainst_60 : decode cX7_reasonAgainst 60 = .ok (.iload_n 3, 1) := by decide +kernel
theorem dX7_reasonAgainst_61 : decode cX7_reasonAgainst 61 = .ok (.invokevirtual 304, 3) := by decide +kernel
theorem dX7_reasonAgainst_64 : decode cX7_reasonAgainst 64 = .ok (.ifCond .eq 5, 3) := by decide +kernel
theorem dX7_reasonAgainst_67 : decode cX7_reasonAgainst 67 = .ok (.iconst 2, 1) := by decide +kernel
theorem dX7_reasonAgainst_68 : decode cX7_reasonAgainst 68 = .ok (.ireturn, 1) := by decide +kernel
theorem dX7_reasonAgainst_69 : decode cX7_reasonAgainst 69 = .ok (.iinc 3 1, 3) := by decide +kernel
theorem dX7_reasonAgainst_72 : decode cX7_reasonAgainst 72 = .ok (.goto (-27), 3) := by decide +kernel
theorem dX7_reasonAgainst_75 : decode cX7_reasonAgainst 75 = .ok (.iconst 0, 1) := by decide +kernel
theorem dX7_reasonAgainst_76 : decode cX7_reasonAgainst 76 = .ok (.ireturn, 1) := by decide +kernel
def f_X7_reasonAgainst_45 (z : Nat → Nat) (u2 : Nat) : Nat → Mem → Int32 → Int32 → Option (Int32 × Mem)
  | 0, _, _, _ => none
  | fu + 1, M, x1, x3 => if (M 50 8) ≤ x3 then some (0, M) else if x3 = x1 then f_X7_reasonAgainst_45 z u2 fu M x1 (x3 + 1) else bd2 (f_X7_isInTheWay z M x1 x3) (fun r2 M3 => if r2 = true then some (2, M3) else f_X7_reasonAgainst_45 z u2 fu M3 x1 (x3 + 1))
theorem t_X7_reasonAgainst_45 {K : KK} {a : AA} {u2 : Nat} (hu2 : vF a.1 u2) (S : Sx K RX7 cX7_reasonAgainst 4 (rmD 5)) {r : Int32} {M' : Mem} (rt : RtI K a cX7_reasonAgainst r M') : ∀ (fu : Nat) (M : Mem) (x1 : Int32) (x3 : Int32), f_X7_reasonAgainst_45 a.1 u2 fu M x1 x3 = some (r, M') → Go K 4 a M 45 [(0, .ref (a.2 50)), (1, .int x1), (3, .int x3)] [] := by
  intro fu
  induction fu with
  | zero => intro M x1 x3 hf; exact absurd hf (by simp [f_X7_reasonAgainst_45])
  | succ fu ih =>
    intro M x1 x3 hf
    rw [f_X7_reasonAgainst_45] at hf
    refine g_iload_n 2 S dX7_reasonAgainst_45 rfl ?_
    refine g_aload_n 0 S dX7_reasonAgainst_46 rfl ?_
    refine g_get (v := .int (M 50 8)) S ob_50 rfl gi_X7 (by decide) lf_X7_52 rfl dX7_reasonAgainst_47 ?_
    refine g_icmp_ge (tgt := 75) S dX7_reasonAgainst_50 (by decide) hf (fun c hf => ?_) (fun c hf => ?_)
    · refine g_iconst (v := 0) S dX7_reasonAgainst_75 rfl ?_
      exact g_iretM rt hf dX7_reasonAgainst_76
    · refine g_iload_n 2 S dX7_reasonAgainst_53 rfl ?_
      refine g_iload_n 1 S dX7_reasonAgainst_54 rfl ?_
      refine g_icmp_eq (tgt := 69) S dX7_reasonAgainst_55 (by decide) hf (fun c hf => ?_) (fun c hf => ?_)
      · refine g_iinc (v := (x3 + 1)) (lv' := [(3, .int (x3 + 1)), (0, .ref (a.2 50)), (1, .int x1)]) 2 S dX7_reasonAgainst_69 rfl rfl (by decide) rfl ?_
        refine g_goto (tgt := 45) S dX7_reasonAgainst_72 (by decide) ?_
        refine Go.sub [1, 2, 0] rfl ?_
        exact ih _ _ _ hf
      · refine g_aload_n 0 S dX7_reasonAgainst_58 rfl ?_
        refine g_iload_n 1 S dX7_reasonAgainst_59 rfl ?_
        refine g_iload_n 2 S dX7_reasonAgainst_60 rfl ?_
        obtain ⟨r2, M3, hr2, hf⟩ := bd2_some hf
        refine g_cVI (st := []) S ob_50 rfl ok_X7_isInTheWay lk_X7_304 (c_X7_isInTheWay hr2) rfl rfl ⟨by decide, by decide⟩ (rmD_z _) (Nat.le_of_ble_eq_true rfl) dX7_reasonAgainst_61 ?_
        refine g_if_eqB (tgt := 69) S dX7_reasonAgainst_64 (by decide) hf (fun c hf => ?_) (fun c hf => ?_)
        · refine g_iconst (v := 2) S dX7_reasonAgainst_67 rfl ?_
          exact g_iretM rt hf dX7_reasonAgainst_68
        · refine g_iinc (v := (x3 + 1)) (lv' := [(3, .int (x3 + 1)), (0, .ref (a.2 50)), (1, .int x1)]) 2 S dX7_reasonAgainst_69 rfl rfl (by decide) rfl ?_
          refine g_goto (tgt := 45) S dX7_reasonAgainst_72 (by decide) ?_
          refine Go.sub [1, 2, 0] rfl ?_
          exact ih _ _ _ hf
def f_X7_reasonAgainst_11 (z : Nat → Nat) (u2 : Nat) : Nat → Mem → Int32 → Int32 → Option (Int32 × Mem)
  | 0, _, _, _ => none
  | fu + 1, M, x1, x3 => if (M 50 11) ≤ x3 then f_X7_reasonAgainst_45 z u2 1000 M x1 0 else ck (inb x3 20) (bd1 (f_X0_holds z 65 M (M 61 (Int32.toNatClampNeg x3))) (fun r4 => if r4 = true then some (1, M) else f_X7_reasonAgainst_11 z u2 fu M x1 (x3 + 1)))
theorem t_X7_reasonAgainst_11 {K : KK} {a : AA} {u2 : Nat} (hu2 : vF a.1 u2) (S : Sx K RX7 cX7_reasonAgainst 4 (rmD 5)) {r : Int32} {M' : Mem} (rt : RtI K a cX7_reasonAgainst r M') : ∀ (fu : Nat) (M : Mem) (x1 : Int32) (x3 : Int32), f_X7_reasonAgainst_11 a.1 u2 fu M x1 x3 = some (r, M') → Go K 4 a M 11 [(0, .ref (a.2 50)), (1, .int x1), (3, .int x3)] [] := by
  intro fu
  induction fu with
  | zero => intro M x1 x3 hf; exact absurd hf (by simp [f_X7_reasonAgainst_11])
  | succ fu ih =>
    intro M x1 x3 hf
    rw [f_X7_reasonAgainst_11] at hf
    refine g_iload_n 2 S dX7_reasonAgainst_11 rfl ?_
    refine g_aload_n 0 S dX7_reasonAgainst_12 rfl ?_
    refine g_get (v := .int (M 50 11)) S ob_50 rfl gi_X7 (by decide) lf_X7_62 rfl dX7_reasonAgainst_13 ?_
    refine g_icmp_ge (tgt := 43) S dX7_reasonAgainst_16 (by decide) hf (fun c hf => ?_) (fun c hf => ?_)
    · refine g_iconst (v := 0) S dX7_reasonAgainst_43 rfl ?_
      refine g_istore_n (lv' := [(3, .int 0), (0, .ref (a.2 50)), (1, .int x1)]) S dX7_reasonAgainst_44 (by decide) rfl ?_
      refine Go.sub [1, 2, 0] rfl ?_
      exact t_X7_reasonAgainst_45 hu2 S rt 1000 _ _ _ hf
    · refine g_aload_n 0 S dX7_reasonAgainst_19 rfl ?_
      refine g_get (v := .ref (a.2 65)) S ob_50 rfl gi_X7 (by decide) lf_X7_74 rfl dX7_reasonAgainst_20 ?_
      refine g_aload_n 0 S dX7_reasonAgainst_23 rfl ?_
      refine g_get (v := .ref (a.2 61)) S ob_50 rfl gi_X7 (by decide) lf_X7_59 rfl dX7_reasonAgainst_24 ?_
      refine g_iload_n 2 S dX7_reasonAgainst_27 rfl ?_
      refine g_iald S ia_61 dX7_reasonAgainst_28 hf (fun hf => ?_)
      obtain ⟨r4, hr4, hf⟩ := bd1_some hf
      refine g_cVI (st := []) S (ob_C (Or.inl rfl)) rfl ok_X0_holds lk_X7_235 (c_X0_holds (Or.inl rfl) hr4) rfl rfl ⟨by decide, by decide⟩ (rmD_z _) (Nat.le_of_ble_eq_true rfl) dX7_reasonAgainst_29 ?_
      refine g_if_eqB (tgt := 37) S dX7_reasonAgainst_32 (by decide) hf (fun c hf => ?_) (fun c hf => ?_)
      · refine g_iconst (v := 1) S dX7_reasonAgainst_35 rfl ?_
        exact g_iretM rt hf dX7_reasonAgainst_36
      · refine g_iinc (v := (x3 + 1)) (lv' := [(3, .int (x3 + 1)), (0, .ref (a.2 50)), (1, .int x1)]) 2 S dX7_reasonAgainst_37 rfl rfl (by decide) rfl ?_
        refine g_goto (tgt := 11) S dX7_reasonAgainst_40 (by decide) ?_
        refine Go.sub [1, 2, 0] rfl ?_
        exact ih _ _ _ hf
def f_X7_reasonAgainst (z : Nat → Nat) (u2 : Nat) (M : Mem) (p1 : Int32) : Option (Int32 × Mem) := bd1 (f_X7_spreadCone z 65 u2 M) (fun M1 => f_X7_reasonAgainst_11 z u2 1000 M1 p1 0)
theorem c_X7_reasonAgainst {l : Launch} {G : GG} {a : AA} {u2 : Nat} (hu2 : vF a.1 u2) {M : Mem} {p1 : Int32} {r : Int32} {M' : Mem} (hf : f_X7_reasonAgainst a.1 u2 M p1 = some (r, M')) : CtI l G a yX7_reasonAgainst cX7_reasonAgainst 4 .int (rmD 5) [.ref (a.2 50), .int p1, .ref (a.2 u2)] M r M' := by
  refine ct_I (by decide) rfl rfl (own := RX7) (Nat.le_of_ble_eq_true rfl) (fun K hl hg S rt => ?_)
  subst hl; subst hg
  unfold f_X7_reasonAgainst at hf
  show Go K 4 a M 0 [(0, .ref (a.2 50)), (1, .int p1), (2, .ref (a.2 u2))] []
  refine g_aload_n 0 S dX7_reasonAgainst_0 rfl ?_
  refine g_aload_n 0 S dX7_reasonAgainst_1 rfl ?_
  refine g_get (v := .ref (a.2 65)) S ob_50 rfl gi_X7 (by decide) lf_X7_74 rfl dX7_reasonAgainst_2 ?_
  refine g_aload_n 2 S dX7_reasonAgainst_5 rfl ?_
  obtain ⟨M1, hM1, hf⟩ := bd1_some hf
  refine g_cVV (st := []) S ob_50 rfl ok_X7_spreadCone lk_X7_231 (c_X7_spreadCone (Or.inl rfl) hu2 hM1) rfl rfl ⟨by decide, by decide⟩ (rmD_z _) (Nat.le_of_ble_eq_true rfl) dX7_reasonAgainst_6 ?_
  refine g_iconst (v := 0) S dX7_reasonAgainst_9 rfl ?_
  refine g_istore_n (lv' := [(3, .int 0), (0, .ref (a.2 50)), (1, .int p1), (2, .ref (a.2 u2))]) S dX7_reasonAgainst_10 (by decide) rfl ?_
  refine Go.sub [1, 2, 0] rfl ?_
  exact t_X7_reasonAgainst_11 hu2 S rt 1000 _ _ _ hf
-- BridleBook.fly(II)I
theorem dX7_fly_0 : decode cX7_fly 0 = .ok (.aload_n 0, 1) := by decide +kernel
theorem dX7_fly_1 : decode cX7_fly 1 = .ok (.iload_n 1, 1) := by decide +kernel
theorem dX7_fly_2 : decode cX7_fly 2 = .ok (.invokevirtual 219, 3) := by decide +kernel
theorem dX7_fly_5 : decode cX7_fly 5 = .ok (.astore_n 3, 1) := by decide +kernel
theorem dX7_fly_6 : decode cX7_fly 6 = .ok (.aload_n 3, 1) := by decide +kernel
theorem dX7_fly_7 : decode cX7_fly 7 = .ok (.ifnull 12, 3) := by decide +kernel
theorem dX7_fly_10 : decode cX7_fly 10 = .ok (.iload_n 2, 1) := by decide +kernel
theorem dX7_fly_11 : decode cX7_fly 11 = .ok (.iconst 0, 1) := by decide +kernel
theorem dX7_fly_12 : decode cX7_fly 12 = .ok (.iconst 1, 1) := by decide +kernel
theorem dX7_fly_13 : decode cX7_fly 13 = .ok (.invokestatic 99, 3) := by decide +kernel
theorem dX7_fly_16 : decode cX7_fly 16 = .ok (.ifCond .ne 5, 3) := by decide +kernel
theorem dX7_fly_19 : decode cX7_fly 19 = .ok (.iconst (-1), 1) := by decide +kernel
theorem dX7_fly_20 : decode cX7_fly 20 = .ok (.ireturn, 1) := by decide +kernel
theorem dX7_fly_21 : decode cX7_fly 21 = .ok (.iload_n 2, 1) := by decide +kernel
theorem dX7_fly_22 : decode cX7_fly 22 = .ok (.iconst 1, 1) := by decide +kernel
theorem dX7_fly_23 : decode cX7_fly 23 = .ok (.if_icmp .ne 22, 3) := by decide +kernel
theorem dX7_fly_26 : decode cX7_fly 26 = .ok (.aload_n 0, 1) := by decide +kernel
theorem dX7_fly_27 : decode cX7_fly 27 = .ok (.iload_n 1, 1) := by decide +kernel
theorem dX7_fly_28 : decode cX7_fly 28 = .ok (.aload_n 3, 1) := by decide +kernel
theorem dX7_fly_29 : decode cX7_fly 29 = .ok (.invokevirtual 223, 3) := by decide +kernel
theorem dX7_fly_32 : decode cX7_fly 32 = .ok (.istore 4, 2) := by decide +kernel
theorem dX7_fly_34 : decode cX7_fly 34 = .ok (.iload 4, 2) := by decide +kernel
theorem dX7_fly_36 : decode cX7_fly 36 = .ok (.ifCond .eq 9, 3) := by decide +kernel
theorem dX7_fly_39 : decode cX7_fly 39 = .ok (.bipush (-10), 2) := by decide +kernel
theorem dX7_fly_41 : decode cX7_fly 41 = .ok (.iload 4, 2) := by decide +kernel
theorem dX7_fly_43 : decode cX7_fly 43 = .ok (.isub, 1) := by decide +kernel
theorem dX7_fly_44 : decode cX7_fly 44 = .ok (.ireturn, 1) := by decide +kernel
theorem dX7_fly_45 : decode cX7_fly 45 = .ok (.aload_n 3, 1) := by decide +kernel
theorem dX7_fly_46 : decode cX7_fly 46 = .ok (.iload_n 2, 1) := by decide +kernel
theorem dX7_fly_47 : decode cX7_fly 47 = .ok (.iconst 1, 1) := by decide +kernel
theorem dX7_fly_48 : decode cX7_fly 48 = .ok (.if_icmp .ne 7, 3) := by decide +kernel
theorem dX7_fly_51 : decode cX7_fly 51 = .ok (.iconst 1, 1) := by decide +kernel
theorem dX7_fly_52 : decode cX7_fly 52 = .ok (.goto 4, 3) := by decide +kernel
theorem dX7_fly_55 : decode cX7_fly 55 = .ok (.iconst 0, 1) := by decide +kernel
theorem dX7_fly_56 : decode cX7_fly 56 = .ok (.putfield 227, 3) := by decide +kernel
theorem dX7_fly_59 : decode cX7_fly 59 = .ok (.iconst 1, 1) := by decide +kernel
theorem dX7_fly_60 : decode cX7_fly 60 = .ok (.ireturn, 1) := by decide +kernel
def f_X7_fly_45 (z : Nat → Nat) (n2 : Nat) (M : Mem) (x2 : Int32) : Option (Int32 × Mem) := if x2 = 1 then some (1, (mu M n2 3 1)) else some (1, (mu M n2 3 0))
theorem t_X7_fly_45 {K : KK} {a : AA} {n2 : Nat} (hn2 : vF a.1 n2) (S : Sx K RX7 cX7_fly 5 (rmD 6)) {r : Int32} {M' : Mem} (rt : RtI K a cX7_fly r M') (M : Mem) (x2 : Int32) (hf : f_X7_fly_45 a.1 n2 M x2 = some (r, M')) : Go K 5 a M 45 [(2, .int x2), (3, .ref (a.2 n2))] [] := by
  unfold f_X7_fly_45 at hf
  refine g_aload_n 1 S dX7_fly_45 rfl ?_
  refine g_iload_n 0 S dX7_fly_46 rfl ?_
  refine g_iconst (v := 1) S dX7_fly_47 rfl ?_
  refine g_icmp_ne (tgt := 55) S dX7_fly_48 (by decide) hf (fun c hf => ?_) (fun c hf => ?_)
  · refine g_iconst (v := 1) S dX7_fly_51 rfl ?_
    refine g_goto (tgt := 56) S dX7_fly_52 (by decide) ?_
    refine g_put (ty := .boolean) S (ob_F hn2) rfl gi_X1 tyX1_ok nmX1 (by decide) lf_X7_227 rfl (by decide +kernel) rfl rfl (Nat.le_of_ble_eq_true rfl) rfl dX7_fly_56 ?_
    refine g_iconst (v := 1) S dX7_fly_59 rfl ?_
    exact g_iretM rt hf dX7_fly_60
  · refine g_iconst (v := 0) S dX7_fly_55 rfl ?_
    refine g_put (ty := .boolean) S (ob_F hn2) rfl gi_X1 tyX1_ok nmX1 (by decide) lf_X7_227 rfl (by decide +kernel) rfl rfl (Nat.le_of_ble_eq_true rfl) rfl dX7_fly_56 ?_
    refine g_iconst (v := 1) S dX7_fly_59 rfl ?_
    exact g_iretM rt hf dX7_fly_60
def f_X7_fly (z : Nat → Nat) (M : Mem) (p1 : Int32) (p2 : Int32) : Option (Int32 × Mem) := bd1 (f_X7_flyerAt z M p1) (fun r1 => mq r1 (some ((-1), M)) (fun n2 => bd1 (f_X7_within z M p2 0 1) (fun r3 => if r3 = true then if p2 = 1 then bd2 (f_X7_reasonAgainst z n2 M p1) (fun r4 M5 => if r4 = 0 then f_X7_fly_45 z n2 M5 p2 else some (((-10) - r4), M5)) else f_X7_fly_45 z n2 M p2 else some ((-1), M))))
theorem c_X7_fly {l : Launch} {G : GG} {a : AA} {M : Mem} {p1 : Int32} {p2 : Int32} {r : Int32} {M' : Mem} (hf : f_X7_fly a.1 M p1 p2 = some (r, M')) : CtI l G a yX7_fly cX7_fly 5 .int (rmD 6) [.ref (a.2 50), .int p1, .int p2] M r M' := by
  refine ct_I (by decide) rfl rfl (own := RX7) (Nat.le_of_ble_eq_true rfl) (fun K hl hg S rt => ?_)
  subst hl; subst hg
  unfold f_X7_fly at hf
  show Go K 5 a M 0 [(0, .ref (a.2 50)), (1, .int p1), (2, .int p2)] []
  refine g_aload_n 0 S dX7_fly_0 rfl ?_
  refine g_iload_n 1 S dX7_fly_1 rfl ?_
  obtain ⟨r1, hr1, hf⟩ := bd1_some hf
  refine g_cVQ (st := []) S ob_50 rfl ok_X7_flyerAt lk_X7_219 (c_X7_flyerAt hr1) rfl rfl ⟨by decide, by decide⟩ (rmD_z _) (Nat.le_of_ble_eq_true rfl) dX7_fly_2 ?_
  rcases r1 with _ | n2
  · have hf := mq_n hf
    refine Go.st (st' := [.null]) rfl ?_
    refine g_astore_nN (lv' := [(3, .null), (0, .ref (a.2 50)), (1, .int p1), (2, .int p2)]) S dX7_fly_5 (by decide) rfl ?_
    refine g_aload_nN 0 S dX7_fly_6 rfl ?_
    refine g_ifnullN (tgt := 19) S dX7_fly_7 (by decide) ?_
    refine g_iconst (v := (-1)) S dX7_fly_19 rfl ?_
    exact g_iretM rt hf dX7_fly_20
  · have hn2 := vd_X7_flyerAt hr1
    have hf := mq_s hf
    refine Go.st (st' := [.ref (a.2 n2)]) rfl ?_
    refine g_astore_n (lv' := [(3, .ref (a.2 n2)), (0, .ref (a.2 50)), (1, .int p1), (2, .int p2)]) S dX7_fly_5 (by decide) rfl ?_
    refine g_aload_n 0 S dX7_fly_6 rfl ?_
    refine g_ifnull S dX7_fly_7 ?_
    refine g_iload_n 3 S dX7_fly_10 rfl ?_
    refine g_iconst (v := 0) S dX7_fly_11 rfl ?_
    refine g_iconst (v := 1) S dX7_fly_12 rfl ?_
    obtain ⟨r3, hr3, hf⟩ := bd1_some hf
    refine g_cSI (st := []) S ok_X7_within lk_X7_99 (c_X7_within hr3) rfl rfl ⟨by decide, by decide⟩ (rmD_z _) (Nat.le_of_ble_eq_true rfl) dX7_fly_13 ?_
    refine g_if_neB (tgt := 21) S dX7_fly_16 (by decide) hf (fun c hf => ?_) (fun c hf => ?_)
    · refine g_iload_n 3 S dX7_fly_21 rfl ?_
      refine g_iconst (v := 1) S dX7_fly_22 rfl ?_
      refine g_icmp_ne (tgt := 45) S dX7_fly_23 (by decide) hf (fun c hf => ?_) (fun c hf => ?_)
      · refine g_aload_n 1 S dX7_fly_26 rfl ?_
        refine g_iload_n 2 S dX7_fly_27 rfl ?_
        refine g_aload_n 0 S dX7_fly_28 rfl ?_
        obtain ⟨r4, M5, hr4, hf⟩ := bd2_some hf
        refine g_cVI (st := []) S ob_50 rfl ok_X7_reasonAgainst lk_X7_223 (c_X7_reasonAgainst hn2 hr4) rfl rfl ⟨by decide, by decide⟩ (rmD_z _) (Nat.le_of_ble_eq_true rfl) dX7_fly_29 ?_
        refine g_istore (lv' := [(4, .int r4), (3, .ref (a.2 n2)), (0, .ref (a.2 50)), (1, .int p1), (2, .int p2)]) S dX7_fly_32 (by decide) rfl ?_
        refine g_iload 0 S dX7_fly_34 rfl ?_
        refine g_if_eq (tgt := 45) S dX7_fly_36 (by decide) hf (fun c hf => ?_) (fun c hf => ?_)
        · refine Go.sub [4, 1] rfl ?_
          exact t_X7_fly_45 hn2 S rt _ _ hf
        · refine g_bipush (v := (-10)) S dX7_fly_39 rfl ?_
          refine g_iload 0 S dX7_fly_41 rfl ?_
          refine g_isub S dX7_fly_43 ?_
          exact g_iretM rt hf dX7_fly_44
      · refine Go.sub [3, 0] rfl ?_
        exact t_X7_fly_45 hn2 S rt _ _ hf
    · refine g_iconst (v := (-1)) S dX7_fly_19 rfl ?_
      exact g_iretM rt hf dX7_fly_20
-- BridleBook.why(I)I
theorem dX7_why_0 : decode cX7_why 0 = .ok (.aload_n 0, 1) := by decide +kernel
theorem dX7_why_1 : decode cX7_why 1 = .ok (.iload_n 1, 1) := by decide +kernel
theorem dX7_why_2 : decode cX7_why 2 = .ok (.invokevirtual 219, 3) := by decide +kernel
theorem dX7_why_5 : decode cX7_why 5 = .ok (.astore_n 2, 1) := by decide +kernel
theorem dX7_why_6 : decode cX7_why 6 = .ok (.aload_n 2, 1) := by decide +kernel
theorem dX7_why_7 : decode cX7_why 7 = .ok (.ifnonnull 7, 3) := by decide +kernel
theorem dX7_why_10 : decode cX7_why 10 = .ok (.iconst (-1), 1) := by decide +kernel
theorem dX7_why_11 : decode cX7_why 11 = .ok (.goto 9, 3) := by decide +kernel
theorem dX7_why_14 : decode cX7_why 14 = .ok (.aload_n 0, 1) := by decide +kernel
theorem dX7_why_15 : decode cX7_why 15 = .ok (.iload_n 1, 1) := by decide +kernel
theorem dX7_why_16 : decode cX7_why 16 = .ok (.aload_n 2, 1) := by decide +kernel
theorem dX7_why_17 : decode cX7_why 17 = .ok (.invokevirtual 223, 3) := by decide +kernel
theorem dX7_why_20 : decode cX7_why 20 = .ok (.ireturn, 1) := by decide +kernel
def f_X7_why (z : Nat → Nat) (M : Mem) (p1 : Int32) : Option (Int32 × Mem) := bd1 (f_X7_flyerAt z M p1) (fun r1 => mq r1 (some ((-1), M)) (fun n2 => bd2 (f_X7_reasonAgainst z n2 M p1) (fun r3 M4 => some (r3, M4))))
theorem c_X7_why {l : Launch} {G : GG} {a : AA} {M : Mem} {p1 : Int32} {r : Int32} {M' : Mem} (hf : f_X7_why a.1 M p1 = some (r, M')) : CtI l G a yX7_why cX7_why 3 .int (rmD 6) [.ref (a.2 50), .int p1] M r M' := by
  refine ct_I (by decide) rfl rfl (own := RX7) (Nat.le_of_ble_eq_true rfl) (fun K hl hg S rt => ?_)
  subst hl; subst hg
  unfold f_X7_why at hf
  show Go K 3 a M 0 [(0, .ref (a.2 50)), (1, .int p1)] []
  refine g_aload_n 0 S dX7_why_0 rfl ?_
  refine g_iload_n 1 S dX7_why_1 rfl ?_
  obtain ⟨r1, hr1, hf⟩ := bd1_some hf
  refine g_cVQ (st := []) S ob_50 rfl ok_X7_flyerAt lk_X7_219 (c_X7_flyerAt hr1) rfl rfl ⟨by decide, by decide⟩ (rmD_z _) (Nat.le_of_ble_eq_true rfl) dX7_why_2 ?_
  rcases r1 with _ | n2
  · have hf := mq_n hf
    refine Go.st (st' := [.null]) rfl ?_
    refine g_astore_nN (lv' := [(2, .null), (0, .ref (a.2 50)), (1, .int p1)]) S dX7_why_5 (by decide) rfl ?_
    refine g_aload_nN 0 S dX7_why_6 rfl ?_
    refine g_ifnonnullN S dX7_why_7 ?_
    refine g_iconst (v := (-1)) S dX7_why_10 rfl ?_
    refine g_goto (tgt := 20) S dX7_why_11 (by decide) ?_
    exact g_iretM rt hf dX7_why_20
  · have hn2 := vd_X7_flyerAt hr1
    have hf := mq_s hf
    refine Go.st (st' := [.ref (a.2 n2)]) rfl ?_
    refine g_astore_n (lv' := [(2, .ref (a.2 n2)), (0, .ref (a.2 50)), (1, .int p1)]) S dX7_why_5 (by decide) rfl ?_
    refine g_aload_n 0 S dX7_why_6 rfl ?_
    refine g_ifnonnull (tgt := 14) S dX7_why_7 (by decide) ?_
    refine g_aload_n 1 S dX7_why_14 rfl ?_
    refine g_iload_n 2 S dX7_why_15 rfl ?_
    refine g_aload_n 0 S dX7_why_16 rfl ?_
    obtain ⟨r3, M4, hr3, hf⟩ := bd2_some hf
    refine g_cVI (st := []) S ob_50 rfl ok_X7_reasonAgainst lk_X7_223 (c_X7_reasonAgainst hn2 hr3) rfl rfl ⟨by decide, by decide⟩ (rmD_z _) (Nat.le_of_ble_eq_true rfl) dX7_why_17 ?_
    exact g_iretM rt hf dX7_why_20
-- BridleBook.cone(II)I
theorem dX7_cone_0 : decode cX7_cone 0 = .ok (.aload_n 0, 1) := by decide +kernel
theorem dX7_cone_1 : decode cX7_cone 1 = .ok (.iload_n 1, 1) := by decide +kernel
theorem dX7_cone_2 : decode cX7_cone 2 = .ok (.invokevirtual 219, 3) := by decide +kernel
theorem dX7_cone_5 : decode cX7_cone 5 = .ok (.astore_n 3, 1) := by decide +kernel
theorem dX7_cone_6 : decode cX7_cone 6 = .ok (.aload_n 3, 1) := by decide +kernel
theorem dX7_cone_7 : decode cX7_cone 7 = .ok (.ifnull 10, 3) := by decide +kernel
theorem dX7_cone_10 : decode cX7_cone 10 = .ok (.iload_n 2, 1) := by decide +kernel
theorem dX7_cone_11 : decode cX7_cone 11 = .ok (.invokestatic 209, 3) := by decide +kernel
theorem dX7_cone_14 : decode cX7_cone 14 = .ok (.ifCond .ne 5, 3) := by decide +kernel
theorem dX7_cone_17 : decode cX7_cone 17 = .ok (.iconst (-1), 1) := by decide +kernel
theorem dX7_cone_18 : decode cX7_cone 18 = .ok (.ireturn, 1) := by decide +kernel
theorem dX7_cone_19 : decode cX7_cone 19 = .ok (.aload_n 0, 1) := by decide +kernel
theorem dX7_cone_20 : decode cX7_cone 20 = .ok (.aload_n 0, 1) := by decide +kernel
theorem dX7_cone_21 : decode cX7_cone 21 = .ok (.getfield 74, 3) := by decide +kernel
theorem dX7_cone_24 : decode cX7_cone 24 = .ok (.aload_n 3, 1) := by decide +kernel
theorem dX7_cone_25 : decode cX7_cone 25 = .ok (.invokevirtual 231, 3) := by decide +kernel
theorem dX7_cone_28 : decode cX7_cone 28 = .ok (.aload_n 0, 1) := by decide +kernel
theorem dX7_cone_29 : decode cX7_cone 29 = .ok (.getfield 74, 3) := by decide +kernel
theorem dX7_cone_32 : decode cX7_cone 32 = .ok (.iload_n 2, 1) := by decide +kernel
theorem dX7_cone_33 : decode cX7_cone 33 = .ok (.invokevirtual 235, 3) := by decide +kernel
theorem dX7_cone_36 : decode cX7_cone 36 = .ok (.ifCond .eq 7, 3) := by decide +kernel
theorem dX7_cone_39 : decode cX7_cone 39 = .ok (.iconst 1, 1) := by decide +kernel
theorem dX7_cone_40 : decode cX7_cone 40 = .ok (.goto 4, 3) := by decide +kernel
theorem dX7_cone_43 : decode cX7_cone 43 = .ok (.iconst 0, 1) := by decide +kernel
theorem dX7_cone_44 : decode cX7_cone 44 = .ok (.ireturn, 1) := by decide +kernel
def f_X7_cone (z : Nat → Nat) (M : Mem) (p1 : Int32) (p2 : Int32) : Option (Int32 × Mem) := bd1 (f_X7_flyerAt z M p1) (fun r1 => mq r1 (some ((-1), M)) (fun n2 => bd1 (f_X7_isPlace z M p2) (fun r3 => if r3 = true then bd1 (f_X7_spreadCone z 65 n2 M) (fun M4 => bd1 (f_X0_holds z 65 M4 p2) (fun r5 => if r5 = true then some (1, M4) else some (0, M4))) else some ((-1), M))))
theorem c_X7_cone {l : Launch} {G : GG} {a : AA} {M : Mem} {p1 : Int32} {p2 : Int32} {r : Int32} {M' : Mem} (hf : f_X7_cone a.1 M p1 p2 = some (r, M')) : CtI l G a yX7_cone cX7_cone 4 .int (rmD 4) [.ref (a.2 50), .int p1, .int p2] M r M' := by
  refine ct_I (by decide) rfl rfl (own := RX7) (Nat.le_of_ble_eq_true rfl) (fun K hl hg S rt => ?_)
  subst hl; subst hg
  unfold f_X7_cone at hf
  show Go K 4 a M 0 [(0, .ref (a.2 50)), (1, .int p1), (2, .int p2)] []
  refine g_aload_n 0 S dX7_cone_0 rfl ?_
  refine g_iload_n 1 S dX7_cone_1 rfl ?_
  obtain ⟨r1, hr1, hf⟩ := bd1_some hf
  refine g_cVQ (st := []) S ob_50 rfl ok_X7_flyerAt lk_X7_219 (c_X7_flyerAt hr1) rfl rfl ⟨by decide, by decide⟩ (rmD_z _) (Nat.le_of_ble_eq_true rfl) dX7_cone_2 ?_
  rcases r1 with _ | n2
  · have hf := mq_n hf
    refine Go.st (st' := [.null]) rfl ?_
    refine g_astore_nN (lv' := [(3, .null), (0, .ref (a.2 50)), (1, .int p1), (2, .int p2)]) S dX7_cone_5 (by decide) rfl ?_
    refine g_aload_nN 0 S dX7_cone_6 rfl ?_
    refine g_ifnullN (tgt := 17) S dX7_cone_7 (by decide) ?_
    refine g_iconst (v := (-1)) S dX7_cone_17 rfl ?_
    exact g_iretM rt hf dX7_cone_18
  · have hn2 := vd_X7_flyerAt hr1
    have hf := mq_s hf
    refine Go.st (st' := [.ref (a.2 n2)]) rfl ?_
    refine g_astore_n (lv' := [(3, .ref (a.2 n2)), (0, .ref (a.2 50)), (1, .int p1), (2, .int p2)]) S dX7_cone_5 (by decide) rfl ?_
    refine g_aload_n 0 S dX7_cone_6 rfl ?_
    refine g_ifnull S dX7_cone_7 ?_
    refine g_iload_n 3 S dX7_cone_10 rfl ?_
    obtain ⟨r3, hr3, hf⟩ := bd1_some hf
    refine g_cSI (st := []) S ok_X7_isPlace lk_X7_209 (c_X7_isPlace hr3) rfl rfl ⟨by decide, by decide⟩ (rmD_z _) (Nat.le_of_ble_eq_true rfl) dX7_cone_11 ?_
    refine g_if_neB (tgt := 19) S dX7_cone_14 (by decide) hf (fun c hf => ?_) (fun c hf => ?_)
    · refine g_aload_n 1 S dX7_cone_19 rfl ?_
      refine g_aload_n 1 S dX7_cone_20 rfl ?_
      refine g_get (v := .ref (a.2 65)) S ob_50 rfl gi_X7 (by decide) lf_X7_74 rfl dX7_cone_21 ?_
      refine g_aload_n 0 S dX7_cone_24 rfl ?_
      obtain ⟨M4, hM4, hf⟩ := bd1_some hf
      refine g_cVV (st := []) S ob_50 rfl ok_X7_spreadCone lk_X7_231 (c_X7_spreadCone (Or.inl rfl) hn2 hM4) rfl rfl ⟨by decide, by decide⟩ (rmD_z _) (Nat.le_of_ble_eq_true rfl) dX7_cone_25 ?_
      refine g_aload_n 1 S dX7_cone_28 rfl ?_
      refine g_get (v := .ref (a.2 65)) S ob_50 rfl gi_X7 (by decide) lf_X7_74 rfl dX7_cone_29 ?_
      refine g_iload_n 3 S dX7_cone_32 rfl ?_
      obtain ⟨r5, hr5, hf⟩ := bd1_some hf
      refine g_cVI (st := []) S (ob_C (Or.inl rfl)) rfl ok_X0_holds lk_X7_235 (c_X0_holds (Or.inl rfl) hr5) rfl rfl ⟨by decide, by decide⟩ (rmD_z _) (Nat.le_of_ble_eq_true rfl) dX7_cone_33 ?_
      refine g_if_eqB (tgt := 43) S dX7_cone_36 (by decide) hf (fun c hf => ?_) (fun c hf => ?_)
      · refine g_iconst (v := 1) S dX7_cone_39 rfl ?_
        refine g_goto (tgt := 44) S dX7_cone_40 (by decide) ?_
        exact g_iretM rt hf dX7_cone_44
      · refine g_iconst (v := 0) S dX7_cone_43 rfl ?_
        exact g_iretM rt hf dX7_cone_44
    · refine g_iconst (v := (-1)) S dX7_cone_17 rfl ?_
      exact g_iretM rt hf dX7_cone_18
-- BridleBook.areTwoLines(II)Z
theorem dX7_areTwoLines_0 : decode cX7_areTwoLines 0 = .ok (.iload_n 1, 1) := by decide +kernel
theorem dX7_areTwoLines_1 : decode cX7_areTwoLines 1 = .ok (.iload_n 2, 1) := by decide +kernel
theorem dX7_areTwoLines_2 : decode cX7_areTwoLines 2 = .ok (.if_icmp .eq 23, 3) := by decide +kernel
theorem dX7_areTwoLines_5 : decode cX7_areTwoLines 5 = .ok (.aload_n 0, 1) := by decide +kernel
theorem dX7_areTwoLines_6 : decode cX7_areTwoLines 6 = .ok (.iload_n 1, 1) := by decide +kernel
theorem dX7_areTwoLines_7 : decode cX7_areTwoLines 7 = .ok (.invokevirtual 150, 3) := by decide +kernel
theorem dX7_areTwoLines_10 : decode cX7_areTwoLines 10 = .ok (.ifnull 15, 3) := by decide +kernel
theorem dX7_areTwoLines_13 : decode cX7_areTwoLines 13 = .ok (.aload_n 0, 1) := by decide +kernel
theorem dX7_areTwoLines_14 : decode cX7_areTwoLines 14 = .ok (.iload_n 2, 1) := by decide +kernel
theorem dX7_areTwoLines_15 : decode cX7_areTwoLines 15 = .ok (.invokevirtual 150, 3) := by decide +kernel
theorem dX7_areTwoLines_18 : decode cX7_areTwoLines 18 = .ok (.ifnull 7, 3) := by decide +kernel
theorem dX7_areTwoLines_21 : decode cX7_areTwoLines 21 = .ok (.iconst 1, 1) := by decide +kernel
theorem dX7_areTwoLines_22 : decode cX7_areTwoLines 22 = .ok (.goto 4, 3) := by decide +kernel
theorem dX7_areTwoLines_25 : decode cX7_areTwoLines 25 = .ok (.iconst 0, 1) := by decide +kernel
theorem dX7_areTwoLines_26 : decode cX7_areTwoLines 26 = .ok (.ireturn, 1) := by decide +kernel
def f_X7_areTwoLines (z : Nat → Nat) (M : Mem) (p1 : Int32) (p2 : Int32) : Option Bool := if p1 = p2 then some false else bd1 (f_X7_lineAt z M p1) (fun r1 => mq r1 (some false) (fun n2 => bd1 (f_X7_lineAt z M p2) (fun r3 => mq r3 (some false) (fun n4 => some true))))
theorem c_X7_areTwoLines {l : Launch} {G : GG} {a : AA} {M : Mem} {p1 : Int32} {p2 : Int32} {r : Bool} (hf : f_X7_areTwoLines a.1 M p1 p2 = some r) : CtI l G a yX7_areTwoLines cX7_areTwoLines 3 .boolean (rmD 2) [.ref (a.2 50), .int p1, .int p2] M (b2i r) M := by
  refine ct_I (by decide) rfl (b2i_n _) (own := RX7) (Nat.le_of_ble_eq_true rfl) (fun K hl hg S rt => ?_)
  subst hl; subst hg
  unfold f_X7_areTwoLines at hf
  show Go K 3 a M 0 [(0, .ref (a.2 50)), (1, .int p1), (2, .int p2)] []
  refine g_iload_n 1 S dX7_areTwoLines_0 rfl ?_
  refine g_iload_n 2 S dX7_areTwoLines_1 rfl ?_
  refine g_icmp_eq (tgt := 25) S dX7_areTwoLines_2 (by decide) hf (fun c hf => ?_) (fun c hf => ?_)
  · refine g_iconst (v := 0) S dX7_areTwoLines_25 rfl ?_
    exact g_zretP rt hf dX7_areTwoLines_26 rfl
  · refine g_aload_n 0 S dX7_areTwoLines_5 rfl ?_
    refine g_iload_n 1 S dX7_areTwoLines_6 rfl ?_
    obtain ⟨r1, hr1, hf⟩ := bd1_some hf
    refine g_cVQ (st := []) S ob_50 rfl ok_X7_lineAt lk_X7_150 (c_X7_lineAt hr1) rfl rfl ⟨by decide, by decide⟩ (rmD_z _) (Nat.le_of_ble_eq_true rfl) dX7_areTwoLines_7 ?_
    rcases r1 with _ | n2
    · have hf := mq_n hf
      refine Go.st (st' := [.null]) rfl ?_
      refine g_ifnullN (tgt := 25) S dX7_areTwoLines_10 (by decide) ?_
      refine g_iconst (v := 0) S dX7_areTwoLines_25 rfl ?_
      exact g_zretP rt hf dX7_areTwoLines_26 rfl
    · have hn2 := vd_X7_lineAt hr1
      have hf := mq_s hf
      refine Go.st (st' := [.ref (a.2 n2)]) rfl ?_
      refine g_ifnull S dX7_areTwoLines_10 ?_
      refine g_aload_n 0 S dX7_areTwoLines_13 rfl ?_
      refine g_iload_n 2 S dX7_areTwoLines_14 rfl ?_
      obtain ⟨r3, hr3, hf⟩ := bd1_some hf
      refine g_cVQ (st := []) S ob_50 rfl ok_X7_lineAt lk_X7_150 (c_X7_lineAt hr3) rfl rfl ⟨by decide, by decide⟩ (rmD_z _) (Nat.le_of_ble_eq_true rfl) dX7_areTwoLines_15 ?_
      rcases r3 with _ | n4
      · have hf := mq_n hf
        refine Go.st (st' := [.null]) rfl ?_
        refine g_ifnullN (tgt := 25) S dX7_areTwoLines_18 (by decide) ?_
        refine g_iconst (v := 0) S dX7_areTwoLines_25 rfl ?_
        exact g_zretP rt hf dX7_areTwoLines_26 rfl
      · have hn4 := vd_X7_lineAt hr3
        have hf := mq_s hf
        refine Go.st (st' := [.ref (a.2 n4)]) rfl ?_
        refine g_ifnull S dX7_areTwoLines_18 ?_
        refine g_iconst (v := 1) S dX7_areTwoLines_21 rfl ?_
        refine g_goto (tgt := 26) S dX7_areTwoLines_22 (by decide) ?_
        exact g_zretP rt hf dX7_areTwoLines_26 rfl
